def pX3_outcome (σ : SS) (a1 : Int32) : Option Int32 := (if a1 = (0 : Int32) then some (σ 14 8) else (if a1 = (1 : Int32) then some (σ 14 12) else (if a1 = (2 : Int32) then some ((σ 20 8) - (σ 7 8)) else q_cr (pX9_harmedWorth (q_sb σ 22)) (fun (r4 : Int32) => some r4))))
theorem fwX3_outcome_X0 : ∀ w ∈ wsX00, w ∈ wsX3_outcome := fun _ h => List.mem_cons_of_mem _ (List.mem_append_left _ (List.mem_append_left _ (List.mem_append_right _ h)))
theorem fwX3_outcome_X3 : ∀ w ∈ wsX30, w ∈ wsX3_outcome := fun _ h => List.mem_cons_of_mem _ (List.mem_append_left _ (List.mem_append_left _ (List.mem_append_left _ (List.mem_append_right _ h))))
theorem fwX3_outcome_X4 : ∀ w ∈ wsX40, w ∈ wsX3_outcome := fun _ h => List.mem_cons_of_mem _ (List.mem_append_left _ (List.mem_append_right _ h))
abbrev rmX3_outcome : Room := { frames := 2, cells := 0, slots := 0, locals := 43 }
set_option maxHeartbeats 4000000 in
set_option maxRecDepth 100000 in
theorem kX3_outcome (l : Launch) (D : va_G) (cI cZ cS : ClassId) (zz : ZT) (ad : Nat → Nat) (σ : SS) (a1 : Int32) (rr : Int32) (hf : pX3_outcome σ a1 = some rr) : CI l yX3_outcome wsX3_outcome rmX3_outcome D (K3 cI cZ cS) zz [.ref (ad 0), .int a1] (wX3 cI cZ cS ad σ) (wX3 cI cZ cS ad σ) rr := by
  refine q_ofI (cc := cX3_outcome) (maxL := 2) (ty := .int) (by decide) rfl (Nat.le_of_ble_eq_true rfl) ?_
  intro p e s m below meth c Q A ls hx hb hml hown hts hK hZ hA hP hD hS hl hret
  have hl : lv_has ls 2 [(0, .ref (ad 0)), (1, .int a1)] := hl
  unfold pX3_outcome at hf
  refine lv_iload_n hx hb dX3_outcome_0 rfl (lv_at hl 1 rfl) ?_
  by_cases h1 : a1 = (0 : Int32)
  · have hf := (if_pos h1).symm.trans hf
    refine lv_tableIn (tgt := 28) hx hb dX3_outcome_1 (by rw [h1]; decide) (by rw [h1]; decide) (by rw [h1]; rfl) (by decide) ?_
    refine lv_aload_n hx hb dX3_outcome_28 rfl (lv_at hl 0 rfl) ?_
    refine va_get (D := D) (ci := 3) (C := RX3) (T := TX3) (N := 3) hx hb hts fwX3_outcome_X3 hown hK hP 0 rfl rfl 1 (by decide) (hts _ (List.mem_of_getElem? (i := 1) rfl)) (fun _ h9 => h9) rfl dX3_outcome_29 ?_
    refine va_get (D := D) (ci := 0) (C := RX0) (T := TX0) (N := 13) hx hb hts fwX3_outcome_X0 hown hK hP 14 rfl rfl 8 (by decide) (hts _ (List.mem_of_getElem? (i := 2) rfl)) (fun _ h9 => h9) rfl dX3_outcome_32 ?_
    have hi1 := Option.some.inj hf
    subst hi1
    exact hret _ _ _ _ dX3_outcome_35 rfl hP hS
  have hf := (if_neg h1).symm.trans hf
  by_cases h2 : a1 = (1 : Int32)
  · have hf := (if_pos h2).symm.trans hf
    refine lv_tableIn (tgt := 36) hx hb dX3_outcome_1 (by rw [h2]; decide) (by rw [h2]; decide) (by rw [h2]; rfl) (by decide) ?_
    refine lv_aload_n hx hb dX3_outcome_36 rfl (lv_at hl 0 rfl) ?_
    refine va_get (D := D) (ci := 3) (C := RX3) (T := TX3) (N := 3) hx hb hts fwX3_outcome_X3 hown hK hP 0 rfl rfl 1 (by decide) (hts _ (List.mem_of_getElem? (i := 1) rfl)) (fun _ h9 => h9) rfl dX3_outcome_37 ?_
    refine va_get (D := D) (ci := 0) (C := RX0) (T := TX0) (N := 13) hx hb hts fwX3_outcome_X0 hown hK hP 14 rfl rfl 12 (by decide) (hts _ (List.mem_of_getElem? (i := 3) rfl)) (fun _ h9 => h9) rfl dX3_outcome_40 ?_
    have hi1 := Option.some.inj hf
    subst hi1
    exact hret _ _ _ _ dX3_outcome_43 rfl hP hS
  have hf := (if_neg h2).symm.trans hf
  by_cases h3 : a1 = (2 : Int32)
  · have hf := (if_pos h3).symm.trans hf
    refine lv_tableIn (tgt := 44) hx hb dX3_outcome_1 (by rw [h3]; decide) (by rw [h3]; decide) (by rw [h3]; rfl) (by decide) ?_
    refine lv_aload_n hx hb dX3_outcome_44 rfl (lv_at hl 0 rfl) ?_
    refine va_get (D := D) (ci := 3) (C := RX3) (T := TX3) (N := 3) hx hb hts fwX3_outcome_X3 hown hK hP 0 rfl rfl 1 (by decide) (hts _ (List.mem_of_getElem? (i := 1) rfl)) (fun _ h9 => h9) rfl dX3_outcome_45 ?_
    refine va_get (D := D) (ci := 0) (C := RX0) (T := TX0) (N := 13) hx hb hts fwX3_outcome_X0 hown hK hP 14 rfl rfl 1 (by decide) (hts _ (List.mem_of_getElem? (i := 4) rfl)) (fun _ h9 => h9) rfl dX3_outcome_48 ?_
    refine va_get (D := D) (ci := 4) (C := RX4) (T := TX4) (N := 11) hx hb hts fwX3_outcome_X4 hown hK hP 20 rfl rfl 8 (by decide) (hts _ (List.mem_of_getElem? (i := 5) rfl)) (fun _ h9 => h9) rfl dX3_outcome_51 ?_
    refine lv_aload_n hx hb dX3_outcome_54 rfl (lv_at hl 0 rfl) ?_
    refine va_get (D := D) (ci := 3) (C := RX3) (T := TX3) (N := 3) hx hb hts fwX3_outcome_X3 hown hK hP 0 rfl rfl 0 (by decide) (hts _ (List.mem_of_getElem? (i := 6) rfl)) (fun _ h9 => h9) rfl dX3_outcome_55 ?_
    refine va_get (D := D) (ci := 0) (C := RX0) (T := TX0) (N := 13) hx hb hts fwX3_outcome_X0 hown hK hP 1 rfl rfl 1 (by decide) (hts _ (List.mem_of_getElem? (i := 4) rfl)) (fun _ h9 => h9) rfl dX3_outcome_58 ?_
    refine va_get (D := D) (ci := 4) (C := RX4) (T := TX4) (N := 11) hx hb hts fwX3_outcome_X4 hown hK hP 7 rfl rfl 8 (by decide) (hts _ (List.mem_of_getElem? (i := 5) rfl)) (fun _ h9 => h9) rfl dX3_outcome_61 ?_
    refine lv_isub hx hb dX3_outcome_64 ?_
    have hi1 := Option.some.inj hf
    subst hi1
    exact hret _ _ _ _ dX3_outcome_65 rfl hP hS
  have hf := (if_neg h3).symm.trans hf
  refine lv_tableOut (tgt := 66) hx hb dX3_outcome_1 (by have := q_ne h1 (z := 0) rfl; have := q_ne h2 (z := 1) rfl; have := q_ne h3 (z := 2) rfl; omega) (by decide) ?_
  refine lv_aload_n hx hb dX3_outcome_66 rfl (lv_at hl 0 rfl) ?_
  refine va_get (D := D) (ci := 3) (C := RX3) (T := TX3) (N := 3) hx hb hts fwX3_outcome_X3 hown hK hP 0 rfl rfl 1 (by decide) (hts _ (List.mem_of_getElem? (i := 1) rfl)) (fun _ h9 => h9) rfl dX3_outcome_67 ?_
  refine va_get (D := D) (ci := 0) (C := RX0) (T := TX0) (N := 13) hx hb hts fwX3_outcome_X0 hown hK hP 14 rfl rfl 2 (by decide) (hts _ (List.mem_of_getElem? (i := 7) rfl)) (fun _ h9 => h9) rfl dX3_outcome_70 ?_
  refine q_cVr (wf := (wX3 cI cZ cS ad)) (wc := wX9 cI cZ cS (fun i => ad (22 + i))) (rest := []) ⟨hx, hb, hml, hown, hts⟩ hK hZ hA hP hD hS hf (fun x ho => kX9_harmedWorth l D cI cZ cS zz (fun i => ad (22 + i)) (q_sb σ 22) x ho) (cwV 0 hts gX3_outcome_X9_harmedWorth rfl rfl rfl ndX9_harmedWorth ⟨Nat.le_of_ble_eq_true rfl, Nat.le_of_ble_eq_true rfl⟩) [22, 23, 24, 25] rfl rfl rfl rfl rfl rfl (hl.1) rfl (Nat.le_of_ble_eq_true rfl) dX3_outcome_73 ⟨Nat.zero_le _, Nat.zero_le _⟩ (fun r4 H locs hf hP hD hS => ?_)
  have hi1 := Option.some.inj hf
  subst hi1
  exact hret _ _ _ _ dX3_outcome_76 rfl hP hS
def pX3_behindMinutes (σ : SS) (a1 : Int32) (a2 : Int32) : Option (Int32 × SS) := q_cs (pX3_begin σ) (fun (τ : SS) => τ) (fun (σ1 : SS) => q_cs (pX0_passMinutes (q_sb σ1 14) a1) (fun (τ : SS) => (q_em σ1 14 0 13 τ)) (fun (σ2 : SS) => q_cr (pX3_outcome σ2 a2) (fun (r3 : Int32) => some (r3, σ2))))
theorem fwX3_behindMinutes_X3 : ∀ w ∈ wsX30, w ∈ wsX3_behindMinutes := fun _ h => List.mem_cons_of_mem _ (List.mem_append_left _ (List.mem_append_left _ (List.mem_append_left _ (List.mem_append_left _ (List.mem_append_right _ h)))))
abbrev rmX3_behindMinutes : Room := { frames := 5, cells := 0, slots := 0, locals := 142 }
set_option maxHeartbeats 4000000 in
set_option maxRecDepth 100000 in
theorem kX3_behindMinutes (l : Launch) (D : va_G) (cI cZ cS : ClassId) (zz : ZT) (ad : Nat → Nat) (σ : SS) (a1 : Int32) (a2 : Int32) (rr : Int32) (σr : SS) (hf : pX3_behindMinutes σ a1 a2 = some (rr, σr)) : CI l yX3_behindMinutes wsX3_behindMinutes rmX3_behindMinutes D (K3 cI cZ cS) zz [.ref (ad 0), .int a1, .int a2] (wX3 cI cZ cS ad σ) (wX3 cI cZ cS ad σr) rr := by
  refine q_ofI (cc := cX3_behindMinutes) (maxL := 3) (ty := .int) (by decide) rfl (Nat.le_of_ble_eq_true rfl) ?_
  intro p e s m below meth c Q A ls hx hb hml hown hts hK hZ hA hP hD hS hl hret
  have hl : lv_has ls 3 [(0, .ref (ad 0)), (1, .int a1), (2, .int a2)] := hl
  unfold pX3_behindMinutes at hf
  refine lv_aload_n hx hb dX3_behindMinutes_0 rfl (lv_at hl 0 rfl) ?_
  refine q_cVv (wf := (wX3 cI cZ cS ad)) (wc := wX3 cI cZ cS ad) (rest := []) ⟨hx, hb, hml, hown, hts⟩ hK hZ hA hP hD hS hf (fun x ho => kX3_begin l D cI cZ cS zz ad σ x ho) (cwV 0 hts gX3_behindMinutes_X3_begin rfl rfl rfl ndX3_begin ⟨Nat.le_of_ble_eq_true rfl, Nat.le_of_ble_eq_true rfl⟩) [0, 1, 2, 3, 4, 5, 6, 7, 8, 9, 10, 11, 12, 13, 14, 15, 16, 17, 18, 19, 20, 21, 22, 23, 24, 25, 26, 27] rfl rfl [some 0, some 1, some 2, some 3, some 4, some 5, some 6, some 7, some 8, some 9, some 10, some 11, some 12, some 13, some 14, some 15, some 16, some 17, some 18, some 19, some 20, some 21, some 22, some 23, some 24, some 25, some 26, some 27] (by decide +kernel) (Nat.le_of_ble_eq_true rfl) (fun _ => rfl) (fun _ => rfl) (fun _ => rfl) rfl rfl rfl rfl (hl.1) rfl (Nat.le_of_ble_eq_true rfl) dX3_behindMinutes_1 ⟨Nat.zero_le _, Nat.zero_le _⟩ (fun σ1 H locs hf hP hD hS => ?_)
  refine lv_aload_n hx hb dX3_behindMinutes_4 rfl (lv_at hl 0 rfl) ?_
  refine va_get (D := D) (ci := 3) (C := RX3) (T := TX3) (N := 3) hx hb hts fwX3_behindMinutes_X3 hown hK hP 0 rfl rfl 1 (by decide) (hts _ (List.mem_of_getElem? (i := 1) rfl)) (fun _ h9 => h9) rfl dX3_behindMinutes_5 ?_
  refine lv_iload_n hx hb dX3_behindMinutes_8 rfl (lv_at hl 1 rfl) ?_
  refine q_cVv (wf := (wX3 cI cZ cS ad)) (wc := wX0 cI cZ cS (fun i => ad (14 + i))) (rest := []) ⟨hx, hb, hml, hown, hts⟩ hK hZ hA hP hD hS hf (fun x ho => kX0_passMinutes l D cI cZ cS zz (fun i => ad (14 + i)) (q_sb σ1 14) a1 x ho) (cwV 1 hts gX3_behindMinutes_X0_passMinutes rfl rfl rfl ndX0_passMinutes ⟨Nat.le_of_ble_eq_true rfl, Nat.le_of_ble_eq_true rfl⟩) [14, 15, 16, 17, 18, 19, 20, 21, 22, 23, 24, 25, 26] rfl rfl [none, none, none, none, none, none, none, none, none, none, none, none, none, none, some 0, some 1, some 2, some 3, some 4, some 5, some 6, some 7, some 8, some 9, some 10, some 11, some 12, none] (by decide +kernel) (Nat.le_of_ble_eq_true rfl) (fun _ => rfl) (fun _ => rfl) (fun _ => rfl) rfl rfl rfl rfl (hl.1) rfl (Nat.le_of_ble_eq_true rfl) dX3_behindMinutes_9 ⟨Nat.zero_le _, Nat.zero_le _⟩ (fun σ2 H locs hf hP hD hS => ?_)
  refine lv_aload_n hx hb dX3_behindMinutes_12 rfl (lv_at hl 0 rfl) ?_
  refine lv_iload_n hx hb dX3_behindMinutes_13 rfl (lv_at hl 2 rfl) ?_
  refine q_cVr (wf := (wX3 cI cZ cS ad)) (wc := wX3 cI cZ cS ad) (rest := []) ⟨hx, hb, hml, hown, hts⟩ hK hZ hA hP hD hS hf (fun x ho => kX3_outcome l D cI cZ cS zz ad σ2 a2 x ho) (cwV 1 hts gX3_behindMinutes_X3_outcome rfl rfl rfl ndX3_outcome ⟨Nat.le_of_ble_eq_true rfl, Nat.le_of_ble_eq_true rfl⟩) [0, 1, 2, 3, 4, 5, 6, 7, 8, 9, 10, 11, 12, 13, 14, 15, 16, 17, 18, 19, 20, 21, 22, 23, 24, 25, 26, 27] rfl rfl rfl rfl rfl rfl (hl.1) rfl (Nat.le_of_ble_eq_true rfl) dX3_behindMinutes_14 ⟨Nat.zero_le _, Nat.zero_le _⟩ (fun r3 H locs hf hP hD hS => ?_)
  obtain ⟨hi1, hi2⟩ := Prod.mk.inj (Option.some.inj hf)
  subst hi1
  subst hi2
  exact hret _ _ _ _ dX3_behindMinutes_17 rfl hP hS
def pX3_behindSky (σ : SS) (a2 : Int32) (a3 : Int32) : Option (Int32 × SS) := q_cs (pX3_begin (q_sb σ 0)) (fun (τ : SS) => (q_em σ 0 0 28 τ)) (fun (σ1 : SS) => q_cs (pX7_perform (q_ap 4 (q_sb σ1 28) (q_sb σ1 14)) a2) (fun (τ : SS) => (q_em (q_em σ1 28 0 4 τ) 14 4 13 τ)) (fun (σ2 : SS) => q_cr (pX3_outcome (q_sb σ2 0) a3) (fun (r3 : Int32) => some (r3, σ2))))
theorem fwX3_behindSky_X3 : ∀ w ∈ wsX30, w ∈ wsX3_behindSky := fun _ h => List.mem_cons_of_mem _ (List.mem_append_left _ (List.mem_append_left _ (List.mem_append_left _ (List.mem_append_left _ (List.mem_append_left _ (List.mem_append_right _ h))))))
abbrev rmX3_behindSky : Room := { frames := 5, cells := 0, slots := 0, locals := 142 }
set_option maxHeartbeats 4000000 in
set_option maxRecDepth 100000 in
theorem kX3_behindSky (l : Launch) (D : va_G) (cI cZ cS : ClassId) (zz : ZT) (ad : Nat → Nat) (σ : SS) (a2 : Int32) (a3 : Int32) (rr : Int32) (σr : SS) (hf : pX3_behindSky σ a2 a3 = some (rr, σr)) : CI l yX3_behindSky wsX3_behindSky rmX3_behindSky D (K3 cI cZ cS) zz [.ref (ad 0), .ref (ad 28), .int a2, .int a3] (wX3_X7 cI cZ cS ad σ) (wX3_X7 cI cZ cS ad σr) rr := by
  refine q_ofI (cc := cX3_behindSky) (maxL := 4) (ty := .int) (by decide) rfl (Nat.le_of_ble_eq_true rfl) ?_
  intro p e s m below meth c Q A ls hx hb hml hown hts hK hZ hA hP hD hS hl hret
  have hl : lv_has ls 4 [(0, .ref (ad 0)), (1, .ref (ad 28)), (2, .int a2), (3, .int a3)] := hl
  unfold pX3_behindSky at hf
  refine lv_aload_n hx hb dX3_behindSky_0 rfl (lv_at hl 0 rfl) ?_
  refine q_cVv (wf := (wX3_X7 cI cZ cS ad)) (wc := wX3 cI cZ cS (fun i => ad (0 + i))) (rest := []) ⟨hx, hb, hml, hown, hts⟩ hK hZ hA hP hD hS hf (fun x ho => kX3_begin l D cI cZ cS zz (fun i => ad (0 + i)) (q_sb σ 0) x ho) (cwV 0 hts gX3_behindSky_X3_begin rfl rfl rfl ndX3_begin ⟨Nat.le_of_ble_eq_true rfl, Nat.le_of_ble_eq_true rfl⟩) [0, 1, 2, 3, 4, 5, 6, 7, 8, 9, 10, 11, 12, 13, 14, 15, 16, 17, 18, 19, 20, 21, 22, 23, 24, 25, 26, 27] rfl rfl [some 0, some 1, some 2, some 3, some 4, some 5, some 6, some 7, some 8, some 9, some 10, some 11, some 12, some 13, some 14, some 15, some 16, some 17, some 18, some 19, some 20, some 21, some 22, some 23, some 24, some 25, some 26, some 27, none, none, none, none] (by decide +kernel) (Nat.le_of_ble_eq_true rfl) (fun _ => rfl) (fun _ => rfl) (fun _ => rfl) rfl rfl rfl rfl (hl.1) rfl (Nat.le_of_ble_eq_true rfl) dX3_behindSky_1 ⟨Nat.zero_le _, Nat.zero_le _⟩ (fun σ1 H locs hf hP hD hS => ?_)
  refine lv_aload_n hx hb dX3_behindSky_4 rfl (lv_at hl 1 rfl) ?_
  refine lv_iload_n hx hb dX3_behindSky_5 rfl (lv_at hl 2 rfl) ?_
  refine lv_aload_n hx hb dX3_behindSky_6 rfl (lv_at hl 0 rfl) ?_
  refine va_get (D := D) (ci := 3) (C := RX3) (T := TX3) (N := 3) hx hb hts fwX3_behindSky_X3 hown hK hP 0 rfl rfl 1 (by decide) (hts _ (List.mem_of_getElem? (i := 1) rfl)) (fun _ h9 => h9) rfl dX3_behindSky_7 ?_
  refine q_cVv (wf := (wX3_X7 cI cZ cS ad)) (wc := wX7_X0 cI cZ cS (fun i => ad (if i < 4 then 28 + i else 14 + (i - 4)))) (rest := []) ⟨hx, hb, hml, hown, hts⟩ hK hZ hA hP hD hS hf (fun x ho => kX7_perform l D cI cZ cS zz (fun i => ad (if i < 4 then 28 + i else 14 + (i - 4))) (q_ap 4 (q_sb σ1 28) (q_sb σ1 14)) a2 x ho) (cwV 2 hts gX3_behindSky_X7_perform rfl rfl rfl ndX7_perform ⟨Nat.le_of_ble_eq_true rfl, Nat.le_of_ble_eq_true rfl⟩) [28, 29, 30, 31, 14, 15, 16, 17, 18, 19, 20, 21, 22, 23, 24, 25, 26] rfl rfl [none, none, none, none, none, none, none, none, none, none, none, none, none, none, some 4, some 5, some 6, some 7, some 8, some 9, some 10, some 11, some 12, some 13, some 14, some 15, some 16, none, some 0, some 1, some 2, some 3] (by decide +kernel) (Nat.le_of_ble_eq_true rfl) (fun _ => rfl) (fun _ => rfl) (fun _ => rfl) rfl rfl rfl rfl (hl.1) rfl (Nat.le_of_ble_eq_true rfl) dX3_behindSky_10 ⟨Nat.zero_le _, Nat.zero_le _⟩ (fun σ2 H locs hf hP hD hS => ?_)
  refine lv_aload_n hx hb dX3_behindSky_13 rfl (lv_at hl 0 rfl) ?_
  refine lv_iload_n hx hb dX3_behindSky_14 rfl (lv_at hl 3 rfl) ?_
  refine q_cVr (wf := (wX3_X7 cI cZ cS ad)) (wc := wX3 cI cZ cS (fun i => ad (0 + i))) (rest := []) ⟨hx, hb, hml, hown, hts⟩ hK hZ hA hP hD hS hf (fun x ho => kX3_outcome l D cI cZ cS zz (fun i => ad (0 + i)) (q_sb σ2 0) a3 x ho) (cwV 1 hts gX3_behindSky_X3_outcome rfl rfl rfl ndX3_outcome ⟨Nat.le_of_ble_eq_true rfl, Nat.le_of_ble_eq_true rfl⟩) [0, 1, 2, 3, 4, 5, 6, 7, 8, 9, 10, 11, 12, 13, 14, 15, 16, 17, 18, 19, 20, 21, 22, 23, 24, 25, 26, 27] rfl rfl rfl rfl rfl rfl (hl.1) rfl (Nat.le_of_ble_eq_true rfl) dX3_behindSky_15 ⟨Nat.zero_le _, Nat.zero_le _⟩ (fun r3 H locs hf hP hD hS => ?_)
  obtain ⟨hi1, hi2⟩ := Prod.mk.inj (Option.some.inj hf)
  subst hi1
  subst hi2
  exact hret _ _ _ _ dX3_behindSky_18 rfl hP hS
def pX3_firstMinuteAbove (σ : SS) (a1 : Int32) : Option (Int32 × SS) := q_cs (pX3_begin σ) (fun (τ : SS) => τ) (fun (σ1 : SS) => q_lp (fun _ _ => none) (fun (c4 : SS → Int32 → Option (Int32 × SS)) (σ3 : SS) (x2_2 : Int32) => (if (400 : Int32) < x2_2 then some ((-1 : Int32), σ3) else q_cs (pX0_passMinute (q_sb σ3 14)) (fun (τ : SS) => (q_em σ3 14 0 13 τ)) (fun (σ8 : SS) => (if (σ8 14 8) ≤ a1 then c4 σ8 (x2_2 + (1 : Int32)) else some (x2_2, σ8))))) q_fu σ1 (1 : Int32))
theorem fwX3_firstMinuteAbove_X0 : ∀ w ∈ wsX00, w ∈ wsX3_firstMinuteAbove := fun _ h => List.mem_cons_of_mem _ (List.mem_append_left _ (List.mem_append_left _ (List.mem_append_left _ (List.mem_append_right _ h))))
theorem fwX3_firstMinuteAbove_X3 : ∀ w ∈ wsX30, w ∈ wsX3_firstMinuteAbove := fun _ h => List.mem_cons_of_mem _ (List.mem_append_left _ (List.mem_append_left _ (List.mem_append_left _ (List.mem_append_left _ (List.mem_append_right _ h)))))
abbrev rmX3_firstMinuteAbove : Room := { frames := 5, cells := 0, slots := 0, locals := 142 }
set_option maxHeartbeats 4000000 in
set_option maxRecDepth 100000 in
theorem kX3_firstMinuteAbove (l : Launch) (D : va_G) (cI cZ cS : ClassId) (zz : ZT) (ad : Nat → Nat) (σ : SS) (a1 : Int32) (rr : Int32) (σr : SS) (hf : pX3_firstMinuteAbove σ a1 = some (rr, σr)) : CI l yX3_firstMinuteAbove wsX3_firstMinuteAbove rmX3_firstMinuteAbove D (K3 cI cZ cS) zz [.ref (ad 0), .int a1] (wX3 cI cZ cS ad σ) (wX3 cI cZ cS ad σr) rr := by
  refine q_ofI (cc := cX3_firstMinuteAbove) (maxL := 3) (ty := .int) (by decide) rfl (Nat.le_of_ble_eq_true rfl) ?_
  intro p e s m below meth c Q A ls hx hb hml hown hts hK hZ hA hP hD hS hl hret
  have hl : lv_has ls 3 [(0, .ref (ad 0)), (1, .int a1)] := hl
  unfold pX3_firstMinuteAbove at hf
  refine lv_aload_n hx hb dX3_firstMinuteAbove_0 rfl (lv_at hl 0 rfl) ?_
  refine q_cVv (wf := (wX3 cI cZ cS ad)) (wc := wX3 cI cZ cS ad) (rest := []) ⟨hx, hb, hml, hown, hts⟩ hK hZ hA hP hD hS hf (fun x ho => kX3_begin l D cI cZ cS zz ad σ x ho) (cwV 0 hts gX3_firstMinuteAbove_X3_begin rfl rfl rfl ndX3_begin ⟨Nat.le_of_ble_eq_true rfl, Nat.le_of_ble_eq_true rfl⟩) [0, 1, 2, 3, 4, 5, 6, 7, 8, 9, 10, 11, 12, 13, 14, 15, 16, 17, 18, 19, 20, 21, 22, 23, 24, 25, 26, 27] rfl rfl [some 0, some 1, some 2, some 3, some 4, some 5, some 6, some 7, some 8, some 9, some 10, some 11, some 12, some 13, some 14, some 15, some 16, some 17, some 18, some 19, some 20, some 21, some 22, some 23, some 24, some 25, some 26, some 27] (by decide +kernel) (Nat.le_of_ble_eq_true rfl) (fun _ => rfl) (fun _ => rfl) (fun _ => rfl) rfl rfl rfl rfl (hl.1) rfl (Nat.le_of_ble_eq_true rfl) dX3_firstMinuteAbove_1 ⟨Nat.zero_le _, Nat.zero_le _⟩ (fun σ1 H locs hf hP hD hS => ?_)
  refine lv_iconst (v := 1) hx hb dX3_firstMinuteAbove_4 (by decide) ?_
  refine lv_istore_n (lv' := [(2, .int (1 : Int32)), (0, .ref (ad 0)), (1, .int a1)]) hx hb dX3_firstMinuteAbove_5 rfl hl (by decide) rfl (fun ls hl => ?_)
  refine q_lp_go (f := fun (zf : SS → Int32 → Option (Int32 × SS)) => zf σ1 (1 : Int32)) hf (fun z5 ez5 hf => ?_)
  have Lz5 : ∀ (n6 : Nat) (σ3 : SS) (x2_2 : Int32) (H : Heap) (locs : List Loc) (ls : Array Slot), va_P D vwCl ((wX3 cI cZ cS ad) σ3) H → va_D A ((wX3 cI cZ cS ad) σ3) → va_S A s.heap H locs → lv_has ls 3 [(0, .ref (ad 0)), (1, .int a1), (2, .int x2_2)] → q_lp (fun _ _ => none) z5 n6 σ3 x2_2 = some (rr, σr) → W p l e rmX3_firstMinuteAbove s m ([.ref (ad 0), .int a1] : List Value).toArray below meth c H locs 0 0 Q (F0 m 6 ls []) := by
    intro n6
    induction n6 with
    | zero => exact fun _ _ _ _ _ _ _ _ _ hf => q_no hf
    | succ n6 ihz5 =>
      intro σ3 x2_2 H locs ls hP hD hS hl hf
      have hf := (congrFun (congrFun (congrFun ez5 (q_lp (fun _ _ => none) z5 n6)) σ3) x2_2).symm.trans hf
      refine lv_iload_n hx hb dX3_firstMinuteAbove_6 rfl (lv_at hl 2 rfl) ?_
      refine lv_sipush (v := 400) hx hb dX3_firstMinuteAbove_7 (by decide) ?_
      refine lv_icmp_gt (tgt := 39) hx hb dX3_firstMinuteAbove_10 (by decide) (fun h7 => ?_) (fun h7 => ?_)
      · have hf := (if_pos h7).symm.trans hf
        refine lv_iconst (v := -1) hx hb dX3_firstMinuteAbove_39 (by decide) ?_
        obtain ⟨hi1, hi2⟩ := Prod.mk.inj (Option.some.inj hf)
        subst hi1
        subst hi2
        exact hret _ _ _ _ dX3_firstMinuteAbove_40 rfl hP hS
      · have hf := (if_neg h7).symm.trans hf
        refine lv_aload_n hx hb dX3_firstMinuteAbove_13 rfl (lv_at hl 0 rfl) ?_
        refine va_get (D := D) (ci := 3) (C := RX3) (T := TX3) (N := 3) hx hb hts fwX3_firstMinuteAbove_X3 hown hK hP 0 rfl rfl 1 (by decide) (hts _ (List.mem_of_getElem? (i := 1) rfl)) (fun _ h9 => h9) rfl dX3_firstMinuteAbove_14 ?_
        refine q_cVv (wf := (wX3 cI cZ cS ad)) (wc := wX0 cI cZ cS (fun i => ad (14 + i))) (rest := []) ⟨hx, hb, hml, hown, hts⟩ hK hZ hA hP hD hS hf (fun x ho => kX0_passMinute l D cI cZ cS zz (fun i => ad (14 + i)) (q_sb σ3 14) x ho) (cwV 0 hts gX3_firstMinuteAbove_X0_passMinute rfl rfl rfl ndX0_passMinute ⟨Nat.le_of_ble_eq_true rfl, Nat.le_of_ble_eq_true rfl⟩) [14, 15, 16, 17, 18, 19, 20, 21, 22, 23, 24, 25, 26] rfl rfl [none, none, none, none, none, none, none, none, none, none, none, none, none, none, some 0, some 1, some 2, some 3, some 4, some 5, some 6, some 7, some 8, some 9, some 10, some 11, some 12, none] (by decide +kernel) (Nat.le_of_ble_eq_true rfl) (fun _ => rfl) (fun _ => rfl) (fun _ => rfl) rfl rfl rfl rfl (hl.1) rfl (Nat.le_of_ble_eq_true rfl) dX3_firstMinuteAbove_17 ⟨Nat.zero_le _, Nat.zero_le _⟩ (fun σ8 H locs hf hP hD hS => ?_)
        refine lv_aload_n hx hb dX3_firstMinuteAbove_20 rfl (lv_at hl 0 rfl) ?_
        refine va_get (D := D) (ci := 3) (C := RX3) (T := TX3) (N := 3) hx hb hts fwX3_firstMinuteAbove_X3 hown hK hP 0 rfl rfl 1 (by decide) (hts _ (List.mem_of_getElem? (i := 1) rfl)) (fun _ h9 => h9) rfl dX3_firstMinuteAbove_21 ?_
        refine va_get (D := D) (ci := 0) (C := RX0) (T := TX0) (N := 13) hx hb hts fwX3_firstMinuteAbove_X0 hown hK hP 14 rfl rfl 8 (by decide) (hts _ (List.mem_of_getElem? (i := 2) rfl)) (fun _ h9 => h9) rfl dX3_firstMinuteAbove_24 ?_
        refine lv_iload_n hx hb dX3_firstMinuteAbove_27 rfl (lv_at hl 1 rfl) ?_
        refine lv_icmp_le (tgt := 33) hx hb dX3_firstMinuteAbove_28 (by decide) (fun h9 => ?_) (fun h9 => ?_)
        · have hf := (if_pos h9).symm.trans hf
          refine lv_iinc (v := (x2_2 + (1 : Int32))) (lv' := [(2, .int (x2_2 + (1 : Int32))), (0, .ref (ad 0)), (1, .int a1)]) hx hb dX3_firstMinuteAbove_33 hl (k := 2) rfl rfl (by decide) rfl (fun ls hl => ?_)
          refine lv_goto (tgt := 6) hx hb dX3_firstMinuteAbove_36 (by decide) ?_
          exact ihz5 σ8 (x2_2 + (1 : Int32)) _ _ _ hP hD hS (lv_sub hl [1, 2, 0] rfl) hf
        · have hf := (if_neg h9).symm.trans hf
          refine lv_iload_n hx hb dX3_firstMinuteAbove_31 rfl (lv_at hl 2 rfl) ?_
          obtain ⟨hi1, hi2⟩ := Prod.mk.inj (Option.some.inj hf)
          subst hi1
          subst hi2
          exact hret _ _ _ _ dX3_firstMinuteAbove_32 rfl hP hS
  exact Lz5 q_fu σ1 (1 : Int32) _ _ _ hP hD hS (lv_sub hl [1, 2, 0] rfl) hf
def pX3_risesAbove (σ : SS) (a1 : Int32) (a2 : Int32) (a3 : Int32) (a4 : Int32) : Option (Int32 × SS) := q_cs (pX3_begin σ) (fun (τ : SS) => τ) (fun (σ1 : SS) => q_lt (su σ1 14 6 a1) (fun (σ2 : SS) => q_lt (fun (σ3 : SS) => q_lp (fun _ _ => none) (fun (c7 : SS → Int32 → Option (Int32 × SS)) (σ6 : SS) (x5_5 : Int32) => (if a3 ≤ x5_5 then q_zz (0 : Int32) (some ((0 : Int32), σ6)) else q_cs (pX0_passMinute (q_sb σ6 14)) (fun (τ : SS) => (q_em σ6 14 0 13 τ)) (fun (σ11 : SS) => (if (σ11 14 8) ≤ a4 then c7 σ11 (x5_5 + (1 : Int32)) else q_zz (1 : Int32) (some ((1 : Int32), σ11)))))) q_fu σ3 (0 : Int32)) (fun j4 => (if a2 = (0 : Int32) then j4 σ2 else q_zz (0 : Int32) (q_lt (su σ2 20 5 (0 : Int32)) (fun (σ14 : SS) => j4 σ14))))))
theorem fwX3_risesAbove_X0 : ∀ w ∈ wsX00, w ∈ wsX3_risesAbove := fun _ h => List.mem_cons_of_mem _ (List.mem_append_left _ (List.mem_append_left _ (List.mem_append_left _ (List.mem_append_right _ h))))
theorem fwX3_risesAbove_X3 : ∀ w ∈ wsX30, w ∈ wsX3_risesAbove := fun _ h => List.mem_cons_of_mem _ (List.mem_append_left _ (List.mem_append_left _ (List.mem_append_left _ (List.mem_append_left _ (List.mem_append_right _ h)))))
theorem fwX3_risesAbove_X4 : ∀ w ∈ wsX40, w ∈ wsX3_risesAbove := fun _ h => List.mem_cons_of_mem _ (List.mem_append_left _ (List.mem_append_left _ (List.mem_append_right _ h)))
abbrev rmX3_risesAbove : Room := { frames := 5, cells := 0, slots := 0, locals := 142 }
set_option maxHeartbeats 4000000 in
set_option maxRecDepth 100000 in
theorem kX3_risesAbove (l : Launch) (D : va_G) (cI cZ cS : ClassId) (zz : ZT) (ad : Nat → Nat) (σ : SS) (a1 : Int32) (a2 : Int32) (a3 : Int32) (a4 : Int32) (rr : Int32) (σr : SS) (hf : pX3_risesAbove σ a1 a2 a3 a4 = some (rr, σr)) : CI l yX3_risesAbove wsX3_risesAbove rmX3_risesAbove D (K3 cI cZ cS) zz [.ref (ad 0), .int a1, .int a2, .int a3, .int a4] (wX3 cI cZ cS ad σ) (wX3 cI cZ cS ad σr) rr := by
  refine q_ofI (cc := cX3_risesAbove) (maxL := 6) (ty := .boolean) (by decide) rfl (Nat.le_of_ble_eq_true rfl) ?_
  intro p e s m below meth c Q A ls hx hb hml hown hts hK hZ hA hP hD hS hl hret
  have hl : lv_has ls 6 [(0, .ref (ad 0)), (1, .int a1), (2, .int a2), (3, .int a3), (4, .int a4)] := hl
  unfold pX3_risesAbove at hf
  refine lv_aload_n hx hb dX3_risesAbove_0 rfl (lv_at hl 0 rfl) ?_
  refine q_cVv (wf := (wX3 cI cZ cS ad)) (wc := wX3 cI cZ cS ad) (rest := []) ⟨hx, hb, hml, hown, hts⟩ hK hZ hA hP hD hS hf (fun x ho => kX3_begin l D cI cZ cS zz ad σ x ho) (cwV 0 hts gX3_risesAbove_X3_begin rfl rfl rfl ndX3_begin ⟨Nat.le_of_ble_eq_true rfl, Nat.le_of_ble_eq_true rfl⟩) [0, 1, 2, 3, 4, 5, 6, 7, 8, 9, 10, 11, 12, 13, 14, 15, 16, 17, 18, 19, 20, 21, 22, 23, 24, 25, 26, 27] rfl rfl [some 0, some 1, some 2, some 3, some 4, some 5, some 6, some 7, some 8, some 9, some 10, some 11, some 12, some 13, some 14, some 15, some 16, some 17, some 18, some 19, some 20, some 21, some 22, some 23, some 24, some 25, some 26, some 27] (by decide +kernel) (Nat.le_of_ble_eq_true rfl) (fun _ => rfl) (fun _ => rfl) (fun _ => rfl) rfl rfl rfl rfl (hl.1) rfl (Nat.le_of_ble_eq_true rfl) dX3_risesAbove_1 ⟨Nat.zero_le _, Nat.zero_le _⟩ (fun σ1 H locs hf hP hD hS => ?_)
  refine lv_aload_n hx hb dX3_risesAbove_4 rfl (lv_at hl 0 rfl) ?_
  refine va_get (D := D) (ci := 3) (C := RX3) (T := TX3) (N := 3) hx hb hts fwX3_risesAbove_X3 hown hK hP 0 rfl rfl 1 (by decide) (hts _ (List.mem_of_getElem? (i := 1) rfl)) (fun _ h9 => h9) rfl dX3_risesAbove_5 ?_
  refine lv_iload_n hx hb dX3_risesAbove_8 rfl (lv_at hl 1 rfl) ?_
  refine w_put (D := D) (wf := (wX3 cI cZ cS ad)) (cid := 14) (ci := 0) (C := RX0) (T := TX0) (N := 13) hx hb hts fwX3_risesAbove_X0 tyX0 tyX0_ok nmX0 hown hK hP hD hS 14 rfl rfl 6 (by decide) (hts _ (List.mem_of_getElem? (i := 2) rfl)) (fun _ h9 => h9) rfl (tyX0_ok 6 (by decide)) (Nat.le_of_ble_eq_true rfl) hf rfl dX3_risesAbove_9 (fun σ2 H locs hf hP hD hS => ?_)
  refine lv_iload_n hx hb dX3_risesAbove_12 rfl (lv_at hl 2 rfl) ?_
  refine q_lt_go hf (fun j4 ej4 hf => ?_)
  have Jj4 : ∀ (σ3 : SS) (H : Heap) (locs : List Loc) (ls : Array Slot), va_P D vwCl ((wX3 cI cZ cS ad) σ3) H → va_D A ((wX3 cI cZ cS ad) σ3) → va_S A s.heap H locs → lv_has ls 6 [(0, .ref (ad 0)), (3, .int a3), (4, .int a4)] → j4 σ3 = some (rr, σr) → W p l e rmX3_risesAbove s m ([.ref (ad 0), .int a1, .int a2, .int a3, .int a4] : List Value).toArray below meth c H locs 0 0 Q (F0 m 27 ls []) := by
    intro σ3 H locs ls hP hD hS hl hf
    have hf := (congrFun ej4 σ3).symm.trans hf
    refine lv_iconst (v := 0) hx hb dX3_risesAbove_27 (by decide) ?_
    refine lv_istore (lv' := [(5, .int (0 : Int32)), (0, .ref (ad 0)), (3, .int a3), (4, .int a4)]) hx hb dX3_risesAbove_28 hl (by decide) rfl (fun ls hl => ?_)
    refine q_lp_go (f := fun (zf : SS → Int32 → Option (Int32 × SS)) => zf σ3 (0 : Int32)) hf (fun z8 ez8 hf => ?_)
    have Lz8 : ∀ (n9 : Nat) (σ6 : SS) (x5_5 : Int32) (H : Heap) (locs : List Loc) (ls : Array Slot), va_P D vwCl ((wX3 cI cZ cS ad) σ6) H → va_D A ((wX3 cI cZ cS ad) σ6) → va_S A s.heap H locs → lv_has ls 6 [(0, .ref (ad 0)), (3, .int a3), (4, .int a4), (5, .int x5_5)] → q_lp (fun _ _ => none) z8 n9 σ6 x5_5 = some (rr, σr) → W p l e rmX3_risesAbove s m ([.ref (ad 0), .int a1, .int a2, .int a3, .int a4] : List Value).toArray below meth c H locs 0 0 Q (F0 m 30 ls []) := by
      intro n9
      induction n9 with
      | zero => exact fun _ _ _ _ _ _ _ _ _ hf => q_no hf
      | succ n9 ihz8 =>
        intro σ6 x5_5 H locs ls hP hD hS hl hf
        have hf := (congrFun (congrFun (congrFun ez8 (q_lp (fun _ _ => none) z8 n9)) σ6) x5_5).symm.trans hf
        refine lv_iload hx hb dX3_risesAbove_30 (lv_at hl 3 rfl) ?_
        refine lv_iload_n hx hb dX3_risesAbove_32 rfl (lv_at hl 1 rfl) ?_
        refine lv_icmp_ge (tgt := 63) hx hb dX3_risesAbove_33 (by decide) (fun h10 => ?_) (fun h10 => ?_)
        · have hf := (if_pos h10).symm.trans hf
          refine lv_iconst (v := 0) hx hb dX3_risesAbove_63 (by decide) ?_
          obtain ⟨hz, hf⟩ := q_zz_o hf
          obtain ⟨hi1, hi2⟩ := Prod.mk.inj (Option.some.inj hf)
          subst hi1
          subst hi2
          exact hret _ _ _ _ dX3_risesAbove_64 (q_zz_n hz).1 hP hS
        · have hf := (if_neg h10).symm.trans hf
          refine lv_aload_n hx hb dX3_risesAbove_36 rfl (lv_at hl 0 rfl) ?_
          refine va_get (D := D) (ci := 3) (C := RX3) (T := TX3) (N := 3) hx hb hts fwX3_risesAbove_X3 hown hK hP 0 rfl rfl 1 (by decide) (hts _ (List.mem_of_getElem? (i := 1) rfl)) (fun _ h9 => h9) rfl dX3_risesAbove_37 ?_
          refine q_cVv (wf := (wX3 cI cZ cS ad)) (wc := wX0 cI cZ cS (fun i => ad (14 + i))) (rest := []) ⟨hx, hb, hml, hown, hts⟩ hK hZ hA hP hD hS hf (fun x ho => kX0_passMinute l D cI cZ cS zz (fun i => ad (14 + i)) (q_sb σ6 14) x ho) (cwV 0 hts gX3_risesAbove_X0_passMinute rfl rfl rfl ndX0_passMinute ⟨Nat.le_of_ble_eq_true rfl, Nat.le_of_ble_eq_true rfl⟩) [14, 15, 16, 17, 18, 19, 20, 21, 22, 23, 24, 25, 26] rfl rfl [none, none, none, none, none, none, none, none, none, none, none, none, none, none, some 0, some 1, some 2, some 3, some 4, some 5, some 6, some 7, some 8, some 9, some 10, some 11, some 12, none] (by decide +kernel) (Nat.le_of_ble_eq_true rfl) (fun _ => rfl) (fun _ => rfl) (fun _ => rfl) rfl rfl rfl rfl (hl.1) rfl (Nat.le_of_ble_eq_true rfl) dX3_risesAbove_40 ⟨Nat.zero_le _, Nat.zero_le _⟩ (fun σ11 H locs hf hP hD hS => ?_)
          refine lv_aload_n hx hb dX3_risesAbove_43 rfl (lv_at hl 0 rfl) ?_
          refine va_get (D := D) (ci := 3) (C := RX3) (T := TX3) (N := 3) hx hb hts fwX3_risesAbove_X3 hown hK hP 0 rfl rfl 1 (by decide) (hts _ (List.mem_of_getElem? (i := 1) rfl)) (fun _ h9 => h9) rfl dX3_risesAbove_44 ?_
          refine va_get (D := D) (ci := 0) (C := RX0) (T := TX0) (N := 13) hx hb hts fwX3_risesAbove_X0 hown hK hP 14 rfl rfl 8 (by decide) (hts _ (List.mem_of_getElem? (i := 5) rfl)) (fun _ h9 => h9) rfl dX3_risesAbove_47 ?_
          refine lv_iload hx hb dX3_risesAbove_50 (lv_at hl 2 rfl) ?_
          refine lv_icmp_le (tgt := 57) hx hb dX3_risesAbove_52 (by decide) (fun h12 => ?_) (fun h12 => ?_)
          · have hf := (if_pos h12).symm.trans hf
            refine lv_iinc (v := (x5_5 + (1 : Int32))) (lv' := [(5, .int (x5_5 + (1 : Int32))), (0, .ref (ad 0)), (3, .int a3), (4, .int a4)]) hx hb dX3_risesAbove_57 hl (k := 3) rfl rfl (by decide) rfl (fun ls hl => ?_)
            refine lv_goto (tgt := 30) hx hb dX3_risesAbove_60 (by decide) ?_
            exact ihz8 σ11 (x5_5 + (1 : Int32)) _ _ _ hP hD hS (lv_sub hl [1, 2, 3, 0] rfl) hf
          · have hf := (if_neg h12).symm.trans hf
            refine lv_iconst (v := 1) hx hb dX3_risesAbove_55 (by decide) ?_
            obtain ⟨hz, hf⟩ := q_zz_o hf
            obtain ⟨hi1, hi2⟩ := Prod.mk.inj (Option.some.inj hf)
            subst hi1
            subst hi2
            exact hret _ _ _ _ dX3_risesAbove_56 (q_zz_n hz).1 hP hS
    exact Lz8 q_fu σ3 (0 : Int32) _ _ _ hP hD hS (lv_sub hl [1, 2, 3, 0] rfl) hf
  refine lv_if_eq (tgt := 27) hx hb dX3_risesAbove_13 (by decide) (fun h13 => ?_) (fun h13 => ?_)
  · have hf := (if_pos h13).symm.trans hf
    exact Jj4 σ2 _ _ _ hP hD hS (lv_sub hl [0, 3, 4] rfl) hf
  · have hf := (if_neg h13).symm.trans hf
    refine lv_aload_n hx hb dX3_risesAbove_16 rfl (lv_at hl 0 rfl) ?_
    refine va_get (D := D) (ci := 3) (C := RX3) (T := TX3) (N := 3) hx hb hts fwX3_risesAbove_X3 hown hK hP 0 rfl rfl 1 (by decide) (hts _ (List.mem_of_getElem? (i := 1) rfl)) (fun _ h9 => h9) rfl dX3_risesAbove_17 ?_
    refine va_get (D := D) (ci := 0) (C := RX0) (T := TX0) (N := 13) hx hb hts fwX3_risesAbove_X0 hown hK hP 14 rfl rfl 1 (by decide) (hts _ (List.mem_of_getElem? (i := 3) rfl)) (fun _ h9 => h9) rfl dX3_risesAbove_20 ?_
    refine lv_iconst (v := 0) hx hb dX3_risesAbove_23 (by decide) ?_
    refine w_putZ (D := D) (wf := (wX3 cI cZ cS ad)) (cid := 20) (ci := 4) (C := RX4) (T := TX4) (N := 11) hx hb hts fwX3_risesAbove_X4 tyX4 tyX4_ok nmX4 hown hK hP hD hS 20 rfl rfl 5 (by decide) (hts _ (List.mem_of_getElem? (i := 4) rfl)) (fun _ h9 => h9) rfl (tyX4_ok 5 (by decide)) (Nat.le_of_ble_eq_true rfl) hf rfl dX3_risesAbove_24 (fun σ14 H locs hf hP hD hS => ?_)
    exact Jj4 σ14 _ _ _ hP hD hS (lv_sub hl [0, 3, 4] rfl) hf
def pX3_firstMisjudged (σ : SS) : Option (Int32 × SS) := q_cs (pX3_begin (q_sb σ 0)) (fun (τ : SS) => (q_em σ 0 0 28 τ)) (fun (σ1 : SS) => q_lp (fun _ _ => none) (fun (c4 : SS → Int32 → Option (Int32 × SS)) (σ3 : SS) (x2_2 : Int32) => (if (σ3 28 1) ≤ x2_2 then some ((0 : Int32), σ3) else q_cs (pX0_passMinute (q_sb σ3 14)) (fun (τ : SS) => (q_em σ3 14 0 13 τ)) (fun (σ8 : SS) => q_rd (σ8 29) 40 x2_2 (fun (v9 : Int32) => (if (σ8 14 8) = v9 then c4 σ8 (x2_2 + (1 : Int32)) else some (((1 : Int32) + x2_2), σ8)))))) q_fu σ1 (0 : Int32))
theorem fwX3_firstMisjudged_X0 : ∀ w ∈ wsX00, w ∈ wsX3_firstMisjudged := fun _ h => List.mem_cons_of_mem _ (List.mem_append_left _ (List.mem_append_left _ (List.mem_append_left _ (List.mem_append_right _ h))))
theorem fwX3_firstMisjudged_X3 : ∀ w ∈ wsX30, w ∈ wsX3_firstMisjudged := fun _ h => List.mem_cons_of_mem _ (List.mem_append_left _ (List.mem_append_left _ (List.mem_append_left _ (List.mem_append_left _ (List.mem_append_right _ h)))))
theorem fwX3_firstMisjudged_X6 : ∀ w ∈ wsX60, w ∈ wsX3_firstMisjudged := fun _ h => List.mem_cons_of_mem _ (List.mem_append_left _ (List.mem_append_left _ (List.mem_append_left _ (List.mem_append_left _ (List.mem_append_left _ (List.mem_append_right _ h))))))
abbrev rmX3_firstMisjudged : Room := { frames := 5, cells := 0, slots := 0, locals := 142 }
set_option maxHeartbeats 4000000 in
set_option maxRecDepth 100000 in
theorem kX3_firstMisjudged (l : Launch) (D : va_G) (cI cZ cS : ClassId) (zz : ZT) (ad : Nat → Nat) (σ : SS) (rr : Int32) (σr : SS) (hf : pX3_firstMisjudged σ = some (rr, σr)) : CI l yX3_firstMisjudged wsX3_firstMisjudged rmX3_firstMisjudged D (K3 cI cZ cS) zz [.ref (ad 0), .ref (ad 28)] (wX3_X6 cI cZ cS ad σ) (wX3_X6 cI cZ cS ad σr) rr := by
  refine q_ofI (cc := cX3_firstMisjudged) (maxL := 3) (ty := .int) (by decide) rfl (Nat.le_of_ble_eq_true rfl) ?_
  intro p e s m below meth c Q A ls hx hb hml hown hts hK hZ hA hP hD hS hl hret
  have hl : lv_has ls 3 [(0, .ref (ad 0)), (1, .ref (ad 28))] := hl
  unfold pX3_firstMisjudged at hf
  refine lv_aload_n hx hb dX3_firstMisjudged_0 rfl (lv_at hl 0 rfl) ?_
  refine q_cVv (wf := (wX3_X6 cI cZ cS ad)) (wc := wX3 cI cZ cS (fun i => ad (0 + i))) (rest := []) ⟨hx, hb, hml, hown, hts⟩ hK hZ hA hP hD hS hf (fun x ho => kX3_begin l D cI cZ cS zz (fun i => ad (0 + i)) (q_sb σ 0) x ho) (cwV 0 hts gX3_firstMisjudged_X3_begin rfl rfl rfl ndX3_begin ⟨Nat.le_of_ble_eq_true rfl, Nat.le_of_ble_eq_true rfl⟩) [0, 1, 2, 3, 4, 5, 6, 7, 8, 9, 10, 11, 12, 13, 14, 15, 16, 17, 18, 19, 20, 21, 22, 23, 24, 25, 26, 27] rfl rfl [some 0, some 1, some 2, some 3, some 4, some 5, some 6, some 7, some 8, some 9, some 10, some 11, some 12, some 13, some 14, some 15, some 16, some 17, some 18, some 19, some 20, some 21, some 22, some 23, some 24, some 25, some 26, some 27, none, none] (by decide +kernel) (Nat.le_of_ble_eq_true rfl) (fun _ => rfl) (fun _ => rfl) (fun _ => rfl) rfl rfl rfl rfl (hl.1) rfl (Nat.le_of_ble_eq_true rfl) dX3_firstMisjudged_1 ⟨Nat.zero_le _, Nat.zero_le _⟩ (fun σ1 H locs hf hP hD hS => ?_)
  refine lv_iconst (v := 0) hx hb dX3_firstMisjudged_4 (by decide) ?_
  refine lv_istore_n (lv' := [(2, .int (0 : Int32)), (0, .ref (ad 0)), (1, .ref (ad 28))]) hx hb dX3_firstMisjudged_5 rfl hl (by decide) rfl (fun ls hl => ?_)
  refine q_lp_go (f := fun (zf : SS → Int32 → Option (Int32 × SS)) => zf σ1 (0 : Int32)) hf (fun z5 ez5 hf => ?_)
  have Lz5 : ∀ (n6 : Nat) (σ3 : SS) (x2_2 : Int32) (H : Heap) (locs : List Loc) (ls : Array Slot), va_P D vwCl ((wX3_X6 cI cZ cS ad) σ3) H → va_D A ((wX3_X6 cI cZ cS ad) σ3) → va_S A s.heap H locs → lv_has ls 3 [(0, .ref (ad 0)), (1, .ref (ad 28)), (2, .int x2_2)] → q_lp (fun _ _ => none) z5 n6 σ3 x2_2 = some (rr, σr) → W p l e rmX3_firstMisjudged s m ([.ref (ad 0), .ref (ad 28)] : List Value).toArray below meth c H locs 0 0 Q (F0 m 6 ls []) := by
    intro n6
    induction n6 with
    | zero => exact fun _ _ _ _ _ _ _ _ _ hf => q_no hf
    | succ n6 ihz5 =>
      intro σ3 x2_2 H locs ls hP hD hS hl hf
      have hf := (congrFun (congrFun (congrFun ez5 (q_lp (fun _ _ => none) z5 n6)) σ3) x2_2).symm.trans hf
      refine lv_iload_n hx hb dX3_firstMisjudged_6 rfl (lv_at hl 2 rfl) ?_
      refine lv_aload_n hx hb dX3_firstMisjudged_7 rfl (lv_at hl 1 rfl) ?_
      refine va_get (D := D) (ci := 6) (C := RX6) (T := TX6) (N := 3) hx hb hts fwX3_firstMisjudged_X6 hown hK hP 28 rfl rfl 1 (by decide) (hts _ (List.mem_of_getElem? (i := 1) rfl)) (fun _ h9 => h9) rfl dX3_firstMisjudged_8 ?_
      refine lv_icmp_ge (tgt := 47) hx hb dX3_firstMisjudged_11 (by decide) (fun h7 => ?_) (fun h7 => ?_)
      · have hf := (if_pos h7).symm.trans hf
        refine lv_iconst (v := 0) hx hb dX3_firstMisjudged_47 (by decide) ?_
        obtain ⟨hi1, hi2⟩ := Prod.mk.inj (Option.some.inj hf)
        subst hi1
        subst hi2
        exact hret _ _ _ _ dX3_firstMisjudged_48 rfl hP hS
      · have hf := (if_neg h7).symm.trans hf
        refine lv_aload_n hx hb dX3_firstMisjudged_14 rfl (lv_at hl 0 rfl) ?_
        refine va_get (D := D) (ci := 3) (C := RX3) (T := TX3) (N := 3) hx hb hts fwX3_firstMisjudged_X3 hown hK hP 0 rfl rfl 1 (by decide) (hts _ (List.mem_of_getElem? (i := 2) rfl)) (fun _ h9 => h9) rfl dX3_firstMisjudged_15 ?_
        refine q_cVv (wf := (wX3_X6 cI cZ cS ad)) (wc := wX0 cI cZ cS (fun i => ad (14 + i))) (rest := []) ⟨hx, hb, hml, hown, hts⟩ hK hZ hA hP hD hS hf (fun x ho => kX0_passMinute l D cI cZ cS zz (fun i => ad (14 + i)) (q_sb σ3 14) x ho) (cwV 0 hts gX3_firstMisjudged_X0_passMinute rfl rfl rfl ndX0_passMinute ⟨Nat.le_of_ble_eq_true rfl, Nat.le_of_ble_eq_true rfl⟩) [14, 15, 16, 17, 18, 19, 20, 21, 22, 23, 24, 25, 26] rfl rfl [none, none, none, none, none, none, none, none, none, none, none, none, none, none, some 0, some 1, some 2, some 3, some 4, some 5, some 6, some 7, some 8, some 9, some 10, some 11, some 12, none, none, none] (by decide +kernel) (Nat.le_of_ble_eq_true rfl) (fun _ => rfl) (fun _ => rfl) (fun _ => rfl) rfl rfl rfl rfl (hl.1) rfl (Nat.le_of_ble_eq_true rfl) dX3_firstMisjudged_18 ⟨Nat.zero_le _, Nat.zero_le _⟩ (fun σ8 H locs hf hP hD hS => ?_)
        refine lv_aload_n hx hb dX3_firstMisjudged_21 rfl (lv_at hl 0 rfl) ?_
        refine va_get (D := D) (ci := 3) (C := RX3) (T := TX3) (N := 3) hx hb hts fwX3_firstMisjudged_X3 hown hK hP 0 rfl rfl 1 (by decide) (hts _ (List.mem_of_getElem? (i := 2) rfl)) (fun _ h9 => h9) rfl dX3_firstMisjudged_22 ?_
        refine va_get (D := D) (ci := 0) (C := RX0) (T := TX0) (N := 13) hx hb hts fwX3_firstMisjudged_X0 hown hK hP 14 rfl rfl 8 (by decide) (hts _ (List.mem_of_getElem? (i := 3) rfl)) (fun _ h9 => h9) rfl dX3_firstMisjudged_25 ?_
        refine lv_aload_n hx hb dX3_firstMisjudged_28 rfl (lv_at hl 1 rfl) ?_
        refine va_get (D := D) (ci := 6) (C := RX6) (T := TX6) (N := 3) hx hb hts fwX3_firstMisjudged_X6 hown hK hP 28 rfl rfl 2 (by decide) (hts _ (List.mem_of_getElem? (i := 4) rfl)) (fun _ h9 => h9) rfl dX3_firstMisjudged_29 ?_
        refine lv_iload_n hx hb dX3_firstMisjudged_32 rfl (lv_at hl 2 rfl) ?_
        refine w_iald (wf := (wX3_X6 cI cZ cS ad)) hx hb hK hP 29 0 rfl rfl hf dX3_firstMisjudged_33 (fun v9 hf => ?_)
        refine lv_icmp_eq (tgt := 41) hx hb dX3_firstMisjudged_34 (by decide) (fun h10 => ?_) (fun h10 => ?_)
        · have hf := (if_pos h10).symm.trans hf
          refine lv_iinc (v := (x2_2 + (1 : Int32))) (lv' := [(2, .int (x2_2 + (1 : Int32))), (0, .ref (ad 0)), (1, .ref (ad 28))]) hx hb dX3_firstMisjudged_41 hl (k := 2) rfl rfl (by decide) rfl (fun ls hl => ?_)
          refine lv_goto (tgt := 6) hx hb dX3_firstMisjudged_44 (by decide) ?_
          exact ihz5 σ8 (x2_2 + (1 : Int32)) _ _ _ hP hD hS (lv_sub hl [1, 2, 0] rfl) hf
        · have hf := (if_neg h10).symm.trans hf
          refine lv_iconst (v := 1) hx hb dX3_firstMisjudged_37 (by decide) ?_
          refine lv_iload_n hx hb dX3_firstMisjudged_38 rfl (lv_at hl 2 rfl) ?_
          refine lv_iadd hx hb dX3_firstMisjudged_39 ?_
          obtain ⟨hi1, hi2⟩ := Prod.mk.inj (Option.some.inj hf)
          subst hi1
          subst hi2
          exact hret _ _ _ _ dX3_firstMisjudged_40 rfl hP hS
  exact Lz5 q_fu σ1 (0 : Int32) _ _ _ hP hD hS (lv_sub hl [1, 2, 0] rfl) hf
def pX3_foreseeInflow (σ : SS) (a1 : Int32) : Option SS := q_cs (pX3_begin σ) (fun (τ : SS) => τ) (fun (σ1 : SS) => q_lp (fun _ _ => none) (fun (c4 : SS → Int32 → Option SS) (σ3 : SS) (x2_2 : Int32) => (if a1 ≤ x2_2 then some σ3 else q_cs (pX0_soakGround (q_sb σ3 14)) (fun (τ : SS) => (q_em σ3 14 0 13 τ)) (fun (σ8 : SS) => q_ci (pX0_takeIn (q_sb σ8 14)) (fun (τ : SS) => (q_em σ8 14 0 13 τ)) (fun (r10 : Int32) (σ9 : SS) => q_wr σ9 27 200 x2_2 r10 (fun (σ11 : SS) => q_lt (su σ11 14 9 ((σ11 14 9) + (1 : Int32))) (fun (σ12 : SS) => c4 σ12 (x2_2 + (1 : Int32)))))))) q_fu σ1 (0 : Int32))
theorem fwX3_foreseeInflow_X0 : ∀ w ∈ wsX00, w ∈ wsX3_foreseeInflow := fun _ h => List.mem_cons_of_mem _ (List.mem_append_left _ (List.mem_append_left _ (List.mem_append_left _ (List.mem_append_right _ h))))
theorem fwX3_foreseeInflow_X3 : ∀ w ∈ wsX30, w ∈ wsX3_foreseeInflow := fun _ h => List.mem_cons_of_mem _ (List.mem_append_left _ (List.mem_append_left _ (List.mem_append_left _ (List.mem_append_left _ (List.mem_append_right _ h)))))
abbrev rmX3_foreseeInflow : Room := { frames := 5, cells := 0, slots := 0, locals := 142 }
set_option maxHeartbeats 4000000 in
set_option maxRecDepth 100000 in
theorem kX3_foreseeInflow (l : Launch) (D : va_G) (cI cZ cS : ClassId) (zz : ZT) (ad : Nat → Nat) (σ : SS) (a1 : Int32) (σr : SS) (hf : pX3_foreseeInflow σ a1 = some σr) : CV l yX3_foreseeInflow wsX3_foreseeInflow rmX3_foreseeInflow D (K3 cI cZ cS) zz [.ref (ad 0), .int a1] (wX3 cI cZ cS ad σ) (wX3 cI cZ cS ad σr) := by
  refine q_ofV (cc := cX3_foreseeInflow) (maxL := 3) (by decide) rfl (Nat.le_of_ble_eq_true rfl) ?_
  intro p e s m below meth c Q A ls hx hb hml hown hts hK hZ hA hP hD hS hl hret
  have hl : lv_has ls 3 [(0, .ref (ad 0)), (1, .int a1)] := hl
  unfold pX3_foreseeInflow at hf
  refine lv_aload_n hx hb dX3_foreseeInflow_0 rfl (lv_at hl 0 rfl) ?_
  refine q_cVv (wf := (wX3 cI cZ cS ad)) (wc := wX3 cI cZ cS ad) (rest := []) ⟨hx, hb, hml, hown, hts⟩ hK hZ hA hP hD hS hf (fun x ho => kX3_begin l D cI cZ cS zz ad σ x ho) (cwV 0 hts gX3_foreseeInflow_X3_begin rfl rfl rfl ndX3_begin ⟨Nat.le_of_ble_eq_true rfl, Nat.le_of_ble_eq_true rfl⟩) [0, 1, 2, 3, 4, 5, 6, 7, 8, 9, 10, 11, 12, 13, 14, 15, 16, 17, 18, 19, 20, 21, 22, 23, 24, 25, 26, 27] rfl rfl [some 0, some 1, some 2, some 3, some 4, some 5, some 6, some 7, some 8, some 9, some 10, some 11, some 12, some 13, some 14, some 15, some 16, some 17, some 18, some 19, some 20, some 21, some 22, some 23, some 24, some 25, some 26, some 27] (by decide +kernel) (Nat.le_of_ble_eq_true rfl) (fun _ => rfl) (fun _ => rfl) (fun _ => rfl) rfl rfl rfl rfl (hl.1) rfl (Nat.le_of_ble_eq_true rfl) dX3_foreseeInflow_1 ⟨Nat.zero_le _, Nat.zero_le _⟩ (fun σ1 H locs hf hP hD hS => ?_)
  refine lv_iconst (v := 0) hx hb dX3_foreseeInflow_4 (by decide) ?_
  refine lv_istore_n (lv' := [(2, .int (0 : Int32)), (0, .ref (ad 0)), (1, .int a1)]) hx hb dX3_foreseeInflow_5 rfl hl (by decide) rfl (fun ls hl => ?_)
  refine q_lp_go (f := fun (zf : SS → Int32 → Option SS) => zf σ1 (0 : Int32)) hf (fun z5 ez5 hf => ?_)
  have Lz5 : ∀ (n6 : Nat) (σ3 : SS) (x2_2 : Int32) (H : Heap) (locs : List Loc) (ls : Array Slot), va_P D vwCl ((wX3 cI cZ cS ad) σ3) H → va_D A ((wX3 cI cZ cS ad) σ3) → va_S A s.heap H locs → lv_has ls 3 [(0, .ref (ad 0)), (1, .int a1), (2, .int x2_2)] → q_lp (fun _ _ => none) z5 n6 σ3 x2_2 = some σr → W p l e rmX3_foreseeInflow s m ([.ref (ad 0), .int a1] : List Value).toArray below meth c H locs 0 0 Q (F0 m 6 ls []) := by
    intro n6
    induction n6 with
    | zero => exact fun _ _ _ _ _ _ _ _ _ hf => q_no hf
    | succ n6 ihz5 =>
      intro σ3 x2_2 H locs ls hP hD hS hl hf
      have hf := (congrFun (congrFun (congrFun ez5 (q_lp (fun _ _ => none) z5 n6)) σ3) x2_2).symm.trans hf
      refine lv_iload_n hx hb dX3_foreseeInflow_6 rfl (lv_at hl 2 rfl) ?_
      refine lv_iload_n hx hb dX3_foreseeInflow_7 rfl (lv_at hl 1 rfl) ?_
      refine lv_icmp_ge (tgt := 50) hx hb dX3_foreseeInflow_8 (by decide) (fun h7 => ?_) (fun h7 => ?_)
      · have hf := (if_pos h7).symm.trans hf
        have hi1 := Option.some.inj hf
        subst hi1
        exact hret _ _ _ _ dX3_foreseeInflow_50 hP hS
      · have hf := (if_neg h7).symm.trans hf
        refine lv_aload_n hx hb dX3_foreseeInflow_11 rfl (lv_at hl 0 rfl) ?_
        refine va_get (D := D) (ci := 3) (C := RX3) (T := TX3) (N := 3) hx hb hts fwX3_foreseeInflow_X3 hown hK hP 0 rfl rfl 1 (by decide) (hts _ (List.mem_of_getElem? (i := 1) rfl)) (fun _ h9 => h9) rfl dX3_foreseeInflow_12 ?_
        refine q_cVv (wf := (wX3 cI cZ cS ad)) (wc := wX0 cI cZ cS (fun i => ad (14 + i))) (rest := []) ⟨hx, hb, hml, hown, hts⟩ hK hZ hA hP hD hS hf (fun x ho => kX0_soakGround l D cI cZ cS zz (fun i => ad (14 + i)) (q_sb σ3 14) x ho) (cwV 0 hts gX3_foreseeInflow_X0_soakGround rfl rfl rfl ndX0_soakGround ⟨Nat.le_of_ble_eq_true rfl, Nat.le_of_ble_eq_true rfl⟩) [14, 15, 16, 17, 18, 19, 20, 21, 22, 23, 24, 25, 26] rfl rfl [none, none, none, none, none, none, none, none, none, none, none, none, none, none, some 0, some 1, some 2, some 3, some 4, some 5, some 6, some 7, some 8, some 9, some 10, some 11, some 12, none] (by decide +kernel) (Nat.le_of_ble_eq_true rfl) (fun _ => rfl) (fun _ => rfl) (fun _ => rfl) rfl rfl rfl rfl (hl.1) rfl (Nat.le_of_ble_eq_true rfl) dX3_foreseeInflow_15 ⟨Nat.zero_le _, Nat.zero_le _⟩ (fun σ8 H locs hf hP hD hS => ?_)
        refine lv_aload_n hx hb dX3_foreseeInflow_18 rfl (lv_at hl 0 rfl) ?_
        refine va_get (D := D) (ci := 3) (C := RX3) (T := TX3) (N := 3) hx hb hts fwX3_foreseeInflow_X3 hown hK hP 0 rfl rfl 2 (by decide) (hts _ (List.mem_of_getElem? (i := 2) rfl)) (fun _ h9 => h9) rfl dX3_foreseeInflow_19 ?_
        refine lv_iload_n hx hb dX3_foreseeInflow_22 rfl (lv_at hl 2 rfl) ?_
        refine lv_aload_n hx hb dX3_foreseeInflow_23 rfl (lv_at hl 0 rfl) ?_
        refine va_get (D := D) (ci := 3) (C := RX3) (T := TX3) (N := 3) hx hb hts fwX3_foreseeInflow_X3 hown hK hP 0 rfl rfl 1 (by decide) (hts _ (List.mem_of_getElem? (i := 1) rfl)) (fun _ h9 => h9) rfl dX3_foreseeInflow_24 ?_
        refine q_cVi (wf := (wX3 cI cZ cS ad)) (wc := wX0 cI cZ cS (fun i => ad (14 + i))) (rest := [.int x2_2, .ref (ad 27)]) ⟨hx, hb, hml, hown, hts⟩ hK hZ hA hP hD hS hf (fun x τ ho => kX0_takeIn l D cI cZ cS zz (fun i => ad (14 + i)) (q_sb σ8 14) x τ ho) (cwV 0 hts gX3_foreseeInflow_X0_takeIn rfl rfl rfl ndX0_takeIn ⟨Nat.le_of_ble_eq_true rfl, Nat.le_of_ble_eq_true rfl⟩) [14, 15, 16, 17, 18, 19, 20, 21, 22, 23, 24, 25, 26] rfl rfl [none, none, none, none, none, none, none, none, none, none, none, none, none, none, some 0, some 1, some 2, some 3, some 4, some 5, some 6, some 7, some 8, some 9, some 10, some 11, some 12, none] (by decide +kernel) (Nat.le_of_ble_eq_true rfl) (fun _ => rfl) (fun _ => rfl) (fun _ => rfl) rfl rfl rfl rfl (hl.1) rfl (Nat.le_of_ble_eq_true rfl) dX3_foreseeInflow_27 ⟨Nat.zero_le _, Nat.zero_le _⟩ (fun r10 σ9 H locs hf hP hD hS => ?_)
        refine w_iast (wf := (wX3 cI cZ cS ad)) (cid := 27) hx hb hK hP hD hS 27 0 rfl rfl hf (fun _ => rfl) dX3_foreseeInflow_30 (fun σ11 H locs hf hP hD hS => ?_)
        refine lv_aload_n hx hb dX3_foreseeInflow_31 rfl (lv_at hl 0 rfl) ?_
        refine va_get (D := D) (ci := 3) (C := RX3) (T := TX3) (N := 3) hx hb hts fwX3_foreseeInflow_X3 hown hK hP 0 rfl rfl 1 (by decide) (hts _ (List.mem_of_getElem? (i := 1) rfl)) (fun _ h9 => h9) rfl dX3_foreseeInflow_32 ?_
        refine lv_dup hx hb dX3_foreseeInflow_35 rfl ?_
        refine va_get (D := D) (ci := 0) (C := RX0) (T := TX0) (N := 13) hx hb hts fwX3_foreseeInflow_X0 hown hK hP 14 rfl rfl 9 (by decide) (hts _ (List.mem_of_getElem? (i := 3) rfl)) (fun _ h9 => h9) rfl dX3_foreseeInflow_36 ?_
        refine lv_iconst (v := 1) hx hb dX3_foreseeInflow_39 (by decide) ?_
        refine lv_iadd hx hb dX3_foreseeInflow_40 ?_
        refine w_put (D := D) (wf := (wX3 cI cZ cS ad)) (cid := 14) (ci := 0) (C := RX0) (T := TX0) (N := 13) hx hb hts fwX3_foreseeInflow_X0 tyX0 tyX0_ok nmX0 hown hK hP hD hS 14 rfl rfl 9 (by decide) (hts _ (List.mem_of_getElem? (i := 3) rfl)) (fun _ h9 => h9) rfl (tyX0_ok 9 (by decide)) (Nat.le_of_ble_eq_true rfl) hf rfl dX3_foreseeInflow_41 (fun σ12 H locs hf hP hD hS => ?_)
        refine lv_iinc (v := (x2_2 + (1 : Int32))) (lv' := [(2, .int (x2_2 + (1 : Int32))), (0, .ref (ad 0)), (1, .int a1)]) hx hb dX3_foreseeInflow_44 hl (k := 2) rfl rfl (by decide) rfl (fun ls hl => ?_)
        refine lv_goto (tgt := 6) hx hb dX3_foreseeInflow_47 (by decide) ?_
        exact ihz5 σ12 (x2_2 + (1 : Int32)) _ _ _ hP hD hS (lv_sub hl [1, 2, 0] rfl) hf
  exact Lz5 q_fu σ1 (0 : Int32) _ _ _ hP hD hS (lv_sub hl [1, 2, 0] rfl) hf
def pX3_staysWithin (σ : SS) (a1 : Int32) (a2 : Int32) : Option (Int32 × SS) := q_lt (σ 1 8) (fun x3_1 => q_lp (fun _ _ _ => none) (fun (c5 : SS → Int32 → Int32 → Option (Int32 × SS)) (σ4 : SS) (x3_2 : Int32) (x4_3 : Int32) => (if a1 ≤ x4_3 then q_zz (1 : Int32) (some ((1 : Int32), σ4)) else q_rd (σ4 27) 200 x4_3 (fun (v9 : Int32) => q_ci (pX4_leaves (q_sb σ4 20) (if (x3_2 + v9) < (9999 : Int32) then (x3_2 + v9) else (9999 : Int32)) ((σ4 1 9) + x4_3)) (fun (τ : SS) => (q_em σ4 20 0 2 τ)) (fun (r11 : Int32) (σ10 : SS) => (if r11 ≤ a2 then c5 σ10 r11 (x4_3 + (1 : Int32)) else q_zz (0 : Int32) (some ((0 : Int32), σ10))))))) q_fu σ x3_1 (0 : Int32))
theorem fwX3_staysWithin_X0 : ∀ w ∈ wsX00, w ∈ wsX3_staysWithin := fun _ h => List.mem_cons_of_mem _ (List.mem_append_left _ (List.mem_append_right _ h))
theorem fwX3_staysWithin_X3 : ∀ w ∈ wsX30, w ∈ wsX3_staysWithin := fun _ h => List.mem_cons_of_mem _ (List.mem_append_left _ (List.mem_append_left _ (List.mem_append_right _ h)))
abbrev rmX3_staysWithin : Room := { frames := 3, cells := 0, slots := 0, locals := 64 }
set_option maxHeartbeats 4000000 in
set_option maxRecDepth 100000 in
theorem kX3_staysWithin (l : Launch) (D : va_G) (cI cZ cS : ClassId) (zz : ZT) (ad : Nat → Nat) (σ : SS) (a1 : Int32) (a2 : Int32) (rr : Int32) (σr : SS) (hf : pX3_staysWithin σ a1 a2 = some (rr, σr)) : CI l yX3_staysWithin wsX3_staysWithin rmX3_staysWithin D (K3 cI cZ cS) zz [.ref (ad 0), .int a1, .int a2] (wX3 cI cZ cS ad σ) (wX3 cI cZ cS ad σr) rr := by
  refine q_ofI (cc := cX3_staysWithin) (maxL := 5) (ty := .boolean) (by decide) rfl (Nat.le_of_ble_eq_true rfl) ?_
  intro p e s m below meth c Q A ls hx hb hml hown hts hK hZ hA hP hD hS hl hret
  have hl : lv_has ls 5 [(0, .ref (ad 0)), (1, .int a1), (2, .int a2)] := hl
  unfold pX3_staysWithin at hf
  refine lv_aload_n hx hb dX3_staysWithin_0 rfl (lv_at hl 0 rfl) ?_
  refine va_get (D := D) (ci := 3) (C := RX3) (T := TX3) (N := 3) hx hb hts fwX3_staysWithin_X3 hown hK hP 0 rfl rfl 0 (by decide) (hts _ (List.mem_of_getElem? (i := 1) rfl)) (fun _ h9 => h9) rfl dX3_staysWithin_1 ?_
  refine va_get (D := D) (ci := 0) (C := RX0) (T := TX0) (N := 13) hx hb hts fwX3_staysWithin_X0 hown hK hP 1 rfl rfl 8 (by decide) (hts _ (List.mem_of_getElem? (i := 2) rfl)) (fun _ h9 => h9) rfl dX3_staysWithin_4 ?_
  refine lv_topi (fun x3_1 ex3_1 => ?_)
  have hf := q_lt_at ex3_1 hf
  refine lv_istore_n (lv' := [(3, .int x3_1), (0, .ref (ad 0)), (1, .int a1), (2, .int a2)]) hx hb dX3_staysWithin_7 rfl hl (by decide) rfl (fun ls hl => ?_)
  refine lv_iconst (v := 0) hx hb dX3_staysWithin_8 (by decide) ?_
  refine lv_istore (lv' := [(4, .int (0 : Int32)), (3, .int x3_1), (0, .ref (ad 0)), (1, .int a1), (2, .int a2)]) hx hb dX3_staysWithin_9 hl (by decide) rfl (fun ls hl => ?_)
  refine q_lp_go (f := fun (zf : SS → Int32 → Int32 → Option (Int32 × SS)) => zf σ x3_1 (0 : Int32)) hf (fun z6 ez6 hf => ?_)
  have Lz6 : ∀ (n7 : Nat) (σ4 : SS) (x3_2 : Int32) (x4_3 : Int32) (H : Heap) (locs : List Loc) (ls : Array Slot), va_P D vwCl ((wX3 cI cZ cS ad) σ4) H → va_D A ((wX3 cI cZ cS ad) σ4) → va_S A s.heap H locs → lv_has ls 5 [(0, .ref (ad 0)), (1, .int a1), (2, .int a2), (3, .int x3_2), (4, .int x4_3)] → q_lp (fun _ _ _ => none) z6 n7 σ4 x3_2 x4_3 = some (rr, σr) → W p l e rmX3_staysWithin s m ([.ref (ad 0), .int a1, .int a2] : List Value).toArray below meth c H locs 0 0 Q (F0 m 11 ls []) := by
    intro n7
    induction n7 with
    | zero => exact fun _ _ _ _ _ _ _ _ _ _ hf => q_no hf
    | succ n7 ihz6 =>
      intro σ4 x3_2 x4_3 H locs ls hP hD hS hl hf
      have hf := (congrFun (congrFun (congrFun (congrFun ez6 (q_lp (fun _ _ _ => none) z6 n7)) σ4) x3_2) x4_3).symm.trans hf
      refine lv_iload hx hb dX3_staysWithin_11 (lv_at hl 4 rfl) ?_
      refine lv_iload_n hx hb dX3_staysWithin_13 rfl (lv_at hl 1 rfl) ?_
      refine lv_icmp_ge (tgt := 66) hx hb dX3_staysWithin_14 (by decide) (fun h8 => ?_) (fun h8 => ?_)
      · have hf := (if_pos h8).symm.trans hf
        refine lv_iconst (v := 1) hx hb dX3_staysWithin_66 (by decide) ?_
        obtain ⟨hz, hf⟩ := q_zz_o hf
        obtain ⟨hi1, hi2⟩ := Prod.mk.inj (Option.some.inj hf)
        subst hi1
        subst hi2
        exact hret _ _ _ _ dX3_staysWithin_67 (q_zz_n hz).1 hP hS
      · have hf := (if_neg h8).symm.trans hf
        refine lv_aload_n hx hb dX3_staysWithin_17 rfl (lv_at hl 0 rfl) ?_
        refine va_get (D := D) (ci := 3) (C := RX3) (T := TX3) (N := 3) hx hb hts fwX3_staysWithin_X3 hown hK hP 0 rfl rfl 1 (by decide) (hts _ (List.mem_of_getElem? (i := 3) rfl)) (fun _ h9 => h9) rfl dX3_staysWithin_18 ?_
        refine va_get (D := D) (ci := 0) (C := RX0) (T := TX0) (N := 13) hx hb hts fwX3_staysWithin_X0 hown hK hP 14 rfl rfl 1 (by decide) (hts _ (List.mem_of_getElem? (i := 4) rfl)) (fun _ h9 => h9) rfl dX3_staysWithin_21 ?_
        refine lv_sipush (v := 9999) hx hb dX3_staysWithin_24 (by decide) ?_
        refine lv_iload_n hx hb dX3_staysWithin_27 rfl (lv_at hl 3 rfl) ?_
        refine lv_aload_n hx hb dX3_staysWithin_28 rfl (lv_at hl 0 rfl) ?_
        refine va_get (D := D) (ci := 3) (C := RX3) (T := TX3) (N := 3) hx hb hts fwX3_staysWithin_X3 hown hK hP 0 rfl rfl 2 (by decide) (hts _ (List.mem_of_getElem? (i := 5) rfl)) (fun _ h9 => h9) rfl dX3_staysWithin_29 ?_
        refine lv_iload hx hb dX3_staysWithin_32 (lv_at hl 4 rfl) ?_
        refine w_iald (wf := (wX3 cI cZ cS ad)) hx hb hK hP 27 0 rfl rfl hf dX3_staysWithin_34 (fun v9 hf => ?_)
        refine lv_iadd hx hb dX3_staysWithin_35 ?_
        refine va_mmin hx hb (hml.trans hl.1.symm) hown (hts _ (List.mem_of_getElem? (i := 6) rfl)) (hts _ (List.mem_of_getElem? (i := 7) rfl)) (hts _ (List.mem_of_getElem? (i := 8) rfl)) (hts _ (List.mem_of_getElem? (i := 9) rfl)) (Nat.le_of_ble_eq_true rfl) (Nat.le_of_ble_eq_true rfl) (Nat.zero_le _) (Nat.zero_le _) dX3_staysWithin_36 ?_
        refine lv_aload_n hx hb dX3_staysWithin_39 rfl (lv_at hl 0 rfl) ?_
        refine va_get (D := D) (ci := 3) (C := RX3) (T := TX3) (N := 3) hx hb hts fwX3_staysWithin_X3 hown hK hP 0 rfl rfl 0 (by decide) (hts _ (List.mem_of_getElem? (i := 1) rfl)) (fun _ h9 => h9) rfl dX3_staysWithin_40 ?_
        refine va_get (D := D) (ci := 0) (C := RX0) (T := TX0) (N := 13) hx hb hts fwX3_staysWithin_X0 hown hK hP 1 rfl rfl 9 (by decide) (hts _ (List.mem_of_getElem? (i := 10) rfl)) (fun _ h9 => h9) rfl dX3_staysWithin_43 ?_
        refine lv_iload hx hb dX3_staysWithin_46 (lv_at hl 4 rfl) ?_
        refine lv_iadd hx hb dX3_staysWithin_48 ?_
        refine q_cVi (wf := (wX3 cI cZ cS ad)) (wc := wX4 cI cZ cS (fun i => ad (20 + i))) (rest := []) ⟨hx, hb, hml, hown, hts⟩ hK hZ hA hP hD hS hf (fun x τ ho => kX4_leaves l D cI cZ cS zz (fun i => ad (20 + i)) (q_sb σ4 20) (if (x3_2 + v9) < (9999 : Int32) then (x3_2 + v9) else (9999 : Int32)) ((σ4 1 9) + x4_3) x τ ho) (cwV 2 hts gX3_staysWithin_X4_leaves rfl rfl rfl ndX4_leaves ⟨Nat.le_of_ble_eq_true rfl, Nat.le_of_ble_eq_true rfl⟩) [20, 21] rfl rfl [none, none, none, none, none, none, none, none, none, none, none, none, none, none, none, none, none, none, none, none, some 0, some 1, none, none, none, none, none, none] (by decide +kernel) (Nat.le_of_ble_eq_true rfl) (fun _ => rfl) (fun _ => rfl) (fun _ => rfl) rfl rfl rfl rfl (hl.1) rfl (Nat.le_of_ble_eq_true rfl) dX3_staysWithin_49 ⟨Nat.zero_le _, Nat.zero_le _⟩ (fun r11 σ10 H locs hf hP hD hS => ?_)
        refine lv_istore_n (lv' := [(3, .int r11), (0, .ref (ad 0)), (1, .int a1), (2, .int a2), (4, .int x4_3)]) hx hb dX3_staysWithin_52 rfl hl (by decide) rfl (fun ls hl => ?_)
        refine lv_iload_n hx hb dX3_staysWithin_53 rfl (lv_at hl 0 rfl) ?_
        refine lv_iload_n hx hb dX3_staysWithin_54 rfl (lv_at hl 3 rfl) ?_
        refine lv_icmp_le (tgt := 60) hx hb dX3_staysWithin_55 (by decide) (fun h12 => ?_) (fun h12 => ?_)
        · have hf := (if_pos h12).symm.trans hf
          refine lv_iinc (v := (x4_3 + (1 : Int32))) (lv' := [(4, .int (x4_3 + (1 : Int32))), (3, .int r11), (0, .ref (ad 0)), (1, .int a1), (2, .int a2)]) hx hb dX3_staysWithin_60 hl (k := 4) rfl rfl (by decide) rfl (fun ls hl => ?_)
          refine lv_goto (tgt := 11) hx hb dX3_staysWithin_63 (by decide) ?_
          exact ihz6 σ10 r11 (x4_3 + (1 : Int32)) _ _ _ hP hD hS (lv_sub hl [2, 3, 4, 1, 0] rfl) hf
        · have hf := (if_neg h12).symm.trans hf
          refine lv_iconst (v := 0) hx hb dX3_staysWithin_58 (by decide) ?_
          obtain ⟨hz, hf⟩ := q_zz_o hf
          obtain ⟨hi1, hi2⟩ := Prod.mk.inj (Option.some.inj hf)
          subst hi1
          subst hi2
          exact hret _ _ _ _ dX3_staysWithin_59 (q_zz_n hz).1 hP hS
  exact Lz6 q_fu σ x3_1 (0 : Int32) _ _ _ hP hD hS (lv_sub hl [2, 3, 4, 1, 0] rfl) hf
def pX3_bestOnMark (σ : SS) (a1 : Int32) (a2 : Int32) : Option (Int32 × SS) := q_cs (pX3_foreseeInflow σ a1) (fun (τ : SS) => τ) (fun (σ1 : SS) => q_lt ((σ1 7 1) + (1 : Int32)) (fun x5_2 => q_lp (fun _ _ _ _ => none) (fun (c7 : SS → Int32 → Int32 → Int32 → Option (Int32 × SS)) (σ6 : SS) (x3_3 : Int32) (x4_4 : Int32) (x5_5 : Int32) => (if (200 : Int32) < x5_5 then some (x3_3, σ6) else q_cs (pX4_becomeLike (q_ap 2 (q_sb σ6 20) (q_sb σ6 7))) (fun (τ : SS) => (q_em (q_em σ6 20 0 2 τ) 7 2 2 τ)) (fun (σ11 : SS) => q_lt (su σ11 20 0 x5_5) (fun (σ12 : SS) => q_ci (pX3_staysWithin σ12 a1 a2) (fun (τ : SS) => τ) (fun (r14 : Int32) (σ13 : SS) => q_lt (fun (x3_15 : Int32) (x4_16 : Int32) => c7 σ13 x3_15 x4_16 (x5_5 + (1 : Int32))) (fun j17 => (if r14 = (0 : Int32) then j17 x3_3 x4_4 else (if x4_4 ≤ ((σ13 20 8) - (σ13 7 8)) then j17 x3_3 x4_4 else q_lt ((σ13 20 8) - (σ13 7 8)) (fun x4_20 => j17 x5_5 x4_20))))))))) q_fu σ1 (-1 : Int32) (201 : Int32) x5_2))
theorem fwX3_bestOnMark_X0 : ∀ w ∈ wsX00, w ∈ wsX3_bestOnMark := fun _ h => List.mem_cons_of_mem _ (List.mem_append_left _ (List.mem_append_left _ (List.mem_append_left _ (List.mem_append_right _ h))))
theorem fwX3_bestOnMark_X3 : ∀ w ∈ wsX30, w ∈ wsX3_bestOnMark := fun _ h => List.mem_cons_of_mem _ (List.mem_append_left _ (List.mem_append_left _ (List.mem_append_left _ (List.mem_append_left _ (List.mem_append_right _ h)))))
theorem fwX3_bestOnMark_X4 : ∀ w ∈ wsX40, w ∈ wsX3_bestOnMark := fun _ h => List.mem_cons_of_mem _ (List.mem_append_left _ (List.mem_append_left _ (List.mem_append_right _ h)))
abbrev rmX3_bestOnMark : Room := { frames := 6, cells := 0, slots := 0, locals := 164 }
set_option maxHeartbeats 4000000 in
set_option maxRecDepth 100000 in
theorem kX3_bestOnMark (l : Launch) (D : va_G) (cI cZ cS : ClassId) (zz : ZT) (ad : Nat → Nat) (σ : SS) (a1 : Int32) (a2 : Int32) (rr : Int32) (σr : SS) (hf : pX3_bestOnMark σ a1 a2 = some (rr, σr)) : CI l yX3_bestOnMark wsX3_bestOnMark rmX3_bestOnMark D (K3 cI cZ cS) zz [.ref (ad 0), .int a1, .int a2] (wX3 cI cZ cS ad σ) (wX3 cI cZ cS ad σr) rr := by
  refine q_ofI (cc := cX3_bestOnMark) (maxL := 6) (ty := .int) (by decide) rfl (Nat.le_of_ble_eq_true rfl) ?_
  intro p e s m below meth c Q A ls hx hb hml hown hts hK hZ hA hP hD hS hl hret
  have hl : lv_has ls 6 [(0, .ref (ad 0)), (1, .int a1), (2, .int a2)] := hl
  unfold pX3_bestOnMark at hf
  refine lv_aload_n hx hb dX3_bestOnMark_0 rfl (lv_at hl 0 rfl) ?_
  refine lv_iload_n hx hb dX3_bestOnMark_1 rfl (lv_at hl 1 rfl) ?_
  refine q_cVv (wf := (wX3 cI cZ cS ad)) (wc := wX3 cI cZ cS ad) (rest := []) ⟨hx, hb, hml, hown, hts⟩ hK hZ hA hP hD hS hf (fun x ho => kX3_foreseeInflow l D cI cZ cS zz ad σ a1 x ho) (cwV 1 hts gX3_bestOnMark_X3_foreseeInflow rfl rfl rfl ndX3_foreseeInflow ⟨Nat.le_of_ble_eq_true rfl, Nat.le_of_ble_eq_true rfl⟩) [0, 1, 2, 3, 4, 5, 6, 7, 8, 9, 10, 11, 12, 13, 14, 15, 16, 17, 18, 19, 20, 21, 22, 23, 24, 25, 26, 27] rfl rfl [some 0, some 1, some 2, some 3, some 4, some 5, some 6, some 7, some 8, some 9, some 10, some 11, some 12, some 13, some 14, some 15, some 16, some 17, some 18, some 19, some 20, some 21, some 22, some 23, some 24, some 25, some 26, some 27] (by decide +kernel) (Nat.le_of_ble_eq_true rfl) (fun _ => rfl) (fun _ => rfl) (fun _ => rfl) rfl rfl rfl rfl (hl.1) rfl (Nat.le_of_ble_eq_true rfl) dX3_bestOnMark_2 ⟨Nat.zero_le _, Nat.zero_le _⟩ (fun σ1 H locs hf hP hD hS => ?_)
  refine lv_iconst (v := -1) hx hb dX3_bestOnMark_5 (by decide) ?_
  refine lv_istore_n (lv' := [(3, .int (-1 : Int32)), (0, .ref (ad 0)), (1, .int a1), (2, .int a2)]) hx hb dX3_bestOnMark_6 rfl hl (by decide) rfl (fun ls hl => ?_)
  refine lv_sipush (v := 201) hx hb dX3_bestOnMark_7 (by decide) ?_
  refine lv_istore (lv' := [(4, .int (201 : Int32)), (3, .int (-1 : Int32)), (0, .ref (ad 0)), (1, .int a1), (2, .int a2)]) hx hb dX3_bestOnMark_10 hl (by decide) rfl (fun ls hl => ?_)
  refine lv_aload_n hx hb dX3_bestOnMark_12 rfl (lv_at hl 2 rfl) ?_
  refine va_get (D := D) (ci := 3) (C := RX3) (T := TX3) (N := 3) hx hb hts fwX3_bestOnMark_X3 hown hK hP 0 rfl rfl 0 (by decide) (hts _ (List.mem_of_getElem? (i := 1) rfl)) (fun _ h9 => h9) rfl dX3_bestOnMark_13 ?_
  refine va_get (D := D) (ci := 0) (C := RX0) (T := TX0) (N := 13) hx hb hts fwX3_bestOnMark_X0 hown hK hP 1 rfl rfl 1 (by decide) (hts _ (List.mem_of_getElem? (i := 2) rfl)) (fun _ h9 => h9) rfl dX3_bestOnMark_16 ?_
  refine va_get (D := D) (ci := 4) (C := RX4) (T := TX4) (N := 11) hx hb hts fwX3_bestOnMark_X4 hown hK hP 7 rfl rfl 1 (by decide) (hts _ (List.mem_of_getElem? (i := 3) rfl)) (fun _ h9 => h9) rfl dX3_bestOnMark_19 ?_
  refine lv_iconst (v := 1) hx hb dX3_bestOnMark_22 (by decide) ?_
  refine lv_iadd hx hb dX3_bestOnMark_23 ?_
  refine lv_topi (fun x5_2 ex5_2 => ?_)
  have hf := q_lt_at ex5_2 hf
  refine lv_istore (lv' := [(5, .int x5_2), (4, .int (201 : Int32)), (3, .int (-1 : Int32)), (0, .ref (ad 0)), (1, .int a1), (2, .int a2)]) hx hb dX3_bestOnMark_24 hl (by decide) rfl (fun ls hl => ?_)
  refine q_lp_go (f := fun (zf : SS → Int32 → Int32 → Int32 → Option (Int32 × SS)) => zf σ1 (-1 : Int32) (201 : Int32) x5_2) hf (fun z8 ez8 hf => ?_)
  have Lz8 : ∀ (n9 : Nat) (σ6 : SS) (x3_3 : Int32) (x4_4 : Int32) (x5_5 : Int32) (H : Heap) (locs : List Loc) (ls : Array Slot), va_P D vwCl ((wX3 cI cZ cS ad) σ6) H → va_D A ((wX3 cI cZ cS ad) σ6) → va_S A s.heap H locs → lv_has ls 6 [(0, .ref (ad 0)), (1, .int a1), (2, .int a2), (3, .int x3_3), (4, .int x4_4), (5, .int x5_5)] → q_lp (fun _ _ _ _ => none) z8 n9 σ6 x3_3 x4_4 x5_5 = some (rr, σr) → W p l e rmX3_bestOnMark s m ([.ref (ad 0), .int a1, .int a2] : List Value).toArray below meth c H locs 0 0 Q (F0 m 26 ls []) := by
    intro n9
    induction n9 with
    | zero => exact fun _ _ _ _ _ _ _ _ _ _ _ hf => q_no hf
    | succ n9 ihz8 =>
      intro σ6 x3_3 x4_4 x5_5 H locs ls hP hD hS hl hf
      have hf := (congrFun (congrFun (congrFun (congrFun (congrFun ez8 (q_lp (fun _ _ _ _ => none) z8 n9)) σ6) x3_3) x4_4) x5_5).symm.trans hf
      refine lv_iload hx hb dX3_bestOnMark_26 (lv_at hl 5 rfl) ?_
      refine lv_sipush (v := 200) hx hb dX3_bestOnMark_28 (by decide) ?_
      refine lv_icmp_gt (tgt := 130) hx hb dX3_bestOnMark_31 (by decide) (fun h10 => ?_) (fun h10 => ?_)
      · have hf := (if_pos h10).symm.trans hf
        refine lv_iload_n hx hb dX3_bestOnMark_130 rfl (lv_at hl 3 rfl) ?_
        obtain ⟨hi1, hi2⟩ := Prod.mk.inj (Option.some.inj hf)
        subst hi1
        subst hi2
        exact hret _ _ _ _ dX3_bestOnMark_131 rfl hP hS
      · have hf := (if_neg h10).symm.trans hf
        refine lv_aload_n hx hb dX3_bestOnMark_34 rfl (lv_at hl 0 rfl) ?_
        refine va_get (D := D) (ci := 3) (C := RX3) (T := TX3) (N := 3) hx hb hts fwX3_bestOnMark_X3 hown hK hP 0 rfl rfl 1 (by decide) (hts _ (List.mem_of_getElem? (i := 4) rfl)) (fun _ h9 => h9) rfl dX3_bestOnMark_35 ?_
        refine va_get (D := D) (ci := 0) (C := RX0) (T := TX0) (N := 13) hx hb hts fwX3_bestOnMark_X0 hown hK hP 14 rfl rfl 1 (by decide) (hts _ (List.mem_of_getElem? (i := 2) rfl)) (fun _ h9 => h9) rfl dX3_bestOnMark_38 ?_
        refine lv_aload_n hx hb dX3_bestOnMark_41 rfl (lv_at hl 0 rfl) ?_
        refine va_get (D := D) (ci := 3) (C := RX3) (T := TX3) (N := 3) hx hb hts fwX3_bestOnMark_X3 hown hK hP 0 rfl rfl 0 (by decide) (hts _ (List.mem_of_getElem? (i := 1) rfl)) (fun _ h9 => h9) rfl dX3_bestOnMark_42 ?_
        refine va_get (D := D) (ci := 0) (C := RX0) (T := TX0) (N := 13) hx hb hts fwX3_bestOnMark_X0 hown hK hP 1 rfl rfl 1 (by decide) (hts _ (List.mem_of_getElem? (i := 2) rfl)) (fun _ h9 => h9) rfl dX3_bestOnMark_45 ?_
        refine q_cVv (wf := (wX3 cI cZ cS ad)) (wc := wX4_X4 cI cZ cS (fun i => ad (if i < 2 then 20 + i else 7 + (i - 2)))) (rest := []) ⟨hx, hb, hml, hown, hts⟩ hK hZ hA hP hD hS hf (fun x ho => kX4_becomeLike l D cI cZ cS zz (fun i => ad (if i < 2 then 20 + i else 7 + (i - 2))) (q_ap 2 (q_sb σ6 20) (q_sb σ6 7)) x ho) (cwV 1 hts gX3_bestOnMark_X4_becomeLike rfl rfl rfl ndX4_becomeLike ⟨Nat.le_of_ble_eq_true rfl, Nat.le_of_ble_eq_true rfl⟩) [20, 21, 7, 8] rfl rfl [none, none, none, none, none, none, none, some 2, some 3, none, none, none, none, none, none, none, none, none, none, none, some 0, some 1, none, none, none, none, none, none] (by decide +kernel) (Nat.le_of_ble_eq_true rfl) (fun _ => rfl) (fun _ => rfl) (fun _ => rfl) rfl rfl rfl rfl (hl.1) rfl (Nat.le_of_ble_eq_true rfl) dX3_bestOnMark_48 ⟨Nat.zero_le _, Nat.zero_le _⟩ (fun σ11 H locs hf hP hD hS => ?_)
        refine lv_aload_n hx hb dX3_bestOnMark_51 rfl (lv_at hl 0 rfl) ?_
        refine va_get (D := D) (ci := 3) (C := RX3) (T := TX3) (N := 3) hx hb hts fwX3_bestOnMark_X3 hown hK hP 0 rfl rfl 1 (by decide) (hts _ (List.mem_of_getElem? (i := 4) rfl)) (fun _ h9 => h9) rfl dX3_bestOnMark_52 ?_
        refine va_get (D := D) (ci := 0) (C := RX0) (T := TX0) (N := 13) hx hb hts fwX3_bestOnMark_X0 hown hK hP 14 rfl rfl 1 (by decide) (hts _ (List.mem_of_getElem? (i := 2) rfl)) (fun _ h9 => h9) rfl dX3_bestOnMark_55 ?_
        refine lv_iload hx hb dX3_bestOnMark_58 (lv_at hl 5 rfl) ?_
        refine w_put (D := D) (wf := (wX3 cI cZ cS ad)) (cid := 20) (ci := 4) (C := RX4) (T := TX4) (N := 11) hx hb hts fwX3_bestOnMark_X4 tyX4 tyX4_ok nmX4 hown hK hP hD hS 20 rfl rfl 0 (by decide) (hts _ (List.mem_of_getElem? (i := 5) rfl)) (fun _ h9 => h9) rfl (tyX4_ok 0 (by decide)) (Nat.le_of_ble_eq_true rfl) hf rfl dX3_bestOnMark_60 (fun σ12 H locs hf hP hD hS => ?_)
        refine lv_aload_n hx hb dX3_bestOnMark_63 rfl (lv_at hl 0 rfl) ?_
        refine lv_iload_n hx hb dX3_bestOnMark_64 rfl (lv_at hl 1 rfl) ?_
        refine lv_iload_n hx hb dX3_bestOnMark_65 rfl (lv_at hl 2 rfl) ?_
        refine q_cVi (wf := (wX3 cI cZ cS ad)) (wc := wX3 cI cZ cS ad) (rest := []) ⟨hx, hb, hml, hown, hts⟩ hK hZ hA hP hD hS hf (fun x τ ho => kX3_staysWithin l D cI cZ cS zz ad σ12 a1 a2 x τ ho) (cwV 2 hts gX3_bestOnMark_X3_staysWithin rfl rfl rfl ndX3_staysWithin ⟨Nat.le_of_ble_eq_true rfl, Nat.le_of_ble_eq_true rfl⟩) [0, 1, 2, 3, 4, 5, 6, 7, 8, 9, 10, 11, 12, 13, 14, 15, 16, 17, 18, 19, 20, 21, 22, 23, 24, 25, 26, 27] rfl rfl [some 0, some 1, some 2, some 3, some 4, some 5, some 6, some 7, some 8, some 9, some 10, some 11, some 12, some 13, some 14, some 15, some 16, some 17, some 18, some 19, some 20, some 21, some 22, some 23, some 24, some 25, some 26, some 27] (by decide +kernel) (Nat.le_of_ble_eq_true rfl) (fun _ => rfl) (fun _ => rfl) (fun _ => rfl) rfl rfl rfl rfl (hl.1) rfl (Nat.le_of_ble_eq_true rfl) dX3_bestOnMark_66 ⟨Nat.zero_le _, Nat.zero_le _⟩ (fun r14 σ13 H locs hf hP hD hS => ?_)
        refine q_lt_go hf (fun j17 ej17 hf => ?_)
        have Jj17 : ∀ (x3_15 : Int32) (x4_16 : Int32) (H : Heap) (locs : List Loc) (ls : Array Slot), va_P D vwCl ((wX3 cI cZ cS ad) σ13) H → va_D A ((wX3 cI cZ cS ad) σ13) → va_S A s.heap H locs → lv_has ls 6 [(0, .ref (ad 0)), (1, .int a1), (2, .int a2), (3, .int x3_15), (4, .int x4_16), (5, .int x5_5)] → j17 x3_15 x4_16 = some (rr, σr) → W p l e rmX3_bestOnMark s m ([.ref (ad 0), .int a1, .int a2] : List Value).toArray below meth c H locs 0 0 Q (F0 m 124 ls []) := by
          intro x3_15 x4_16 H locs ls hP hD hS hl hf
          have hf := (congrFun (congrFun ej17 x3_15) x4_16).symm.trans hf
          refine lv_iinc (v := (x5_5 + (1 : Int32))) (lv' := [(5, .int (x5_5 + (1 : Int32))), (0, .ref (ad 0)), (1, .int a1), (2, .int a2), (3, .int x3_15), (4, .int x4_16)]) hx hb dX3_bestOnMark_124 hl (k := 5) rfl rfl (by decide) rfl (fun ls hl => ?_)
          refine lv_goto (tgt := 26) hx hb dX3_bestOnMark_127 (by decide) ?_
          exact ihz8 σ13 x3_15 x4_16 (x5_5 + (1 : Int32)) _ _ _ hP hD hS (lv_sub hl [1, 2, 3, 4, 5, 0] rfl) hf
        refine lv_if_eq (tgt := 124) hx hb dX3_bestOnMark_69 (by decide) (fun h18 => ?_) (fun h18 => ?_)
        · have hf := (if_pos h18).symm.trans hf
          exact Jj17 x3_3 x4_4 _ _ _ hP hD hS (lv_sub hl [0, 1, 2, 3, 4, 5] rfl) hf
        · have hf := (if_neg h18).symm.trans hf
          refine lv_aload_n hx hb dX3_bestOnMark_72 rfl (lv_at hl 0 rfl) ?_
          refine va_get (D := D) (ci := 3) (C := RX3) (T := TX3) (N := 3) hx hb hts fwX3_bestOnMark_X3 hown hK hP 0 rfl rfl 1 (by decide) (hts _ (List.mem_of_getElem? (i := 4) rfl)) (fun _ h9 => h9) rfl dX3_bestOnMark_73 ?_
          refine va_get (D := D) (ci := 0) (C := RX0) (T := TX0) (N := 13) hx hb hts fwX3_bestOnMark_X0 hown hK hP 14 rfl rfl 1 (by decide) (hts _ (List.mem_of_getElem? (i := 2) rfl)) (fun _ h9 => h9) rfl dX3_bestOnMark_76 ?_
          refine va_get (D := D) (ci := 4) (C := RX4) (T := TX4) (N := 11) hx hb hts fwX3_bestOnMark_X4 hown hK hP 20 rfl rfl 8 (by decide) (hts _ (List.mem_of_getElem? (i := 6) rfl)) (fun _ h9 => h9) rfl dX3_bestOnMark_79 ?_
          refine lv_aload_n hx hb dX3_bestOnMark_82 rfl (lv_at hl 0 rfl) ?_
          refine va_get (D := D) (ci := 3) (C := RX3) (T := TX3) (N := 3) hx hb hts fwX3_bestOnMark_X3 hown hK hP 0 rfl rfl 0 (by decide) (hts _ (List.mem_of_getElem? (i := 1) rfl)) (fun _ h9 => h9) rfl dX3_bestOnMark_83 ?_
          refine va_get (D := D) (ci := 0) (C := RX0) (T := TX0) (N := 13) hx hb hts fwX3_bestOnMark_X0 hown hK hP 1 rfl rfl 1 (by decide) (hts _ (List.mem_of_getElem? (i := 2) rfl)) (fun _ h9 => h9) rfl dX3_bestOnMark_86 ?_
          refine va_get (D := D) (ci := 4) (C := RX4) (T := TX4) (N := 11) hx hb hts fwX3_bestOnMark_X4 hown hK hP 7 rfl rfl 8 (by decide) (hts _ (List.mem_of_getElem? (i := 6) rfl)) (fun _ h9 => h9) rfl dX3_bestOnMark_89 ?_
          refine lv_isub hx hb dX3_bestOnMark_92 ?_
          refine lv_iload hx hb dX3_bestOnMark_93 (lv_at hl 4 rfl) ?_
          refine lv_icmp_ge (tgt := 124) hx hb dX3_bestOnMark_95 (by decide) (fun h19 => ?_) (fun h19 => ?_)
          · have hf := (if_pos h19).symm.trans hf
            exact Jj17 x3_3 x4_4 _ _ _ hP hD hS (lv_sub hl [0, 1, 2, 3, 4, 5] rfl) hf
          · have hf := (if_neg h19).symm.trans hf
            refine lv_iload hx hb dX3_bestOnMark_98 (lv_at hl 5 rfl) ?_
            refine lv_istore_n (lv' := [(3, .int x5_5), (0, .ref (ad 0)), (1, .int a1), (2, .int a2), (4, .int x4_4), (5, .int x5_5)]) hx hb dX3_bestOnMark_100 rfl hl (by decide) rfl (fun ls hl => ?_)
            refine lv_aload_n hx hb dX3_bestOnMark_101 rfl (lv_at hl 1 rfl) ?_
            refine va_get (D := D) (ci := 3) (C := RX3) (T := TX3) (N := 3) hx hb hts fwX3_bestOnMark_X3 hown hK hP 0 rfl rfl 1 (by decide) (hts _ (List.mem_of_getElem? (i := 4) rfl)) (fun _ h9 => h9) rfl dX3_bestOnMark_102 ?_
            refine va_get (D := D) (ci := 0) (C := RX0) (T := TX0) (N := 13) hx hb hts fwX3_bestOnMark_X0 hown hK hP 14 rfl rfl 1 (by decide) (hts _ (List.mem_of_getElem? (i := 2) rfl)) (fun _ h9 => h9) rfl dX3_bestOnMark_105 ?_
            refine va_get (D := D) (ci := 4) (C := RX4) (T := TX4) (N := 11) hx hb hts fwX3_bestOnMark_X4 hown hK hP 20 rfl rfl 8 (by decide) (hts _ (List.mem_of_getElem? (i := 6) rfl)) (fun _ h9 => h9) rfl dX3_bestOnMark_108 ?_
            refine lv_aload_n hx hb dX3_bestOnMark_111 rfl (lv_at hl 1 rfl) ?_
            refine va_get (D := D) (ci := 3) (C := RX3) (T := TX3) (N := 3) hx hb hts fwX3_bestOnMark_X3 hown hK hP 0 rfl rfl 0 (by decide) (hts _ (List.mem_of_getElem? (i := 1) rfl)) (fun _ h9 => h9) rfl dX3_bestOnMark_112 ?_
            refine va_get (D := D) (ci := 0) (C := RX0) (T := TX0) (N := 13) hx hb hts fwX3_bestOnMark_X0 hown hK hP 1 rfl rfl 1 (by decide) (hts _ (List.mem_of_getElem? (i := 2) rfl)) (fun _ h9 => h9) rfl dX3_bestOnMark_115 ?_
            refine va_get (D := D) (ci := 4) (C := RX4) (T := TX4) (N := 11) hx hb hts fwX3_bestOnMark_X4 hown hK hP 7 rfl rfl 8 (by decide) (hts _ (List.mem_of_getElem? (i := 6) rfl)) (fun _ h9 => h9) rfl dX3_bestOnMark_118 ?_
            refine lv_isub hx hb dX3_bestOnMark_121 ?_
            refine lv_topi (fun x4_20 ex4_20 => ?_)
            have hf := q_lt_at ex4_20 hf
            refine lv_istore (lv' := [(4, .int x4_20), (3, .int x5_5), (0, .ref (ad 0)), (1, .int a1), (2, .int a2), (5, .int x5_5)]) hx hb dX3_bestOnMark_122 hl (by decide) rfl (fun ls hl => ?_)
            exact Jj17 x5_5 x4_20 _ _ _ hP hD hS (lv_sub hl [2, 3, 4, 1, 0, 5] rfl) hf
  exact Lz8 q_fu σ1 (-1 : Int32) (201 : Int32) x5_2 _ _ _ hP hD hS (lv_sub hl [3, 4, 5, 2, 1, 0] rfl) hf
def pX3_leastRate (σ : SS) (a1 : Int32) (a2 : Int32) : Option (Int32 × SS) := q_cs (pX3_foreseeInflow σ a1) (fun (τ : SS) => τ) (fun (σ1 : SS) => q_lp (fun _ _ => none) (fun (c4 : SS → Int32 → Option (Int32 × SS)) (σ3 : SS) (x3_2 : Int32) => (if (99 : Int32) < x3_2 then some ((-1 : Int32), σ3) else q_cs (pX4_becomeLike (q_ap 2 (q_sb σ3 20) (q_sb σ3 7))) (fun (τ : SS) => (q_em (q_em σ3 20 0 2 τ) 7 2 2 τ)) (fun (σ8 : SS) => q_lt (su σ8 20 2 x3_2) (fun (σ9 : SS) => q_ci (pX3_staysWithin σ9 a1 a2) (fun (τ : SS) => τ) (fun (r11 : Int32) (σ10 : SS) => (if r11 = (0 : Int32) then c4 σ10 (x3_2 + (1 : Int32)) else some (x3_2, σ10))))))) q_fu σ1 (1 : Int32))
theorem fwX3_leastRate_X0 : ∀ w ∈ wsX00, w ∈ wsX3_leastRate := fun _ h => List.mem_cons_of_mem _ (List.mem_append_left _ (List.mem_append_left _ (List.mem_append_left _ (List.mem_append_right _ h))))
theorem fwX3_leastRate_X3 : ∀ w ∈ wsX30, w ∈ wsX3_leastRate := fun _ h => List.mem_cons_of_mem _ (List.mem_append_left _ (List.mem_append_left _ (List.mem_append_left _ (List.mem_append_left _ (List.mem_append_right _ h)))))
theorem fwX3_leastRate_X4 : ∀ w ∈ wsX40, w ∈ wsX3_leastRate := fun _ h => List.mem_cons_of_mem _ (List.mem_append_left _ (List.mem_append_left _ (List.mem_append_right _ h)))
abbrev rmX3_leastRate : Room := { frames := 6, cells := 0, slots := 0, locals := 164 }
set_option maxHeartbeats 4000000 in
set_option maxRecDepth 100000 in
theorem kX3_leastRate (l : Launch) (D : va_G) (cI cZ cS : ClassId) (zz : ZT) (ad : Nat → Nat) (σ : SS) (a1 : Int32) (a2 : Int32) (rr : Int32) (σr : SS) (hf : pX3_leastRate σ a1 a2 = some (rr, σr)) : CI l yX3_leastRate wsX3_leastRate rmX3_leastRate D (K3 cI cZ cS) zz [.ref (ad 0), .int a1, .int a2] (wX3 cI cZ cS ad σ) (wX3 cI cZ cS ad σr) rr := by
  refine q_ofI (cc := cX3_leastRate) (maxL := 4) (ty := .int) (by decide) rfl (Nat.le_of_ble_eq_true rfl) ?_
  intro p e s m below meth c Q A ls hx hb hml hown hts hK hZ hA hP hD hS hl hret
  have hl : lv_has ls 4 [(0, .ref (ad 0)), (1, .int a1), (2, .int a2)] := hl
  unfold pX3_leastRate at hf
  refine lv_aload_n hx hb dX3_leastRate_0 rfl (lv_at hl 0 rfl) ?_
  refine lv_iload_n hx hb dX3_leastRate_1 rfl (lv_at hl 1 rfl) ?_
  refine q_cVv (wf := (wX3 cI cZ cS ad)) (wc := wX3 cI cZ cS ad) (rest := []) ⟨hx, hb, hml, hown, hts⟩ hK hZ hA hP hD hS hf (fun x ho => kX3_foreseeInflow l D cI cZ cS zz ad σ a1 x ho) (cwV 1 hts gX3_leastRate_X3_foreseeInflow rfl rfl rfl ndX3_foreseeInflow ⟨Nat.le_of_ble_eq_true rfl, Nat.le_of_ble_eq_true rfl⟩) [0, 1, 2, 3, 4, 5, 6, 7, 8, 9, 10, 11, 12, 13, 14, 15, 16, 17, 18, 19, 20, 21, 22, 23, 24, 25, 26, 27] rfl rfl [some 0, some 1, some 2, some 3, some 4, some 5, some 6, some 7, some 8, some 9, some 10, some 11, some 12, some 13, some 14, some 15, some 16, some 17, some 18, some 19, some 20, some 21, some 22, some 23, some 24, some 25, some 26, some 27] (by decide +kernel) (Nat.le_of_ble_eq_true rfl) (fun _ => rfl) (fun _ => rfl) (fun _ => rfl) rfl rfl rfl rfl (hl.1) rfl (Nat.le_of_ble_eq_true rfl) dX3_leastRate_2 ⟨Nat.zero_le _, Nat.zero_le _⟩ (fun σ1 H locs hf hP hD hS => ?_)
  refine lv_iconst (v := 1) hx hb dX3_leastRate_5 (by decide) ?_
  refine lv_istore_n (lv' := [(3, .int (1 : Int32)), (0, .ref (ad 0)), (1, .int a1), (2, .int a2)]) hx hb dX3_leastRate_6 rfl hl (by decide) rfl (fun ls hl => ?_)
  refine q_lp_go (f := fun (zf : SS → Int32 → Option (Int32 × SS)) => zf σ1 (1 : Int32)) hf (fun z5 ez5 hf => ?_)
  have Lz5 : ∀ (n6 : Nat) (σ3 : SS) (x3_2 : Int32) (H : Heap) (locs : List Loc) (ls : Array Slot), va_P D vwCl ((wX3 cI cZ cS ad) σ3) H → va_D A ((wX3 cI cZ cS ad) σ3) → va_S A s.heap H locs → lv_has ls 4 [(0, .ref (ad 0)), (1, .int a1), (2, .int a2), (3, .int x3_2)] → q_lp (fun _ _ => none) z5 n6 σ3 x3_2 = some (rr, σr) → W p l e rmX3_leastRate s m ([.ref (ad 0), .int a1, .int a2] : List Value).toArray below meth c H locs 0 0 Q (F0 m 7 ls []) := by
    intro n6
    induction n6 with
    | zero => exact fun _ _ _ _ _ _ _ _ _ hf => q_no hf
    | succ n6 ihz5 =>
      intro σ3 x3_2 H locs ls hP hD hS hl hf
      have hf := (congrFun (congrFun (congrFun ez5 (q_lp (fun _ _ => none) z5 n6)) σ3) x3_2).symm.trans hf
      refine lv_iload_n hx hb dX3_leastRate_7 rfl (lv_at hl 3 rfl) ?_
      refine lv_bipush (v := 99) hx hb dX3_leastRate_8 (by decide) ?_
      refine lv_icmp_gt (tgt := 58) hx hb dX3_leastRate_10 (by decide) (fun h7 => ?_) (fun h7 => ?_)
      · have hf := (if_pos h7).symm.trans hf
        refine lv_iconst (v := -1) hx hb dX3_leastRate_58 (by decide) ?_
        obtain ⟨hi1, hi2⟩ := Prod.mk.inj (Option.some.inj hf)
        subst hi1
        subst hi2
        exact hret _ _ _ _ dX3_leastRate_59 rfl hP hS
      · have hf := (if_neg h7).symm.trans hf
        refine lv_aload_n hx hb dX3_leastRate_13 rfl (lv_at hl 0 rfl) ?_
        refine va_get (D := D) (ci := 3) (C := RX3) (T := TX3) (N := 3) hx hb hts fwX3_leastRate_X3 hown hK hP 0 rfl rfl 1 (by decide) (hts _ (List.mem_of_getElem? (i := 1) rfl)) (fun _ h9 => h9) rfl dX3_leastRate_14 ?_
        refine va_get (D := D) (ci := 0) (C := RX0) (T := TX0) (N := 13) hx hb hts fwX3_leastRate_X0 hown hK hP 14 rfl rfl 1 (by decide) (hts _ (List.mem_of_getElem? (i := 2) rfl)) (fun _ h9 => h9) rfl dX3_leastRate_17 ?_
        refine lv_aload_n hx hb dX3_leastRate_20 rfl (lv_at hl 0 rfl) ?_
        refine va_get (D := D) (ci := 3) (C := RX3) (T := TX3) (N := 3) hx hb hts fwX3_leastRate_X3 hown hK hP 0 rfl rfl 0 (by decide) (hts _ (List.mem_of_getElem? (i := 3) rfl)) (fun _ h9 => h9) rfl dX3_leastRate_21 ?_
        refine va_get (D := D) (ci := 0) (C := RX0) (T := TX0) (N := 13) hx hb hts fwX3_leastRate_X0 hown hK hP 1 rfl rfl 1 (by decide) (hts _ (List.mem_of_getElem? (i := 2) rfl)) (fun _ h9 => h9) rfl dX3_leastRate_24 ?_
        refine q_cVv (wf := (wX3 cI cZ cS ad)) (wc := wX4_X4 cI cZ cS (fun i => ad (if i < 2 then 20 + i else 7 + (i - 2)))) (rest := []) ⟨hx, hb, hml, hown, hts⟩ hK hZ hA hP hD hS hf (fun x ho => kX4_becomeLike l D cI cZ cS zz (fun i => ad (if i < 2 then 20 + i else 7 + (i - 2))) (q_ap 2 (q_sb σ3 20) (q_sb σ3 7)) x ho) (cwV 1 hts gX3_leastRate_X4_becomeLike rfl rfl rfl ndX4_becomeLike ⟨Nat.le_of_ble_eq_true rfl, Nat.le_of_ble_eq_true rfl⟩) [20, 21, 7, 8] rfl rfl [none, none, none, none, none, none, none, some 2, some 3, none, none, none, none, none, none, none, none, none, none, none, some 0, some 1, none, none, none, none, none, none] (by decide +kernel) (Nat.le_of_ble_eq_true rfl) (fun _ => rfl) (fun _ => rfl) (fun _ => rfl) rfl rfl rfl rfl (hl.1) rfl (Nat.le_of_ble_eq_true rfl) dX3_leastRate_27 ⟨Nat.zero_le _, Nat.zero_le _⟩ (fun σ8 H locs hf hP hD hS => ?_)
        refine lv_aload_n hx hb dX3_leastRate_30 rfl (lv_at hl 0 rfl) ?_
        refine va_get (D := D) (ci := 3) (C := RX3) (T := TX3) (N := 3) hx hb hts fwX3_leastRate_X3 hown hK hP 0 rfl rfl 1 (by decide) (hts _ (List.mem_of_getElem? (i := 1) rfl)) (fun _ h9 => h9) rfl dX3_leastRate_31 ?_
        refine va_get (D := D) (ci := 0) (C := RX0) (T := TX0) (N := 13) hx hb hts fwX3_leastRate_X0 hown hK hP 14 rfl rfl 1 (by decide) (hts _ (List.mem_of_getElem? (i := 2) rfl)) (fun _ h9 => h9) rfl dX3_leastRate_34 ?_
        refine lv_iload_n hx hb dX3_leastRate_37 rfl (lv_at hl 3 rfl) ?_
        refine w_put (D := D) (wf := (wX3 cI cZ cS ad)) (cid := 20) (ci := 4) (C := RX4) (T := TX4) (N := 11) hx hb hts fwX3_leastRate_X4 tyX4 tyX4_ok nmX4 hown hK hP hD hS 20 rfl rfl 2 (by decide) (hts _ (List.mem_of_getElem? (i := 4) rfl)) (fun _ h9 => h9) rfl (tyX4_ok 2 (by decide)) (Nat.le_of_ble_eq_true rfl) hf rfl dX3_leastRate_38 (fun σ9 H locs hf hP hD hS => ?_)
        refine lv_aload_n hx hb dX3_leastRate_41 rfl (lv_at hl 0 rfl) ?_
        refine lv_iload_n hx hb dX3_leastRate_42 rfl (lv_at hl 1 rfl) ?_
        refine lv_iload_n hx hb dX3_leastRate_43 rfl (lv_at hl 2 rfl) ?_
        refine q_cVi (wf := (wX3 cI cZ cS ad)) (wc := wX3 cI cZ cS ad) (rest := []) ⟨hx, hb, hml, hown, hts⟩ hK hZ hA hP hD hS hf (fun x τ ho => kX3_staysWithin l D cI cZ cS zz ad σ9 a1 a2 x τ ho) (cwV 2 hts gX3_leastRate_X3_staysWithin rfl rfl rfl ndX3_staysWithin ⟨Nat.le_of_ble_eq_true rfl, Nat.le_of_ble_eq_true rfl⟩) [0, 1, 2, 3, 4, 5, 6, 7, 8, 9, 10, 11, 12, 13, 14, 15, 16, 17, 18, 19, 20, 21, 22, 23, 24, 25, 26, 27] rfl rfl [some 0, some 1, some 2, some 3, some 4, some 5, some 6, some 7, some 8, some 9, some 10, some 11, some 12, some 13, some 14, some 15, some 16, some 17, some 18, some 19, some 20, some 21, some 22, some 23, some 24, some 25, some 26, some 27] (by decide +kernel) (Nat.le_of_ble_eq_true rfl) (fun _ => rfl) (fun _ => rfl) (fun _ => rfl) rfl rfl rfl rfl (hl.1) rfl (Nat.le_of_ble_eq_true rfl) dX3_leastRate_44 ⟨Nat.zero_le _, Nat.zero_le _⟩ (fun r11 σ10 H locs hf hP hD hS => ?_)
        refine lv_if_eq (tgt := 52) hx hb dX3_leastRate_47 (by decide) (fun h12 => ?_) (fun h12 => ?_)
        · have hf := (if_pos h12).symm.trans hf
          refine lv_iinc (v := (x3_2 + (1 : Int32))) (lv' := [(3, .int (x3_2 + (1 : Int32))), (0, .ref (ad 0)), (1, .int a1), (2, .int a2)]) hx hb dX3_leastRate_52 hl (k := 3) rfl rfl (by decide) rfl (fun ls hl => ?_)
          refine lv_goto (tgt := 7) hx hb dX3_leastRate_55 (by decide) ?_
          exact ihz5 σ10 (x3_2 + (1 : Int32)) _ _ _ hP hD hS (lv_sub hl [1, 2, 3, 0] rfl) hf
        · have hf := (if_neg h12).symm.trans hf
          refine lv_iload_n hx hb dX3_leastRate_50 rfl (lv_at hl 3 rfl) ?_
          obtain ⟨hi1, hi2⟩ := Prod.mk.inj (Option.some.inj hf)
          subst hi1
          subst hi2
          exact hret _ _ _ _ dX3_leastRate_51 rfl hP hS
  exact Lz5 q_fu σ1 (1 : Int32) _ _ _ hP hD hS (lv_sub hl [1, 2, 3, 0] rfl) hf
def pX3_leastBattery (σ : SS) (a1 : Int32) (a2 : Int32) : Option (Int32 × SS) := q_cs (pX3_foreseeInflow σ a1) (fun (τ : SS) => τ) (fun (σ1 : SS) => q_lp (fun _ _ => none) (fun (c4 : SS → Int32 → Option (Int32 × SS)) (σ3 : SS) (x3_2 : Int32) => (if a1 < x3_2 then some ((-1 : Int32), σ3) else q_cs (pX4_becomeLike (q_ap 2 (q_sb σ3 20) (q_sb σ3 7))) (fun (τ : SS) => (q_em (q_em σ3 20 0 2 τ) 7 2 2 τ)) (fun (σ8 : SS) => q_zz (0 : Int32) (q_lt (su σ8 20 5 (0 : Int32)) (fun (σ9 : SS) => q_lt (su σ9 20 4 x3_2) (fun (σ10 : SS) => q_ci (pX3_staysWithin σ10 a1 a2) (fun (τ : SS) => τ) (fun (r12 : Int32) (σ11 : SS) => (if r12 = (0 : Int32) then c4 σ11 (x3_2 + (1 : Int32)) else some (x3_2, σ11))))))))) q_fu σ1 (0 : Int32))
theorem fwX3_leastBattery_X0 : ∀ w ∈ wsX00, w ∈ wsX3_leastBattery := fun _ h => List.mem_cons_of_mem _ (List.mem_append_left _ (List.mem_append_left _ (List.mem_append_left _ (List.mem_append_right _ h))))
theorem fwX3_leastBattery_X3 : ∀ w ∈ wsX30, w ∈ wsX3_leastBattery := fun _ h => List.mem_cons_of_mem _ (List.mem_append_left _ (List.mem_append_left _ (List.mem_append_left _ (List.mem_append_left _ (List.mem_append_right _ h)))))
theorem fwX3_leastBattery_X4 : ∀ w ∈ wsX40, w ∈ wsX3_leastBattery := fun _ h => List.mem_cons_of_mem _ (List.mem_append_left _ (List.mem_append_left _ (List.mem_append_right _ h)))
abbrev rmX3_leastBattery : Room := { frames := 6, cells := 0, slots := 0, locals := 164 }
set_option maxHeartbeats 4000000 in
set_option maxRecDepth 100000 in
theorem kX3_leastBattery (l : Launch) (D : va_G) (cI cZ cS : ClassId) (zz : ZT) (ad : Nat → Nat) (σ : SS) (a1 : Int32) (a2 : Int32) (rr : Int32) (σr : SS) (hf : pX3_leastBattery σ a1 a2 = some (rr, σr)) : CI l yX3_leastBattery wsX3_leastBattery rmX3_leastBattery D (K3 cI cZ cS) zz [.ref (ad 0), .int a1, .int a2] (wX3 cI cZ cS ad σ) (wX3 cI cZ cS ad σr) rr := by
  refine q_ofI (cc := cX3_leastBattery) (maxL := 4) (ty := .int) (by decide) rfl (Nat.le_of_ble_eq_true rfl) ?_
  intro p e s m below meth c Q A ls hx hb hml hown hts hK hZ hA hP hD hS hl hret
  have hl : lv_has ls 4 [(0, .ref (ad 0)), (1, .int a1), (2, .int a2)] := hl
  unfold pX3_leastBattery at hf
  refine lv_aload_n hx hb dX3_leastBattery_0 rfl (lv_at hl 0 rfl) ?_
  refine lv_iload_n hx hb dX3_leastBattery_1 rfl (lv_at hl 1 rfl) ?_
  refine q_cVv (wf := (wX3 cI cZ cS ad)) (wc := wX3 cI cZ cS ad) (rest := []) ⟨hx, hb, hml, hown, hts⟩ hK hZ hA hP hD hS hf (fun x ho => kX3_foreseeInflow l D cI cZ cS zz ad σ a1 x ho) (cwV 1 hts gX3_leastBattery_X3_foreseeInflow rfl rfl rfl ndX3_foreseeInflow ⟨Nat.le_of_ble_eq_true rfl, Nat.le_of_ble_eq_true rfl⟩) [0, 1, 2, 3, 4, 5, 6, 7, 8, 9, 10, 11, 12, 13, 14, 15, 16, 17, 18, 19, 20, 21, 22, 23, 24, 25, 26, 27] rfl rfl [some 0, some 1, some 2, some 3, some 4, some 5, some 6, some 7, some 8, some 9, some 10, some 11, some 12, some 13, some 14, some 15, some 16, some 17, some 18, some 19, some 20, some 21, some 22, some 23, some 24, some 25, some 26, some 27] (by decide +kernel) (Nat.le_of_ble_eq_true rfl) (fun _ => rfl) (fun _ => rfl) (fun _ => rfl) rfl rfl rfl rfl (hl.1) rfl (Nat.le_of_ble_eq_true rfl) dX3_leastBattery_2 ⟨Nat.zero_le _, Nat.zero_le _⟩ (fun σ1 H locs hf hP hD hS => ?_)
  refine lv_iconst (v := 0) hx hb dX3_leastBattery_5 (by decide) ?_
  refine lv_istore_n (lv' := [(3, .int (0 : Int32)), (0, .ref (ad 0)), (1, .int a1), (2, .int a2)]) hx hb dX3_leastBattery_6 rfl hl (by decide) rfl (fun ls hl => ?_)
  refine q_lp_go (f := fun (zf : SS → Int32 → Option (Int32 × SS)) => zf σ1 (0 : Int32)) hf (fun z5 ez5 hf => ?_)
  have Lz5 : ∀ (n6 : Nat) (σ3 : SS) (x3_2 : Int32) (H : Heap) (locs : List Loc) (ls : Array Slot), va_P D vwCl ((wX3 cI cZ cS ad) σ3) H → va_D A ((wX3 cI cZ cS ad) σ3) → va_S A s.heap H locs → lv_has ls 4 [(0, .ref (ad 0)), (1, .int a1), (2, .int a2), (3, .int x3_2)] → q_lp (fun _ _ => none) z5 n6 σ3 x3_2 = some (rr, σr) → W p l e rmX3_leastBattery s m ([.ref (ad 0), .int a1, .int a2] : List Value).toArray below meth c H locs 0 0 Q (F0 m 7 ls []) := by
    intro n6
    induction n6 with
    | zero => exact fun _ _ _ _ _ _ _ _ _ hf => q_no hf
    | succ n6 ihz5 =>
      intro σ3 x3_2 H locs ls hP hD hS hl hf
      have hf := (congrFun (congrFun (congrFun ez5 (q_lp (fun _ _ => none) z5 n6)) σ3) x3_2).symm.trans hf
      refine lv_iload_n hx hb dX3_leastBattery_7 rfl (lv_at hl 3 rfl) ?_
      refine lv_iload_n hx hb dX3_leastBattery_8 rfl (lv_at hl 1 rfl) ?_
      refine lv_icmp_gt (tgt := 68) hx hb dX3_leastBattery_9 (by decide) (fun h7 => ?_) (fun h7 => ?_)
      · have hf := (if_pos h7).symm.trans hf
        refine lv_iconst (v := -1) hx hb dX3_leastBattery_68 (by decide) ?_
        obtain ⟨hi1, hi2⟩ := Prod.mk.inj (Option.some.inj hf)
        subst hi1
        subst hi2
        exact hret _ _ _ _ dX3_leastBattery_69 rfl hP hS
      · have hf := (if_neg h7).symm.trans hf
        refine lv_aload_n hx hb dX3_leastBattery_12 rfl (lv_at hl 0 rfl) ?_
        refine va_get (D := D) (ci := 3) (C := RX3) (T := TX3) (N := 3) hx hb hts fwX3_leastBattery_X3 hown hK hP 0 rfl rfl 1 (by decide) (hts _ (List.mem_of_getElem? (i := 1) rfl)) (fun _ h9 => h9) rfl dX3_leastBattery_13 ?_
        refine va_get (D := D) (ci := 0) (C := RX0) (T := TX0) (N := 13) hx hb hts fwX3_leastBattery_X0 hown hK hP 14 rfl rfl 1 (by decide) (hts _ (List.mem_of_getElem? (i := 2) rfl)) (fun _ h9 => h9) rfl dX3_leastBattery_16 ?_
        refine lv_aload_n hx hb dX3_leastBattery_19 rfl (lv_at hl 0 rfl) ?_
        refine va_get (D := D) (ci := 3) (C := RX3) (T := TX3) (N := 3) hx hb hts fwX3_leastBattery_X3 hown hK hP 0 rfl rfl 0 (by decide) (hts _ (List.mem_of_getElem? (i := 3) rfl)) (fun _ h9 => h9) rfl dX3_leastBattery_20 ?_
        refine va_get (D := D) (ci := 0) (C := RX0) (T := TX0) (N := 13) hx hb hts fwX3_leastBattery_X0 hown hK hP 1 rfl rfl 1 (by decide) (hts _ (List.mem_of_getElem? (i := 2) rfl)) (fun _ h9 => h9) rfl dX3_leastBattery_23 ?_
        refine q_cVv (wf := (wX3 cI cZ cS ad)) (wc := wX4_X4 cI cZ cS (fun i => ad (if i < 2 then 20 + i else 7 + (i - 2)))) (rest := []) ⟨hx, hb, hml, hown, hts⟩ hK hZ hA hP hD hS hf (fun x ho => kX4_becomeLike l D cI cZ cS zz (fun i => ad (if i < 2 then 20 + i else 7 + (i - 2))) (q_ap 2 (q_sb σ3 20) (q_sb σ3 7)) x ho) (cwV 1 hts gX3_leastBattery_X4_becomeLike rfl rfl rfl ndX4_becomeLike ⟨Nat.le_of_ble_eq_true rfl, Nat.le_of_ble_eq_true rfl⟩) [20, 21, 7, 8] rfl rfl [none, none, none, none, none, none, none, some 2, some 3, none, none, none, none, none, none, none, none, none, none, none, some 0, some 1, none, none, none, none, none, none] (by decide +kernel) (Nat.le_of_ble_eq_true rfl) (fun _ => rfl) (fun _ => rfl) (fun _ => rfl) rfl rfl rfl rfl (hl.1) rfl (Nat.le_of_ble_eq_true rfl) dX3_leastBattery_26 ⟨Nat.zero_le _, Nat.zero_le _⟩ (fun σ8 H locs hf hP hD hS => ?_)
        refine lv_aload_n hx hb dX3_leastBattery_29 rfl (lv_at hl 0 rfl) ?_
        refine va_get (D := D) (ci := 3) (C := RX3) (T := TX3) (N := 3) hx hb hts fwX3_leastBattery_X3 hown hK hP 0 rfl rfl 1 (by decide) (hts _ (List.mem_of_getElem? (i := 1) rfl)) (fun _ h9 => h9) rfl dX3_leastBattery_30 ?_
        refine va_get (D := D) (ci := 0) (C := RX0) (T := TX0) (N := 13) hx hb hts fwX3_leastBattery_X0 hown hK hP 14 rfl rfl 1 (by decide) (hts _ (List.mem_of_getElem? (i := 2) rfl)) (fun _ h9 => h9) rfl dX3_leastBattery_33 ?_
        refine lv_iconst (v := 0) hx hb dX3_leastBattery_36 (by decide) ?_
        refine w_putZ (D := D) (wf := (wX3 cI cZ cS ad)) (cid := 20) (ci := 4) (C := RX4) (T := TX4) (N := 11) hx hb hts fwX3_leastBattery_X4 tyX4 tyX4_ok nmX4 hown hK hP hD hS 20 rfl rfl 5 (by decide) (hts _ (List.mem_of_getElem? (i := 4) rfl)) (fun _ h9 => h9) rfl (tyX4_ok 5 (by decide)) (Nat.le_of_ble_eq_true rfl) hf rfl dX3_leastBattery_37 (fun σ9 H locs hf hP hD hS => ?_)
        refine lv_aload_n hx hb dX3_leastBattery_40 rfl (lv_at hl 0 rfl) ?_
        refine va_get (D := D) (ci := 3) (C := RX3) (T := TX3) (N := 3) hx hb hts fwX3_leastBattery_X3 hown hK hP 0 rfl rfl 1 (by decide) (hts _ (List.mem_of_getElem? (i := 1) rfl)) (fun _ h9 => h9) rfl dX3_leastBattery_41 ?_
        refine va_get (D := D) (ci := 0) (C := RX0) (T := TX0) (N := 13) hx hb hts fwX3_leastBattery_X0 hown hK hP 14 rfl rfl 1 (by decide) (hts _ (List.mem_of_getElem? (i := 2) rfl)) (fun _ h9 => h9) rfl dX3_leastBattery_44 ?_
        refine lv_iload_n hx hb dX3_leastBattery_47 rfl (lv_at hl 3 rfl) ?_
        refine w_put (D := D) (wf := (wX3 cI cZ cS ad)) (cid := 20) (ci := 4) (C := RX4) (T := TX4) (N := 11) hx hb hts fwX3_leastBattery_X4 tyX4 tyX4_ok nmX4 hown hK hP hD hS 20 rfl rfl 4 (by decide) (hts _ (List.mem_of_getElem? (i := 5) rfl)) (fun _ h9 => h9) rfl (tyX4_ok 4 (by decide)) (Nat.le_of_ble_eq_true rfl) hf rfl dX3_leastBattery_48 (fun σ10 H locs hf hP hD hS => ?_)
        refine lv_aload_n hx hb dX3_leastBattery_51 rfl (lv_at hl 0 rfl) ?_
        refine lv_iload_n hx hb dX3_leastBattery_52 rfl (lv_at hl 1 rfl) ?_
        refine lv_iload_n hx hb dX3_leastBattery_53 rfl (lv_at hl 2 rfl) ?_
        refine q_cVi (wf := (wX3 cI cZ cS ad)) (wc := wX3 cI cZ cS ad) (rest := []) ⟨hx, hb, hml, hown, hts⟩ hK hZ hA hP hD hS hf (fun x τ ho => kX3_staysWithin l D cI cZ cS zz ad σ10 a1 a2 x τ ho) (cwV 2 hts gX3_leastBattery_X3_staysWithin rfl rfl rfl ndX3_staysWithin ⟨Nat.le_of_ble_eq_true rfl, Nat.le_of_ble_eq_true rfl⟩) [0, 1, 2, 3, 4, 5, 6, 7, 8, 9, 10, 11, 12, 13, 14, 15, 16, 17, 18, 19, 20, 21, 22, 23, 24, 25, 26, 27] rfl rfl [some 0, some 1, some 2, some 3, some 4, some 5, some 6, some 7, some 8, some 9, some 10, some 11, some 12, some 13, some 14, some 15, some 16, some 17, some 18, some 19, some 20, some 21, some 22, some 23, some 24, some 25, some 26, some 27] (by decide +kernel) (Nat.le_of_ble_eq_true rfl) (fun _ => rfl) (fun _ => rfl) (fun _ => rfl) rfl rfl rfl rfl (hl.1) rfl (Nat.le_of_ble_eq_true rfl) dX3_leastBattery_54 ⟨Nat.zero_le _, Nat.zero_le _⟩ (fun r12 σ11 H locs hf hP hD hS => ?_)
        refine lv_if_eq (tgt := 62) hx hb dX3_leastBattery_57 (by decide) (fun h13 => ?_) (fun h13 => ?_)
        · have hf := (if_pos h13).symm.trans hf
          refine lv_iinc (v := (x3_2 + (1 : Int32))) (lv' := [(3, .int (x3_2 + (1 : Int32))), (0, .ref (ad 0)), (1, .int a1), (2, .int a2)]) hx hb dX3_leastBattery_62 hl (k := 3) rfl rfl (by decide) rfl (fun ls hl => ?_)
          refine lv_goto (tgt := 7) hx hb dX3_leastBattery_65 (by decide) ?_
          exact ihz5 σ11 (x3_2 + (1 : Int32)) _ _ _ hP hD hS (lv_sub hl [1, 2, 3, 0] rfl) hf
        · have hf := (if_neg h13).symm.trans hf
          refine lv_iload_n hx hb dX3_leastBattery_60 rfl (lv_at hl 3 rfl) ?_
          obtain ⟨hi1, hi2⟩ := Prod.mk.inj (Option.some.inj hf)
          subst hi1
          subst hi2
          exact hret _ _ _ _ dX3_leastBattery_61 rfl hP hS
  exact Lz5 q_fu σ1 (0 : Int32) _ _ _ hP hD hS (lv_sub hl [1, 2, 3, 0] rfl) hf
def pX3_bestWorks (σ : SS) (a2 : Int32) (a3 : Int32) (a4 : Int32) : Option (Int32 × SS) := q_lp (fun _ _ _ _ _ => none) (fun (c6 : SS → Int32 → Int32 → Int32 → Int32 → Option (Int32 × SS)) (σ5 : SS) (x5_1 : Int32) (x6_2 : Int32) (x7_3 : Int32) (x8_4 : Int32) => (if (16 : Int32) ≤ x8_4 then q_lt (fun (y10 : Int32) => some (y10, σ5)) (fun j11 => (if a4 = (0 : Int32) then j11 x5_1 else j11 x6_2)) else q_cr (pX0_costOf (q_sb σ5 1) x8_4) (fun (r13 : Int32) => q_lt (fun (σ17 : SS) (x5_14 : Int32) (x6_15 : Int32) (x7_16 : Int32) => c6 σ17 x5_14 x6_15 x7_16 (x8_4 + (1 : Int32))) (fun j18 => (if (x8_4 &&& (σ5 1 4)) = (0 : Int32) then (if r13 ≤ a3 then q_cs (pX3_begin (q_sb σ5 0)) (fun (τ : SS) => (q_em σ5 0 0 28 τ)) (fun (σ21 : SS) => q_cs (pX0_constructAll (q_sb σ21 14) x8_4) (fun (τ : SS) => (q_em σ21 14 0 13 τ)) (fun (σ22 : SS) => q_cs (pX7_perform (q_ap 4 (q_sb σ22 28) (q_sb σ22 14)) a2) (fun (τ : SS) => (q_em (q_em σ22 28 0 4 τ) 14 4 13 τ)) (fun (σ23 : SS) => q_cr (pX9_harmedWorth (q_sb σ23 22)) (fun (r24 : Int32) => q_lt (j18 σ23 x8_4 r24 r13) (fun j25 => (if r24 < x6_2 then j25 else (if r24 = x6_2 then (if x7_3 ≤ r13 then j18 σ23 x5_1 x6_2 x7_3 else j25) else j18 σ23 x5_1 x6_2 x7_3))))))) else j18 σ5 x5_1 x6_2 x7_3) else j18 σ5 x5_1 x6_2 x7_3))))) q_fu σ (0 : Int32) (991 : Int32) (10000 : Int32) (0 : Int32)
theorem fwX3_bestWorks_X0 : ∀ w ∈ wsX00, w ∈ wsX3_bestWorks := fun _ h => List.mem_cons_of_mem _ (List.mem_append_left _ (List.mem_append_left _ (List.mem_append_left _ (List.mem_append_left _ (List.mem_append_right _ h)))))
theorem fwX3_bestWorks_X3 : ∀ w ∈ wsX30, w ∈ wsX3_bestWorks := fun _ h => List.mem_cons_of_mem _ (List.mem_append_left _ (List.mem_append_left _ (List.mem_append_left _ (List.mem_append_left _ (List.mem_append_left _ (List.mem_append_right _ h))))))
abbrev rmX3_bestWorks : Room := { frames := 5, cells := 0, slots := 0, locals := 142 }
set_option maxHeartbeats 4000000 in
set_option maxRecDepth 100000 in
theorem kX3_bestWorks (l : Launch) (D : va_G) (cI cZ cS : ClassId) (zz : ZT) (ad : Nat → Nat) (σ : SS) (a2 : Int32) (a3 : Int32) (a4 : Int32) (rr : Int32) (σr : SS) (hf : pX3_bestWorks σ a2 a3 a4 = some (rr, σr)) : CI l yX3_bestWorks wsX3_bestWorks rmX3_bestWorks D (K3 cI cZ cS) zz [.ref (ad 0), .ref (ad 28), .int a2, .int a3, .int a4] (wX3_X7 cI cZ cS ad σ) (wX3_X7 cI cZ cS ad σr) rr := by
  refine q_ofI (cc := cX3_bestWorks) (maxL := 11) (ty := .int) (by decide) rfl (Nat.le_of_ble_eq_true rfl) ?_
  intro p e s m below meth c Q A ls hx hb hml hown hts hK hZ hA hP hD hS hl hret
  have hl : lv_has ls 11 [(0, .ref (ad 0)), (1, .ref (ad 28)), (2, .int a2), (3, .int a3), (4, .int a4)] := hl
  unfold pX3_bestWorks at hf
  refine lv_iconst (v := 0) hx hb dX3_bestWorks_0 (by decide) ?_
  refine lv_istore (lv' := [(5, .int (0 : Int32)), (0, .ref (ad 0)), (1, .ref (ad 28)), (2, .int a2), (3, .int a3), (4, .int a4)]) hx hb dX3_bestWorks_1 hl (by decide) rfl (fun ls hl => ?_)
  refine lv_sipush (v := 991) hx hb dX3_bestWorks_3 (by decide) ?_
  refine lv_istore (lv' := [(6, .int (991 : Int32)), (5, .int (0 : Int32)), (0, .ref (ad 0)), (1, .ref (ad 28)), (2, .int a2), (3, .int a3), (4, .int a4)]) hx hb dX3_bestWorks_6 hl (by decide) rfl (fun ls hl => ?_)
  refine lv_sipush (v := 10000) hx hb dX3_bestWorks_8 (by decide) ?_
  refine lv_istore (lv' := [(7, .int (10000 : Int32)), (6, .int (991 : Int32)), (5, .int (0 : Int32)), (0, .ref (ad 0)), (1, .ref (ad 28)), (2, .int a2), (3, .int a3), (4, .int a4)]) hx hb dX3_bestWorks_11 hl (by decide) rfl (fun ls hl => ?_)
  refine lv_iconst (v := 0) hx hb dX3_bestWorks_13 (by decide) ?_
  refine lv_istore (lv' := [(8, .int (0 : Int32)), (7, .int (10000 : Int32)), (6, .int (991 : Int32)), (5, .int (0 : Int32)), (0, .ref (ad 0)), (1, .ref (ad 28)), (2, .int a2), (3, .int a3), (4, .int a4)]) hx hb dX3_bestWorks_14 hl (by decide) rfl (fun ls hl => ?_)
  refine q_lp_go (f := fun (zf : SS → Int32 → Int32 → Int32 → Int32 → Option (Int32 × SS)) => zf σ (0 : Int32) (991 : Int32) (10000 : Int32) (0 : Int32)) hf (fun z7 ez7 hf => ?_)
  have Lz7 : ∀ (n8 : Nat) (σ5 : SS) (x5_1 : Int32) (x6_2 : Int32) (x7_3 : Int32) (x8_4 : Int32) (H : Heap) (locs : List Loc) (ls : Array Slot), va_P D vwCl ((wX3_X7 cI cZ cS ad) σ5) H → va_D A ((wX3_X7 cI cZ cS ad) σ5) → va_S A s.heap H locs → lv_has ls 11 [(0, .ref (ad 0)), (1, .ref (ad 28)), (2, .int a2), (3, .int a3), (4, .int a4), (5, .int x5_1), (6, .int x6_2), (7, .int x7_3), (8, .int x8_4)] → q_lp (fun _ _ _ _ _ => none) z7 n8 σ5 x5_1 x6_2 x7_3 x8_4 = some (rr, σr) → W p l e rmX3_bestWorks s m ([.ref (ad 0), .ref (ad 28), .int a2, .int a3, .int a4] : List Value).toArray below meth c H locs 0 0 Q (F0 m 16 ls []) := by
    intro n8
    induction n8 with
    | zero => exact fun _ _ _ _ _ _ _ _ _ _ _ _ hf => q_no hf
    | succ n8 ihz7 =>
      intro σ5 x5_1 x6_2 x7_3 x8_4 H locs ls hP hD hS hl hf
      have hf := (congrFun (congrFun (congrFun (congrFun (congrFun (congrFun ez7 (q_lp (fun _ _ _ _ _ => none) z7 n8)) σ5) x5_1) x6_2) x7_3) x8_4).symm.trans hf
      refine lv_iload hx hb dX3_bestWorks_16 (lv_at hl 8 rfl) ?_
      refine lv_bipush (v := 16) hx hb dX3_bestWorks_18 (by decide) ?_
      refine lv_icmp_ge (tgt := 129) hx hb dX3_bestWorks_20 (by decide) (fun h9 => ?_) (fun h9 => ?_)
      · have hf := (if_pos h9).symm.trans hf
        refine lv_iload hx hb dX3_bestWorks_129 (lv_at hl 4 rfl) ?_
        refine q_lt_go hf (fun j11 ej11 hf => ?_)
        have Jj11 : ∀ (y10 : Int32) (H : Heap) (locs : List Loc) (ls : Array Slot), va_P D vwCl ((wX3_X7 cI cZ cS ad) σ5) H → va_D A ((wX3_X7 cI cZ cS ad) σ5) → va_S A s.heap H locs → lv_has ls 11 [] → j11 y10 = some (rr, σr) → W p l e rmX3_bestWorks s m ([.ref (ad 0), .ref (ad 28), .int a2, .int a3, .int a4] : List Value).toArray below meth c H locs 0 0 Q (F0 m 141 ls [.int y10]) := by
          intro y10 H locs ls hP hD hS hl hf
          have hf := (congrFun ej11 y10).symm.trans hf
          obtain ⟨hi1, hi2⟩ := Prod.mk.inj (Option.some.inj hf)
          subst hi1
          subst hi2
          exact hret _ _ _ _ dX3_bestWorks_141 rfl hP hS
        refine lv_if_ne (tgt := 139) hx hb dX3_bestWorks_131 (by decide) (fun h12 => ?_) (fun h12 => ?_)
        · have hf := (if_neg h12).symm.trans hf
          refine lv_iload hx hb dX3_bestWorks_139 (lv_at hl 6 rfl) ?_
          exact Jj11 x6_2 _ _ _ hP hD hS (lv_sub hl [] rfl) hf
        · have hf := (if_pos h12).symm.trans hf
          refine lv_iload hx hb dX3_bestWorks_134 (lv_at hl 5 rfl) ?_
          refine lv_goto (tgt := 141) hx hb dX3_bestWorks_136 (by decide) ?_
          exact Jj11 x5_1 _ _ _ hP hD hS (lv_sub hl [] rfl) hf
      · have hf := (if_neg h9).symm.trans hf
        refine lv_aload_n hx hb dX3_bestWorks_23 rfl (lv_at hl 0 rfl) ?_
        refine va_get (D := D) (ci := 3) (C := RX3) (T := TX3) (N := 3) hx hb hts fwX3_bestWorks_X3 hown hK hP 0 rfl rfl 0 (by decide) (hts _ (List.mem_of_getElem? (i := 1) rfl)) (fun _ h9 => h9) rfl dX3_bestWorks_24 ?_
        refine lv_iload hx hb dX3_bestWorks_27 (lv_at hl 8 rfl) ?_
        refine q_cVr (wf := (wX3_X7 cI cZ cS ad)) (wc := wX0 cI cZ cS (fun i => ad (1 + i))) (rest := []) ⟨hx, hb, hml, hown, hts⟩ hK hZ hA hP hD hS hf (fun x ho => kX0_costOf l D cI cZ cS zz (fun i => ad (1 + i)) (q_sb σ5 1) x8_4 x ho) (cwV 1 hts gX3_bestWorks_X0_costOf rfl rfl rfl ndX0_costOf ⟨Nat.le_of_ble_eq_true rfl, Nat.le_of_ble_eq_true rfl⟩) [1, 2, 3, 4, 5, 6, 7, 8, 9, 10, 11, 12, 13] rfl rfl rfl rfl rfl rfl (hl.1) rfl (Nat.le_of_ble_eq_true rfl) dX3_bestWorks_29 ⟨Nat.zero_le _, Nat.zero_le _⟩ (fun r13 H locs hf hP hD hS => ?_)
        refine lv_istore (lv' := [(9, .int r13), (0, .ref (ad 0)), (1, .ref (ad 28)), (2, .int a2), (3, .int a3), (4, .int a4), (5, .int x5_1), (6, .int x6_2), (7, .int x7_3), (8, .int x8_4)]) hx hb dX3_bestWorks_32 hl (by decide) rfl (fun ls hl => ?_)
        refine lv_iload hx hb dX3_bestWorks_34 (lv_at hl 9 rfl) ?_
        refine lv_aload_n hx hb dX3_bestWorks_36 rfl (lv_at hl 1 rfl) ?_
        refine va_get (D := D) (ci := 3) (C := RX3) (T := TX3) (N := 3) hx hb hts fwX3_bestWorks_X3 hown hK hP 0 rfl rfl 0 (by decide) (hts _ (List.mem_of_getElem? (i := 1) rfl)) (fun _ h9 => h9) rfl dX3_bestWorks_37 ?_
        refine va_get (D := D) (ci := 0) (C := RX0) (T := TX0) (N := 13) hx hb hts fwX3_bestWorks_X0 hown hK hP 1 rfl rfl 4 (by decide) (hts _ (List.mem_of_getElem? (i := 2) rfl)) (fun _ h9 => h9) rfl dX3_bestWorks_40 ?_
        refine lv_iand hx hb dX3_bestWorks_43 ?_
        refine q_lt_go hf (fun j18 ej18 hf => ?_)
        have Jj18 : ∀ (σ17 : SS) (x5_14 : Int32) (x6_15 : Int32) (x7_16 : Int32) (H : Heap) (locs : List Loc) (ls : Array Slot), va_P D vwCl ((wX3_X7 cI cZ cS ad) σ17) H → va_D A ((wX3_X7 cI cZ cS ad) σ17) → va_S A s.heap H locs → lv_has ls 11 [(0, .ref (ad 0)), (1, .ref (ad 28)), (2, .int a2), (3, .int a3), (4, .int a4), (5, .int x5_14), (6, .int x6_15), (7, .int x7_16), (8, .int x8_4)] → j18 σ17 x5_14 x6_15 x7_16 = some (rr, σr) → W p l e rmX3_bestWorks s m ([.ref (ad 0), .ref (ad 28), .int a2, .int a3, .int a4] : List Value).toArray below meth c H locs 0 0 Q (F0 m 123 ls []) := by
          intro σ17 x5_14 x6_15 x7_16 H locs ls hP hD hS hl hf
          have hf := (congrFun (congrFun (congrFun (congrFun ej18 σ17) x5_14) x6_15) x7_16).symm.trans hf
          refine lv_iinc (v := (x8_4 + (1 : Int32))) (lv' := [(8, .int (x8_4 + (1 : Int32))), (0, .ref (ad 0)), (1, .ref (ad 28)), (2, .int a2), (3, .int a3), (4, .int a4), (5, .int x5_14), (6, .int x6_15), (7, .int x7_16)]) hx hb dX3_bestWorks_123 hl (k := 8) rfl rfl (by decide) rfl (fun ls hl => ?_)
          refine lv_goto (tgt := 16) hx hb dX3_bestWorks_126 (by decide) ?_
          exact ihz7 σ17 x5_14 x6_15 x7_16 (x8_4 + (1 : Int32)) _ _ _ hP hD hS (lv_sub hl [1, 2, 3, 4, 5, 6, 7, 8, 0] rfl) hf
        refine lv_if_ne (tgt := 123) hx hb dX3_bestWorks_44 (by decide) (fun h19 => ?_) (fun h19 => ?_)
        · have hf := (if_neg h19).symm.trans hf
          exact Jj18 σ5 x5_1 x6_2 x7_3 _ _ _ hP hD hS (lv_sub hl [1, 2, 3, 4, 5, 6, 7, 8, 9] rfl) hf
        · have hf := (if_pos h19).symm.trans hf
          refine lv_iload hx hb dX3_bestWorks_47 (lv_at hl 0 rfl) ?_
          refine lv_iload_n hx hb dX3_bestWorks_49 rfl (lv_at hl 4 rfl) ?_
          refine lv_icmp_le (tgt := 56) hx hb dX3_bestWorks_50 (by decide) (fun h20 => ?_) (fun h20 => ?_)
          · have hf := (if_pos h20).symm.trans hf
            refine lv_aload_n hx hb dX3_bestWorks_56 rfl (lv_at hl 1 rfl) ?_
            refine q_cVv (wf := (wX3_X7 cI cZ cS ad)) (wc := wX3 cI cZ cS (fun i => ad (0 + i))) (rest := []) ⟨hx, hb, hml, hown, hts⟩ hK hZ hA hP hD hS hf (fun x ho => kX3_begin l D cI cZ cS zz (fun i => ad (0 + i)) (q_sb σ5 0) x ho) (cwV 0 hts gX3_bestWorks_X3_begin rfl rfl rfl ndX3_begin ⟨Nat.le_of_ble_eq_true rfl, Nat.le_of_ble_eq_true rfl⟩) [0, 1, 2, 3, 4, 5, 6, 7, 8, 9, 10, 11, 12, 13, 14, 15, 16, 17, 18, 19, 20, 21, 22, 23, 24, 25, 26, 27] rfl rfl [some 0, some 1, some 2, some 3, some 4, some 5, some 6, some 7, some 8, some 9, some 10, some 11, some 12, some 13, some 14, some 15, some 16, some 17, some 18, some 19, some 20, some 21, some 22, some 23, some 24, some 25, some 26, some 27, none, none, none, none] (by decide +kernel) (Nat.le_of_ble_eq_true rfl) (fun _ => rfl) (fun _ => rfl) (fun _ => rfl) rfl rfl rfl rfl (hl.1) rfl (Nat.le_of_ble_eq_true rfl) dX3_bestWorks_57 ⟨Nat.zero_le _, Nat.zero_le _⟩ (fun σ21 H locs hf hP hD hS => ?_)
            refine lv_aload_n hx hb dX3_bestWorks_60 rfl (lv_at hl 1 rfl) ?_
            refine va_get (D := D) (ci := 3) (C := RX3) (T := TX3) (N := 3) hx hb hts fwX3_bestWorks_X3 hown hK hP 0 rfl rfl 1 (by decide) (hts _ (List.mem_of_getElem? (i := 3) rfl)) (fun _ h9 => h9) rfl dX3_bestWorks_61 ?_
            refine lv_iload hx hb dX3_bestWorks_64 (lv_at hl 9 rfl) ?_
            refine q_cVv (wf := (wX3_X7 cI cZ cS ad)) (wc := wX0 cI cZ cS (fun i => ad (14 + i))) (rest := []) ⟨hx, hb, hml, hown, hts⟩ hK hZ hA hP hD hS hf (fun x ho => kX0_constructAll l D cI cZ cS zz (fun i => ad (14 + i)) (q_sb σ21 14) x8_4 x ho) (cwV 1 hts gX3_bestWorks_X0_constructAll rfl rfl rfl ndX0_constructAll ⟨Nat.le_of_ble_eq_true rfl, Nat.le_of_ble_eq_true rfl⟩) [14, 15, 16, 17, 18, 19, 20, 21, 22, 23, 24, 25, 26] rfl rfl [none, none, none, none, none, none, none, none, none, none, none, none, none, none, some 0, some 1, some 2, some 3, some 4, some 5, some 6, some 7, some 8, some 9, some 10, some 11, some 12, none, none, none, none, none] (by decide +kernel) (Nat.le_of_ble_eq_true rfl) (fun _ => rfl) (fun _ => rfl) (fun _ => rfl) rfl rfl rfl rfl (hl.1) rfl (Nat.le_of_ble_eq_true rfl) dX3_bestWorks_66 ⟨Nat.zero_le _, Nat.zero_le _⟩ (fun σ22 H locs hf hP hD hS => ?_)
            refine lv_aload_n hx hb dX3_bestWorks_69 rfl (lv_at hl 2 rfl) ?_
            refine lv_iload_n hx hb dX3_bestWorks_70 rfl (lv_at hl 3 rfl) ?_
            refine lv_aload_n hx hb dX3_bestWorks_71 rfl (lv_at hl 1 rfl) ?_
            refine va_get (D := D) (ci := 3) (C := RX3) (T := TX3) (N := 3) hx hb hts fwX3_bestWorks_X3 hown hK hP 0 rfl rfl 1 (by decide) (hts _ (List.mem_of_getElem? (i := 3) rfl)) (fun _ h9 => h9) rfl dX3_bestWorks_72 ?_
            refine q_cVv (wf := (wX3_X7 cI cZ cS ad)) (wc := wX7_X0 cI cZ cS (fun i => ad (if i < 4 then 28 + i else 14 + (i - 4)))) (rest := []) ⟨hx, hb, hml, hown, hts⟩ hK hZ hA hP hD hS hf (fun x ho => kX7_perform l D cI cZ cS zz (fun i => ad (if i < 4 then 28 + i else 14 + (i - 4))) (q_ap 4 (q_sb σ22 28) (q_sb σ22 14)) a2 x ho) (cwV 2 hts gX3_bestWorks_X7_perform rfl rfl rfl ndX7_perform ⟨Nat.le_of_ble_eq_true rfl, Nat.le_of_ble_eq_true rfl⟩) [28, 29, 30, 31, 14, 15, 16, 17, 18, 19, 20, 21, 22, 23, 24, 25, 26] rfl rfl [none, none, none, none, none, none, none, none, none, none, none, none, none, none, some 4, some 5, some 6, some 7, some 8, some 9, some 10, some 11, some 12, some 13, some 14, some 15, some 16, none, some 0, some 1, some 2, some 3] (by decide +kernel) (Nat.le_of_ble_eq_true rfl) (fun _ => rfl) (fun _ => rfl) (fun _ => rfl) rfl rfl rfl rfl (hl.1) rfl (Nat.le_of_ble_eq_true rfl) dX3_bestWorks_75 ⟨Nat.zero_le _, Nat.zero_le _⟩ (fun σ23 H locs hf hP hD hS => ?_)
            refine lv_aload_n hx hb dX3_bestWorks_78 rfl (lv_at hl 1 rfl) ?_
            refine va_get (D := D) (ci := 3) (C := RX3) (T := TX3) (N := 3) hx hb hts fwX3_bestWorks_X3 hown hK hP 0 rfl rfl 1 (by decide) (hts _ (List.mem_of_getElem? (i := 3) rfl)) (fun _ h9 => h9) rfl dX3_bestWorks_79 ?_
            refine va_get (D := D) (ci := 0) (C := RX0) (T := TX0) (N := 13) hx hb hts fwX3_bestWorks_X0 hown hK hP 14 rfl rfl 2 (by decide) (hts _ (List.mem_of_getElem? (i := 4) rfl)) (fun _ h9 => h9) rfl dX3_bestWorks_82 ?_
            refine q_cVr (wf := (wX3_X7 cI cZ cS ad)) (wc := wX9 cI cZ cS (fun i => ad (22 + i))) (rest := []) ⟨hx, hb, hml, hown, hts⟩ hK hZ hA hP hD hS hf (fun x ho => kX9_harmedWorth l D cI cZ cS zz (fun i => ad (22 + i)) (q_sb σ23 22) x ho) (cwV 0 hts gX3_bestWorks_X9_harmedWorth rfl rfl rfl ndX9_harmedWorth ⟨Nat.le_of_ble_eq_true rfl, Nat.le_of_ble_eq_true rfl⟩) [22, 23, 24, 25] rfl rfl rfl rfl rfl rfl (hl.1) rfl (Nat.le_of_ble_eq_true rfl) dX3_bestWorks_85 ⟨Nat.zero_le _, Nat.zero_le _⟩ (fun r24 H locs hf hP hD hS => ?_)
            refine lv_istore (lv' := [(10, .int r24), (9, .int r13), (0, .ref (ad 0)), (1, .ref (ad 28)), (2, .int a2), (3, .int a3), (4, .int a4), (5, .int x5_1), (6, .int x6_2), (7, .int x7_3), (8, .int x8_4)]) hx hb dX3_bestWorks_88 hl (by decide) rfl (fun ls hl => ?_)
            refine lv_iload hx hb dX3_bestWorks_90 (lv_at hl 0 rfl) ?_
            refine lv_iload hx hb dX3_bestWorks_92 (lv_at hl 8 rfl) ?_
            refine q_lt_go hf (fun j25 ej25 hf => ?_)
            have Jj25 : ∀ (H : Heap) (locs : List Loc) (ls : Array Slot), va_P D vwCl ((wX3_X7 cI cZ cS ad) σ23) H → va_D A ((wX3_X7 cI cZ cS ad) σ23) → va_S A s.heap H locs → lv_has ls 11 [(0, .ref (ad 0)), (1, .ref (ad 28)), (2, .int a2), (3, .int a3), (4, .int a4), (8, .int x8_4), (9, .int r13), (10, .int r24)] → j25 = some (rr, σr) → W p l e rmX3_bestWorks s m ([.ref (ad 0), .ref (ad 28), .int a2, .int a3, .int a4] : List Value).toArray below meth c H locs 0 0 Q (F0 m 111 ls []) := by
              intro  H locs ls hP hD hS hl hf
              have hf := ej25.symm.trans hf
              refine lv_iload hx hb dX3_bestWorks_111 (lv_at hl 5 rfl) ?_
              refine lv_istore (lv' := [(5, .int x8_4), (0, .ref (ad 0)), (1, .ref (ad 28)), (2, .int a2), (3, .int a3), (4, .int a4), (8, .int x8_4), (9, .int r13), (10, .int r24)]) hx hb dX3_bestWorks_113 hl (by decide) rfl (fun ls hl => ?_)
              refine lv_iload hx hb dX3_bestWorks_115 (lv_at hl 8 rfl) ?_
              refine lv_istore (lv' := [(6, .int r24), (5, .int x8_4), (0, .ref (ad 0)), (1, .ref (ad 28)), (2, .int a2), (3, .int a3), (4, .int a4), (8, .int x8_4), (9, .int r13), (10, .int r24)]) hx hb dX3_bestWorks_117 hl (by decide) rfl (fun ls hl => ?_)
              refine lv_iload hx hb dX3_bestWorks_119 (lv_at hl 8 rfl) ?_
              refine lv_istore (lv' := [(7, .int r13), (6, .int r24), (5, .int x8_4), (0, .ref (ad 0)), (1, .ref (ad 28)), (2, .int a2), (3, .int a3), (4, .int a4), (8, .int x8_4), (9, .int r13), (10, .int r24)]) hx hb dX3_bestWorks_121 hl (by decide) rfl (fun ls hl => ?_)
              exact Jj18 σ23 x8_4 r24 r13 _ _ _ hP hD hS (lv_sub hl [3, 4, 5, 6, 7, 2, 1, 0, 8] rfl) hf
            refine lv_icmp_lt (tgt := 111) hx hb dX3_bestWorks_94 (by decide) (fun h26 => ?_) (fun h26 => ?_)
            · have hf := (if_pos h26).symm.trans hf
              exact Jj25  _ _ _ hP hD hS (lv_sub hl [2, 3, 4, 5, 6, 10, 1, 0] rfl) hf
            · have hf := (if_neg h26).symm.trans hf
              refine lv_iload hx hb dX3_bestWorks_97 (lv_at hl 0 rfl) ?_
              refine lv_iload hx hb dX3_bestWorks_99 (lv_at hl 8 rfl) ?_
              refine lv_icmp_ne (tgt := 123) hx hb dX3_bestWorks_101 (by decide) (fun h27 => ?_) (fun h27 => ?_)
              · have hf := (if_neg h27).symm.trans hf
                exact Jj18 σ23 x5_1 x6_2 x7_3 _ _ _ hP hD hS (lv_sub hl [2, 3, 4, 5, 6, 7, 8, 9, 10] rfl) hf
              · have hf := (if_pos h27).symm.trans hf
                refine lv_iload hx hb dX3_bestWorks_104 (lv_at hl 1 rfl) ?_
                refine lv_iload hx hb dX3_bestWorks_106 (lv_at hl 9 rfl) ?_
                refine lv_icmp_ge (tgt := 123) hx hb dX3_bestWorks_108 (by decide) (fun h28 => ?_) (fun h28 => ?_)
                · have hf := (if_pos h28).symm.trans hf
                  exact Jj18 σ23 x5_1 x6_2 x7_3 _ _ _ hP hD hS (lv_sub hl [2, 3, 4, 5, 6, 7, 8, 9, 10] rfl) hf
                · have hf := (if_neg h28).symm.trans hf
                  exact Jj25  _ _ _ hP hD hS (lv_sub hl [2, 3, 4, 5, 6, 10, 1, 0] rfl) hf
          · have hf := (if_neg h20).symm.trans hf
            refine lv_goto (tgt := 123) hx hb dX3_bestWorks_53 (by decide) ?_
            exact Jj18 σ5 x5_1 x6_2 x7_3 _ _ _ hP hD hS (lv_sub hl [1, 2, 3, 4, 5, 6, 7, 8, 9] rfl) hf
  exact Lz7 q_fu σ (0 : Int32) (991 : Int32) (10000 : Int32) (0 : Int32) _ _ _ hP hD hS (lv_sub hl [4, 5, 6, 7, 8, 3, 2, 1, 0] rfl) hf
def pX3_foreseeLimits (σ : SS) : Option SS := q_cs (pX3_begin (q_sb σ 0)) (fun (τ : SS) => (q_em σ 0 0 28 τ)) (fun (σ1 : SS) => q_lp (fun _ _ => none) (fun (c4 : SS → Int32 → Option SS) (σ3 : SS) (x3_2 : Int32) => (if (σ3 22 0) ≤ x3_2 then q_lp (fun _ _ => none) (fun (c10 : SS → Int32 → Option SS) (σ9 : SS) (x3_8 : Int32) => (if (400 : Int32) ≤ x3_8 then some σ9 else q_cs (pX0_passMinute (q_sb σ9 14)) (fun (τ : SS) => (q_em σ9 14 0 13 τ)) (fun (σ14 : SS) => q_lp (fun _ _ => none) (fun (c17 : SS → Int32 → Option SS) (σ16 : SS) (x4_15 : Int32) => (if (σ16 22 0) ≤ x4_15 then c10 σ16 (x3_8 + (1 : Int32)) else q_rd (σ16 25) 10 x4_15 (fun (v21 : Int32) => q_lt (fun (σ22 : SS) => c17 σ22 (x4_15 + (1 : Int32))) (fun j23 => (if (σ16 14 8) ≤ v21 then j23 σ16 else q_rd (σ16 28) 10 x4_15 (fun (v25 : Int32) => q_wr σ16 28 10 x4_15 (if x3_8 < v25 then x3_8 else v25) (fun (σ26 : SS) => j23 σ26))))))) q_fu σ14 (0 : Int32)))) q_fu σ3 (0 : Int32) else q_cr (pX9_isLifted (q_sb σ3 22) x3_2) (fun (r27 : Int32) => q_lt (fun (y28 : Int32) => q_wr σ3 28 10 x3_2 y28 (fun (σ30 : SS) => c4 σ30 (x3_2 + (1 : Int32)))) (fun j29 => q_lt (j29 (0 : Int32)) (fun j31 => (if r27 = (0 : Int32) then q_cr (pX9_isHarmed (q_sb σ3 22) x3_2) (fun (r33 : Int32) => (if r33 = (0 : Int32) then j29 (601 : Int32) else j31)) else j31)))))) q_fu σ1 (0 : Int32))
theorem fwX3_foreseeLimits_X0 : ∀ w ∈ wsX00, w ∈ wsX3_foreseeLimits := fun _ h => List.mem_cons_of_mem _ (List.mem_append_left _ (List.mem_append_left _ (List.mem_append_left _ (List.mem_append_right _ h))))
theorem fwX3_foreseeLimits_X3 : ∀ w ∈ wsX30, w ∈ wsX3_foreseeLimits := fun _ h => List.mem_cons_of_mem _ (List.mem_append_left _ (List.mem_append_left _ (List.mem_append_left _ (List.mem_append_left _ (List.mem_append_right _ h)))))
theorem fwX3_foreseeLimits_X9 : ∀ w ∈ wsX90, w ∈ wsX3_foreseeLimits := fun _ h => List.mem_cons_of_mem _ (List.mem_append_left _ (List.mem_append_left _ (List.mem_append_right _ h)))
abbrev rmX3_foreseeLimits : Room := { frames := 5, cells := 0, slots := 0, locals := 142 }
set_option maxHeartbeats 4000000 in
set_option maxRecDepth 100000 in
theorem kX3_foreseeLimits (l : Launch) (D : va_G) (cI cZ cS : ClassId) (zz : ZT) (ad : Nat → Nat) (σ : SS) (σr : SS) (hf : pX3_foreseeLimits σ = some σr) : CV l yX3_foreseeLimits wsX3_foreseeLimits rmX3_foreseeLimits D (K3 cI cZ cS) zz [.ref (ad 0), .ref (ad 28)] (wX3_A10 cI cZ cS ad σ) (wX3_A10 cI cZ cS ad σr) := by
  refine q_ofV (cc := cX3_foreseeLimits) (maxL := 5) (by decide) rfl (Nat.le_of_ble_eq_true rfl) ?_
  intro p e s m below meth c Q A ls hx hb hml hown hts hK hZ hA hP hD hS hl hret
  have hl : lv_has ls 5 [(0, .ref (ad 0)), (1, .ref (ad 28))] := hl
  unfold pX3_foreseeLimits at hf
  refine lv_aload_n hx hb dX3_foreseeLimits_0 rfl (lv_at hl 0 rfl) ?_
  refine q_cVv (wf := (wX3_A10 cI cZ cS ad)) (wc := wX3 cI cZ cS (fun i => ad (0 + i))) (rest := []) ⟨hx, hb, hml, hown, hts⟩ hK hZ hA hP hD hS hf (fun x ho => kX3_begin l D cI cZ cS zz (fun i => ad (0 + i)) (q_sb σ 0) x ho) (cwV 0 hts gX3_foreseeLimits_X3_begin rfl rfl rfl ndX3_begin ⟨Nat.le_of_ble_eq_true rfl, Nat.le_of_ble_eq_true rfl⟩) [0, 1, 2, 3, 4, 5, 6, 7, 8, 9, 10, 11, 12, 13, 14, 15, 16, 17, 18, 19, 20, 21, 22, 23, 24, 25, 26, 27] rfl rfl [some 0, some 1, some 2, some 3, some 4, some 5, some 6, some 7, some 8, some 9, some 10, some 11, some 12, some 13, some 14, some 15, some 16, some 17, some 18, some 19, some 20, some 21, some 22, some 23, some 24, some 25, some 26, some 27, none] (by decide +kernel) (Nat.le_of_ble_eq_true rfl) (fun _ => rfl) (fun _ => rfl) (fun _ => rfl) rfl rfl rfl rfl (hl.1) rfl (Nat.le_of_ble_eq_true rfl) dX3_foreseeLimits_1 ⟨Nat.zero_le _, Nat.zero_le _⟩ (fun σ1 H locs hf hP hD hS => ?_)
  refine lv_aload_n hx hb dX3_foreseeLimits_4 rfl (lv_at hl 0 rfl) ?_
  refine va_get (D := D) (ci := 3) (C := RX3) (T := TX3) (N := 3) hx hb hts fwX3_foreseeLimits_X3 hown hK hP 0 rfl rfl 1 (by decide) (hts _ (List.mem_of_getElem? (i := 1) rfl)) (fun _ h9 => h9) rfl dX3_foreseeLimits_5 ?_
  refine va_get (D := D) (ci := 0) (C := RX0) (T := TX0) (N := 13) hx hb hts fwX3_foreseeLimits_X0 hown hK hP 14 rfl rfl 2 (by decide) (hts _ (List.mem_of_getElem? (i := 2) rfl)) (fun _ h9 => h9) rfl dX3_foreseeLimits_8 ?_
  refine lv_astore_n (lv' := [(2, .ref (ad 22)), (0, .ref (ad 0)), (1, .ref (ad 28))]) hx hb dX3_foreseeLimits_11 rfl hl (by decide) rfl (fun ls hl => ?_)
  refine lv_iconst (v := 0) hx hb dX3_foreseeLimits_12 (by decide) ?_
  refine lv_istore_n (lv' := [(3, .int (0 : Int32)), (2, .ref (ad 22)), (0, .ref (ad 0)), (1, .ref (ad 28))]) hx hb dX3_foreseeLimits_13 rfl hl (by decide) rfl (fun ls hl => ?_)
  refine q_lp_go (f := fun (zf : SS → Int32 → Option SS) => zf σ1 (0 : Int32)) hf (fun z5 ez5 hf => ?_)
  have Lz5 : ∀ (n6 : Nat) (σ3 : SS) (x3_2 : Int32) (H : Heap) (locs : List Loc) (ls : Array Slot), va_P D vwCl ((wX3_A10 cI cZ cS ad) σ3) H → va_D A ((wX3_A10 cI cZ cS ad) σ3) → va_S A s.heap H locs → lv_has ls 5 [(0, .ref (ad 0)), (1, .ref (ad 28)), (2, .ref (ad 22)), (3, .int x3_2)] → q_lp (fun _ _ => none) z5 n6 σ3 x3_2 = some σr → W p l e rmX3_foreseeLimits s m ([.ref (ad 0), .ref (ad 28)] : List Value).toArray below meth c H locs 0 0 Q (F0 m 14 ls []) := by
    intro n6
    induction n6 with
    | zero => exact fun _ _ _ _ _ _ _ _ _ hf => q_no hf
    | succ n6 ihz5 =>
      intro σ3 x3_2 H locs ls hP hD hS hl hf
      have hf := (congrFun (congrFun (congrFun ez5 (q_lp (fun _ _ => none) z5 n6)) σ3) x3_2).symm.trans hf
      refine lv_iload_n hx hb dX3_foreseeLimits_14 rfl (lv_at hl 3 rfl) ?_
      refine lv_aload_n hx hb dX3_foreseeLimits_15 rfl (lv_at hl 2 rfl) ?_
      refine va_get (D := D) (ci := 9) (C := RX9) (T := TX9) (N := 6) hx hb hts fwX3_foreseeLimits_X9 hown hK hP 22 rfl rfl 0 (by decide) (hts _ (List.mem_of_getElem? (i := 3) rfl)) (fun _ h9 => h9) rfl dX3_foreseeLimits_16 ?_
      refine lv_icmp_ge (tgt := 54) hx hb dX3_foreseeLimits_19 (by decide) (fun h7 => ?_) (fun h7 => ?_)
      · have hf := (if_pos h7).symm.trans hf
        refine lv_iconst (v := 0) hx hb dX3_foreseeLimits_54 (by decide) ?_
        refine lv_istore_n (lv' := [(3, .int (0 : Int32)), (0, .ref (ad 0)), (1, .ref (ad 28)), (2, .ref (ad 22))]) hx hb dX3_foreseeLimits_55 rfl hl (by decide) rfl (fun ls hl => ?_)
        refine q_lp_go (f := fun (zf : SS → Int32 → Option SS) => zf σ3 (0 : Int32)) hf (fun z11 ez11 hf => ?_)
        have Lz11 : ∀ (n12 : Nat) (σ9 : SS) (x3_8 : Int32) (H : Heap) (locs : List Loc) (ls : Array Slot), va_P D vwCl ((wX3_A10 cI cZ cS ad) σ9) H → va_D A ((wX3_A10 cI cZ cS ad) σ9) → va_S A s.heap H locs → lv_has ls 5 [(0, .ref (ad 0)), (1, .ref (ad 28)), (2, .ref (ad 22)), (3, .int x3_8)] → q_lp (fun _ _ => none) z11 n12 σ9 x3_8 = some σr → W p l e rmX3_foreseeLimits s m ([.ref (ad 0), .ref (ad 28)] : List Value).toArray below meth c H locs 0 0 Q (F0 m 56 ls []) := by
          intro n12
          induction n12 with
          | zero => exact fun _ _ _ _ _ _ _ _ _ hf => q_no hf
          | succ n12 ihz11 =>
            intro σ9 x3_8 H locs ls hP hD hS hl hf
            have hf := (congrFun (congrFun (congrFun ez11 (q_lp (fun _ _ => none) z11 n12)) σ9) x3_8).symm.trans hf
            refine lv_iload_n hx hb dX3_foreseeLimits_56 rfl (lv_at hl 3 rfl) ?_
            refine lv_sipush (v := 400) hx hb dX3_foreseeLimits_57 (by decide) ?_
            refine lv_icmp_ge (tgt := 123) hx hb dX3_foreseeLimits_60 (by decide) (fun h13 => ?_) (fun h13 => ?_)
            · have hf := (if_pos h13).symm.trans hf
              have hi1 := Option.some.inj hf
              subst hi1
              exact hret _ _ _ _ dX3_foreseeLimits_123 hP hS
            · have hf := (if_neg h13).symm.trans hf
              refine lv_aload_n hx hb dX3_foreseeLimits_63 rfl (lv_at hl 0 rfl) ?_
              refine va_get (D := D) (ci := 3) (C := RX3) (T := TX3) (N := 3) hx hb hts fwX3_foreseeLimits_X3 hown hK hP 0 rfl rfl 1 (by decide) (hts _ (List.mem_of_getElem? (i := 1) rfl)) (fun _ h9 => h9) rfl dX3_foreseeLimits_64 ?_
              refine q_cVv (wf := (wX3_A10 cI cZ cS ad)) (wc := wX0 cI cZ cS (fun i => ad (14 + i))) (rest := []) ⟨hx, hb, hml, hown, hts⟩ hK hZ hA hP hD hS hf (fun x ho => kX0_passMinute l D cI cZ cS zz (fun i => ad (14 + i)) (q_sb σ9 14) x ho) (cwV 0 hts gX3_foreseeLimits_X0_passMinute rfl rfl rfl ndX0_passMinute ⟨Nat.le_of_ble_eq_true rfl, Nat.le_of_ble_eq_true rfl⟩) [14, 15, 16, 17, 18, 19, 20, 21, 22, 23, 24, 25, 26] rfl rfl [none, none, none, none, none, none, none, none, none, none, none, none, none, none, some 0, some 1, some 2, some 3, some 4, some 5, some 6, some 7, some 8, some 9, some 10, some 11, some 12, none, none] (by decide +kernel) (Nat.le_of_ble_eq_true rfl) (fun _ => rfl) (fun _ => rfl) (fun _ => rfl) rfl rfl rfl rfl (hl.1) rfl (Nat.le_of_ble_eq_true rfl) dX3_foreseeLimits_67 ⟨Nat.zero_le _, Nat.zero_le _⟩ (fun σ14 H locs hf hP hD hS => ?_)
              refine lv_iconst (v := 0) hx hb dX3_foreseeLimits_70 (by decide) ?_
              refine lv_istore (lv' := [(4, .int (0 : Int32)), (0, .ref (ad 0)), (1, .ref (ad 28)), (2, .ref (ad 22)), (3, .int x3_8)]) hx hb dX3_foreseeLimits_71 hl (by decide) rfl (fun ls hl => ?_)
              refine q_lp_go (f := fun (zf : SS → Int32 → Option SS) => zf σ14 (0 : Int32)) hf (fun z18 ez18 hf => ?_)
              have Lz18 : ∀ (n19 : Nat) (σ16 : SS) (x4_15 : Int32) (H : Heap) (locs : List Loc) (ls : Array Slot), va_P D vwCl ((wX3_A10 cI cZ cS ad) σ16) H → va_D A ((wX3_A10 cI cZ cS ad) σ16) → va_S A s.heap H locs → lv_has ls 5 [(0, .ref (ad 0)), (1, .ref (ad 28)), (2, .ref (ad 22)), (3, .int x3_8), (4, .int x4_15)] → q_lp (fun _ _ => none) z18 n19 σ16 x4_15 = some σr → W p l e rmX3_foreseeLimits s m ([.ref (ad 0), .ref (ad 28)] : List Value).toArray below meth c H locs 0 0 Q (F0 m 73 ls []) := by
                intro n19
                induction n19 with
                | zero => exact fun _ _ _ _ _ _ _ _ _ hf => q_no hf
                | succ n19 ihz18 =>
                  intro σ16 x4_15 H locs ls hP hD hS hl hf
                  have hf := (congrFun (congrFun (congrFun ez18 (q_lp (fun _ _ => none) z18 n19)) σ16) x4_15).symm.trans hf
                  refine lv_iload hx hb dX3_foreseeLimits_73 (lv_at hl 4 rfl) ?_
                  refine lv_aload_n hx hb dX3_foreseeLimits_75 rfl (lv_at hl 2 rfl) ?_
                  refine va_get (D := D) (ci := 9) (C := RX9) (T := TX9) (N := 6) hx hb hts fwX3_foreseeLimits_X9 hown hK hP 22 rfl rfl 0 (by decide) (hts _ (List.mem_of_getElem? (i := 3) rfl)) (fun _ h9 => h9) rfl dX3_foreseeLimits_76 ?_
                  refine lv_icmp_ge (tgt := 117) hx hb dX3_foreseeLimits_79 (by decide) (fun h20 => ?_) (fun h20 => ?_)
                  · have hf := (if_pos h20).symm.trans hf
                    refine lv_iinc (v := (x3_8 + (1 : Int32))) (lv' := [(3, .int (x3_8 + (1 : Int32))), (0, .ref (ad 0)), (1, .ref (ad 28)), (2, .ref (ad 22)), (4, .int x4_15)]) hx hb dX3_foreseeLimits_117 hl (k := 3) rfl rfl (by decide) rfl (fun ls hl => ?_)
                    refine lv_goto (tgt := 56) hx hb dX3_foreseeLimits_120 (by decide) ?_
                    exact ihz11 σ16 (x3_8 + (1 : Int32)) _ _ _ hP hD hS (lv_sub hl [1, 2, 3, 0] rfl) hf
                  · have hf := (if_neg h20).symm.trans hf
                    refine lv_aload_n hx hb dX3_foreseeLimits_82 rfl (lv_at hl 0 rfl) ?_
                    refine va_get (D := D) (ci := 3) (C := RX3) (T := TX3) (N := 3) hx hb hts fwX3_foreseeLimits_X3 hown hK hP 0 rfl rfl 1 (by decide) (hts _ (List.mem_of_getElem? (i := 1) rfl)) (fun _ h9 => h9) rfl dX3_foreseeLimits_83 ?_
                    refine va_get (D := D) (ci := 0) (C := RX0) (T := TX0) (N := 13) hx hb hts fwX3_foreseeLimits_X0 hown hK hP 14 rfl rfl 8 (by decide) (hts _ (List.mem_of_getElem? (i := 4) rfl)) (fun _ h9 => h9) rfl dX3_foreseeLimits_86 ?_
                    refine lv_aload_n hx hb dX3_foreseeLimits_89 rfl (lv_at hl 2 rfl) ?_
                    refine va_get (D := D) (ci := 9) (C := RX9) (T := TX9) (N := 6) hx hb hts fwX3_foreseeLimits_X9 hown hK hP 22 rfl rfl 3 (by decide) (hts _ (List.mem_of_getElem? (i := 5) rfl)) (fun _ h9 => h9) rfl dX3_foreseeLimits_90 ?_
                    refine lv_iload hx hb dX3_foreseeLimits_93 (lv_at hl 4 rfl) ?_
                    refine w_iald (wf := (wX3_A10 cI cZ cS ad)) hx hb hK hP 25 0 rfl rfl hf dX3_foreseeLimits_95 (fun v21 hf => ?_)
                    refine q_lt_go hf (fun j23 ej23 hf => ?_)
                    have Jj23 : ∀ (σ22 : SS) (H : Heap) (locs : List Loc) (ls : Array Slot), va_P D vwCl ((wX3_A10 cI cZ cS ad) σ22) H → va_D A ((wX3_A10 cI cZ cS ad) σ22) → va_S A s.heap H locs → lv_has ls 5 [(0, .ref (ad 0)), (1, .ref (ad 28)), (2, .ref (ad 22)), (3, .int x3_8), (4, .int x4_15)] → j23 σ22 = some σr → W p l e rmX3_foreseeLimits s m ([.ref (ad 0), .ref (ad 28)] : List Value).toArray below meth c H locs 0 0 Q (F0 m 111 ls []) := by
                      intro σ22 H locs ls hP hD hS hl hf
                      have hf := (congrFun ej23 σ22).symm.trans hf
                      refine lv_iinc (v := (x4_15 + (1 : Int32))) (lv' := [(4, .int (x4_15 + (1 : Int32))), (0, .ref (ad 0)), (1, .ref (ad 28)), (2, .ref (ad 22)), (3, .int x3_8)]) hx hb dX3_foreseeLimits_111 hl (k := 4) rfl rfl (by decide) rfl (fun ls hl => ?_)
                      refine lv_goto (tgt := 73) hx hb dX3_foreseeLimits_114 (by decide) ?_
                      exact ihz18 σ22 (x4_15 + (1 : Int32)) _ _ _ hP hD hS (lv_sub hl [1, 2, 3, 4, 0] rfl) hf
                    refine lv_icmp_le (tgt := 111) hx hb dX3_foreseeLimits_96 (by decide) (fun h24 => ?_) (fun h24 => ?_)
                    · have hf := (if_pos h24).symm.trans hf
                      exact Jj23 σ16 _ _ _ hP hD hS (lv_sub hl [0, 1, 2, 3, 4] rfl) hf
                    · have hf := (if_neg h24).symm.trans hf
                      refine lv_aload_n hx hb dX3_foreseeLimits_99 rfl (lv_at hl 1 rfl) ?_
                      refine lv_iload hx hb dX3_foreseeLimits_100 (lv_at hl 4 rfl) ?_
                      refine lv_aload_n hx hb dX3_foreseeLimits_102 rfl (lv_at hl 1 rfl) ?_
                      refine lv_iload hx hb dX3_foreseeLimits_103 (lv_at hl 4 rfl) ?_
                      refine w_iald (wf := (wX3_A10 cI cZ cS ad)) hx hb hK hP 28 0 rfl rfl hf dX3_foreseeLimits_105 (fun v25 hf => ?_)
                      refine lv_iload_n hx hb dX3_foreseeLimits_106 rfl (lv_at hl 3 rfl) ?_
                      refine va_mmin hx hb (hml.trans hl.1.symm) hown (hts _ (List.mem_of_getElem? (i := 6) rfl)) (hts _ (List.mem_of_getElem? (i := 7) rfl)) (hts _ (List.mem_of_getElem? (i := 8) rfl)) (hts _ (List.mem_of_getElem? (i := 9) rfl)) (Nat.le_of_ble_eq_true rfl) (Nat.le_of_ble_eq_true rfl) (Nat.zero_le _) (Nat.zero_le _) dX3_foreseeLimits_107 ?_
                      refine w_iast (wf := (wX3_A10 cI cZ cS ad)) (cid := 28) hx hb hK hP hD hS 28 0 rfl rfl hf (fun _ => rfl) dX3_foreseeLimits_110 (fun σ26 H locs hf hP hD hS => ?_)
                      exact Jj23 σ26 _ _ _ hP hD hS (lv_sub hl [0, 1, 2, 3, 4] rfl) hf
              exact Lz18 q_fu σ14 (0 : Int32) _ _ _ hP hD hS (lv_sub hl [1, 2, 3, 4, 0] rfl) hf
        exact Lz11 q_fu σ3 (0 : Int32) _ _ _ hP hD hS (lv_sub hl [1, 2, 3, 0] rfl) hf
      · have hf := (if_neg h7).symm.trans hf
        refine lv_aload_n hx hb dX3_foreseeLimits_22 rfl (lv_at hl 1 rfl) ?_
        refine lv_iload_n hx hb dX3_foreseeLimits_23 rfl (lv_at hl 3 rfl) ?_
        refine lv_aload_n hx hb dX3_foreseeLimits_24 rfl (lv_at hl 2 rfl) ?_
        refine lv_iload_n hx hb dX3_foreseeLimits_25 rfl (lv_at hl 3 rfl) ?_
        refine q_cVr (wf := (wX3_A10 cI cZ cS ad)) (wc := wX9 cI cZ cS (fun i => ad (22 + i))) (rest := [.int x3_2, .ref (ad 28)]) ⟨hx, hb, hml, hown, hts⟩ hK hZ hA hP hD hS hf (fun x ho => kX9_isLifted l D cI cZ cS zz (fun i => ad (22 + i)) (q_sb σ3 22) x3_2 x ho) (cwV 1 hts gX3_foreseeLimits_X9_isLifted rfl rfl rfl ndX9_isLifted ⟨Nat.le_of_ble_eq_true rfl, Nat.le_of_ble_eq_true rfl⟩) [22, 23, 24, 25] rfl rfl rfl rfl rfl rfl (hl.1) rfl (Nat.le_of_ble_eq_true rfl) dX3_foreseeLimits_26 ⟨Nat.zero_le _, Nat.zero_le _⟩ (fun r27 H locs hf hP hD hS => ?_)
        refine q_lt_go hf (fun j29 ej29 hf => ?_)
        have Jj29 : ∀ (y28 : Int32) (H : Heap) (locs : List Loc) (ls : Array Slot), va_P D vwCl ((wX3_A10 cI cZ cS ad) σ3) H → va_D A ((wX3_A10 cI cZ cS ad) σ3) → va_S A s.heap H locs → lv_has ls 5 [(0, .ref (ad 0)), (1, .ref (ad 28)), (2, .ref (ad 22)), (3, .int x3_2)] → j29 y28 = some σr → W p l e rmX3_foreseeLimits s m ([.ref (ad 0), .ref (ad 28)] : List Value).toArray below meth c H locs 0 0 Q (F0 m 47 ls [.int y28, .int x3_2, .ref (ad 28)]) := by
          intro y28 H locs ls hP hD hS hl hf
          have hf := (congrFun ej29 y28).symm.trans hf
          refine w_iast (wf := (wX3_A10 cI cZ cS ad)) (cid := 28) hx hb hK hP hD hS 28 0 rfl rfl hf (fun _ => rfl) dX3_foreseeLimits_47 (fun σ30 H locs hf hP hD hS => ?_)
          refine lv_iinc (v := (x3_2 + (1 : Int32))) (lv' := [(3, .int (x3_2 + (1 : Int32))), (0, .ref (ad 0)), (1, .ref (ad 28)), (2, .ref (ad 22))]) hx hb dX3_foreseeLimits_48 hl (k := 3) rfl rfl (by decide) rfl (fun ls hl => ?_)
          refine lv_goto (tgt := 14) hx hb dX3_foreseeLimits_51 (by decide) ?_
          exact ihz5 σ30 (x3_2 + (1 : Int32)) _ _ _ hP hD hS (lv_sub hl [1, 2, 3, 0] rfl) hf
        refine q_lt_go hf (fun j31 ej31 hf => ?_)
        have Jj31 : ∀ (H : Heap) (locs : List Loc) (ls : Array Slot), va_P D vwCl ((wX3_A10 cI cZ cS ad) σ3) H → va_D A ((wX3_A10 cI cZ cS ad) σ3) → va_S A s.heap H locs → lv_has ls 5 [(0, .ref (ad 0)), (1, .ref (ad 28)), (2, .ref (ad 22)), (3, .int x3_2)] → j31 = some σr → W p l e rmX3_foreseeLimits s m ([.ref (ad 0), .ref (ad 28)] : List Value).toArray below meth c H locs 0 0 Q (F0 m 40 ls [.int x3_2, .ref (ad 28)]) := by
          intro  H locs ls hP hD hS hl hf
          have hf := ej31.symm.trans hf
          refine lv_iconst (v := 0) hx hb dX3_foreseeLimits_40 (by decide) ?_
          refine lv_goto (tgt := 47) hx hb dX3_foreseeLimits_41 (by decide) ?_
          exact Jj29 (0 : Int32) _ _ _ hP hD hS (lv_sub hl [0, 1, 2, 3] rfl) hf
        refine lv_if_ne (tgt := 40) hx hb dX3_foreseeLimits_29 (by decide) (fun h32 => ?_) (fun h32 => ?_)
        · have hf := (if_neg h32).symm.trans hf
          exact Jj31  _ _ _ hP hD hS (lv_sub hl [0, 1, 2, 3] rfl) hf
        · have hf := (if_pos h32).symm.trans hf
          refine lv_aload_n hx hb dX3_foreseeLimits_32 rfl (lv_at hl 2 rfl) ?_
          refine lv_iload_n hx hb dX3_foreseeLimits_33 rfl (lv_at hl 3 rfl) ?_
          refine q_cVr (wf := (wX3_A10 cI cZ cS ad)) (wc := wX9 cI cZ cS (fun i => ad (22 + i))) (rest := [.int x3_2, .ref (ad 28)]) ⟨hx, hb, hml, hown, hts⟩ hK hZ hA hP hD hS hf (fun x ho => kX9_isHarmed l D cI cZ cS zz (fun i => ad (22 + i)) (q_sb σ3 22) x3_2 x ho) (cwV 1 hts gX3_foreseeLimits_X9_isHarmed rfl rfl rfl ndX9_isHarmed ⟨Nat.le_of_ble_eq_true rfl, Nat.le_of_ble_eq_true rfl⟩) [22, 23, 24, 25] rfl rfl rfl rfl rfl rfl (hl.1) rfl (Nat.le_of_ble_eq_true rfl) dX3_foreseeLimits_34 ⟨Nat.zero_le _, Nat.zero_le _⟩ (fun r33 H locs hf hP hD hS => ?_)
          refine lv_if_eq (tgt := 44) hx hb dX3_foreseeLimits_37 (by decide) (fun h34 => ?_) (fun h34 => ?_)
          · have hf := (if_pos h34).symm.trans hf
            refine lv_sipush (v := 601) hx hb dX3_foreseeLimits_44 (by decide) ?_
            exact Jj29 (601 : Int32) _ _ _ hP hD hS (lv_sub hl [0, 1, 2, 3] rfl) hf
          · have hf := (if_neg h34).symm.trans hf
            exact Jj31  _ _ _ hP hD hS (lv_sub hl [0, 1, 2, 3] rfl) hf
  exact Lz5 q_fu σ1 (0 : Int32) _ _ _ hP hD hS (lv_sub hl [2, 3, 1, 0] rfl) hf
