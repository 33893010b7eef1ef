def pX11_odds (σ : SS) (a1 : Int32) (a2 : Int32) (a3 : Int32) : Option (Int32 × SS) := q_cr (pX11_within a1 (1 : Int32) (20 : Int32)) (fun (r1 : Int32) => q_lt (q_ci (pX11_tell σ (-1000001 : Int32)) (fun (τ : SS) => τ) (fun (r4 : Int32) (σ3 : SS) => some (r4, σ3))) (fun j2 => (if r1 = (0 : Int32) then j2 else q_cr (pX11_within a2 (1 : Int32) (200 : Int32)) (fun (r6 : Int32) => (if r6 = (0 : Int32) then j2 else q_cr (pX11_within a3 (0 : Int32) (9999 : Int32)) (fun (r8 : Int32) => (if r8 = (0 : Int32) then j2 else q_lp (fun _ _ _ => none) (fun (c13 : SS → Int32 → Int32 → Option (Int32 × SS)) (σ12 : SS) (x4_10 : Int32) (x5_11 : Int32) => (if a1 ≤ x5_11 then some (x4_10, σ12) else q_ci (pX2_draw (q_sb σ12 2)) (fun (τ : SS) => (q_em σ12 2 0 19 τ)) (fun (r18 : Int32) (σ17 : SS) => q_lt (r18 - r18 / (40 : Int32) * (40 : Int32)) (fun x6_19 => q_ci (pX2_draw (q_sb σ17 2)) (fun (τ : SS) => (q_em σ17 2 0 19 τ)) (fun (r21 : Int32) (σ20 : SS) => q_lt (fun (y22 : Int32) => q_ci (pX3_risesAbove (q_ap 1 (q_sb σ20 52) (q_ap 13 (q_sb σ20 3) (q_sb σ20 53))) x6_19 y22 a2 a3) (fun (τ : SS) => (q_em (q_em (q_em σ20 52 0 1 τ) 3 1 13 τ) 53 14 14 τ)) (fun (r25 : Int32) (σ24 : SS) => q_lt (fun (x4_26 : Int32) => c13 σ24 x4_26 (x5_11 + (1 : Int32))) (fun j27 => (if r25 = (0 : Int32) then j27 x4_10 else j27 (x4_10 + (1 : Int32)))))) (fun j23 => (if (r21 - r21 / (4 : Int32) * (4 : Int32)) = (0 : Int32) then j23 (1 : Int32) else j23 (0 : Int32)))))))) q_fu σ (0 : Int32) (0 : Int32))))))))
theorem fwX11_odds_X11 : ∀ w ∈ wsX110, w ∈ wsX11_odds := fun _ h => List.mem_cons_of_mem _ (List.mem_append_left _ (List.mem_append_left _ (List.mem_append_left _ (List.mem_append_left _ (List.mem_append_left _ (List.mem_append_left _ (List.mem_append_right _ h)))))))
abbrev rmX11_odds : Room := { frames := 6, cells := 0, slots := 0, locals := 167 }
set_option maxHeartbeats 4000000 in
set_option maxRecDepth 100000 in
theorem kX11_odds (l : Launch) (D : va_G) (cI cZ cS : ClassId) (zz : ZT) (ad : Nat → Nat) (σ : SS) (a1 : Int32) (a2 : Int32) (a3 : Int32) (rr : Int32) (σr : SS) (hf : pX11_odds σ a1 a2 a3 = some (rr, σr)) : CI l yX11_odds wsX11_odds rmX11_odds D (K3 cI cZ cS) zz [.ref (ad 0), .int a1, .int a2, .int a3] (wX11 cI cZ cS ad σ) (wX11 cI cZ cS ad σr) rr := by
  refine q_ofI (cc := cX11_odds) (maxL := 8) (ty := .int) (by decide) rfl (Nat.le_of_ble_eq_true rfl) ?_
  intro p e s m below meth c Q A ls hx hb hml hown hts hK hZ hA hP hD hS hl hret
  have hl : lv_has ls 8 [(0, .ref (ad 0)), (1, .int a1), (2, .int a2), (3, .int a3)] := hl
  unfold pX11_odds at hf
  refine lv_iload_n hx hb dX11_odds_0 rfl (lv_at hl 1 rfl) ?_
  refine lv_iconst (v := 1) hx hb dX11_odds_1 (by decide) ?_
  refine lv_bipush (v := 20) hx hb dX11_odds_2 (by decide) ?_
  refine q_cSr (wf := (wX11 cI cZ cS ad)) (rest := []) ⟨hx, hb, hml, hown, hts⟩ hK hZ hA hP hD hS hf (fun x ho => kX11_within l D cI cZ cS zz a1 (1 : Int32) (20 : Int32) x ho) (va_cwS 3 hts gX11_odds_X11_within rfl rfl rfl ndX11_within.2 ⟨Nat.le_of_ble_eq_true rfl, Nat.le_of_ble_eq_true rfl⟩) rfl (hl.1) rfl (Nat.le_of_ble_eq_true rfl) dX11_odds_4 ⟨Nat.zero_le _, Nat.zero_le _⟩ (fun r1 H locs hf hP hD hS => ?_)
  refine q_lt_go hf (fun j2 ej2 hf => ?_)
  have Jj2 : ∀ (H : Heap) (locs : List Loc) (ls : Array Slot), va_P D vwCl ((wX11 cI cZ cS ad) σ) H → va_D A ((wX11 cI cZ cS ad) σ) → va_S A s.heap H locs → lv_has ls 8 [(0, .ref (ad 0))] → j2 = some (rr, σr) → W p l e rmX11_odds s m ([.ref (ad 0), .int a1, .int a2, .int a3] : List Value).toArray below meth c H locs 0 0 Q (F0 m 32 ls []) := by
    intro  H locs ls hP hD hS hl hf
    have hf := ej2.symm.trans hf
    refine lv_aload_n hx hb dX11_odds_32 rfl (lv_at hl 0 rfl) ?_
    refine lv_ldc (v := -1000001) hx hb hown (hts _ (List.mem_of_getElem? (i := 1) rfl)) dX11_odds_33 ?_
    refine q_cVi (wf := (wX11 cI cZ cS ad)) (wc := wX11 cI cZ cS ad) (rest := []) ⟨hx, hb, hml, hown, hts⟩ hK hZ hA hP hD hS hf (fun x τ ho => kX11_tell l D cI cZ cS zz ad σ (-1000001 : Int32) x τ ho) (cwV 1 hts gX11_odds_X11_tell rfl rfl rfl ndX11_tell ⟨Nat.le_of_ble_eq_true rfl, Nat.le_of_ble_eq_true rfl⟩) [0, 1, 2, 3, 4, 5, 6, 7, 8, 9, 10, 11, 12, 13, 14, 15, 16, 17, 18, 19, 20, 21, 22, 23, 24, 25, 26, 27, 28, 29, 30, 31, 32, 33, 34, 35, 36, 37, 38, 39, 40, 41, 42, 43, 44, 45, 46, 47, 48, 49, 50, 51, 52, 53, 54, 55, 56, 57, 58, 59, 60, 61, 62, 63, 64, 65, 66, 67, 68, 69, 70, 71] rfl rfl [some 0, some 1, some 2, some 3, some 4, some 5, some 6, some 7, some 8, some 9, some 10, some 11, some 12, some 13, some 14, some 15, some 16, some 17, some 18, some 19, some 20, some 21, some 22, some 23, some 24, some 25, some 26, some 27, some 28, some 29, some 30, some 31, some 32, some 33, some 34, some 35, some 36, some 37, some 38, some 39, some 40, some 41, some 42, some 43, some 44, some 45, some 46, some 47, some 48, some 49, some 50, some 51, some 52, some 53, some 54, some 55, some 56, some 57, some 58, some 59, some 60, some 61, some 62, some 63, some 64, some 65, some 66, some 67, some 68, some 69, some 70, some 71] (by decide +kernel) (Nat.le_of_ble_eq_true rfl) (fun _ => rfl) (fun _ => rfl) (fun _ => rfl) rfl rfl rfl rfl (hl.1) rfl (Nat.le_of_ble_eq_true rfl) dX11_odds_35 ⟨Nat.zero_le _, Nat.zero_le _⟩ (fun r4 σ3 H locs hf hP hD hS => ?_)
    obtain ⟨hi1, hi2⟩ := Prod.mk.inj (Option.some.inj hf)
    subst hi1
    subst hi2
    exact hret _ _ _ _ dX11_odds_38 rfl hP hS
  refine lv_if_eq (tgt := 32) hx hb dX11_odds_7 (by decide) (fun h5 => ?_) (fun h5 => ?_)
  · have hf := (if_pos h5).symm.trans hf
    exact Jj2  _ _ _ hP hD hS (lv_sub hl [0] rfl) hf
  · have hf := (if_neg h5).symm.trans hf
    refine lv_iload_n hx hb dX11_odds_10 rfl (lv_at hl 2 rfl) ?_
    refine lv_iconst (v := 1) hx hb dX11_odds_11 (by decide) ?_
    refine lv_sipush (v := 200) hx hb dX11_odds_12 (by decide) ?_
    refine q_cSr (wf := (wX11 cI cZ cS ad)) (rest := []) ⟨hx, hb, hml, hown, hts⟩ hK hZ hA hP hD hS hf (fun x ho => kX11_within l D cI cZ cS zz a2 (1 : Int32) (200 : Int32) x ho) (va_cwS 3 hts gX11_odds_X11_within rfl rfl rfl ndX11_within.2 ⟨Nat.le_of_ble_eq_true rfl, Nat.le_of_ble_eq_true rfl⟩) rfl (hl.1) rfl (Nat.le_of_ble_eq_true rfl) dX11_odds_15 ⟨Nat.zero_le _, Nat.zero_le _⟩ (fun r6 H locs hf hP hD hS => ?_)
    refine lv_if_eq (tgt := 32) hx hb dX11_odds_18 (by decide) (fun h7 => ?_) (fun h7 => ?_)
    · have hf := (if_pos h7).symm.trans hf
      exact Jj2  _ _ _ hP hD hS (lv_sub hl [0] rfl) hf
    · have hf := (if_neg h7).symm.trans hf
      refine lv_iload_n hx hb dX11_odds_21 rfl (lv_at hl 3 rfl) ?_
      refine lv_iconst (v := 0) hx hb dX11_odds_22 (by decide) ?_
      refine lv_sipush (v := 9999) hx hb dX11_odds_23 (by decide) ?_
      refine q_cSr (wf := (wX11 cI cZ cS ad)) (rest := []) ⟨hx, hb, hml, hown, hts⟩ hK hZ hA hP hD hS hf (fun x ho => kX11_within l D cI cZ cS zz a3 (0 : Int32) (9999 : Int32) x ho) (va_cwS 3 hts gX11_odds_X11_within rfl rfl rfl ndX11_within.2 ⟨Nat.le_of_ble_eq_true rfl, Nat.le_of_ble_eq_true rfl⟩) rfl (hl.1) rfl (Nat.le_of_ble_eq_true rfl) dX11_odds_26 ⟨Nat.zero_le _, Nat.zero_le _⟩ (fun r8 H locs hf hP hD hS => ?_)
      refine lv_if_ne (tgt := 39) hx hb dX11_odds_29 (by decide) (fun h9 => ?_) (fun h9 => ?_)
      · have hf := (if_neg h9).symm.trans hf
        refine lv_iconst (v := 0) hx hb dX11_odds_39 (by decide) ?_
        refine lv_istore (lv' := [(4, .int (0 : Int32)), (0, .ref (ad 0)), (1, .int a1), (2, .int a2), (3, .int a3)]) hx hb dX11_odds_40 hl (by decide) rfl (fun ls hl => ?_)
        refine lv_iconst (v := 0) hx hb dX11_odds_42 (by decide) ?_
        refine lv_istore (lv' := [(5, .int (0 : Int32)), (4, .int (0 : Int32)), (0, .ref (ad 0)), (1, .int a1), (2, .int a2), (3, .int a3)]) hx hb dX11_odds_43 hl (by decide) rfl (fun ls hl => ?_)
        refine q_lp_go (f := fun (zf : SS → Int32 → Int32 → Option (Int32 × SS)) => zf σ (0 : Int32) (0 : Int32)) hf (fun z14 ez14 hf => ?_)
        have Lz14 : ∀ (n15 : Nat) (σ12 : SS) (x4_10 : Int32) (x5_11 : Int32) (H : Heap) (locs : List Loc) (ls : Array Slot), va_P D vwCl ((wX11 cI cZ cS ad) σ12) H → va_D A ((wX11 cI cZ cS ad) σ12) → va_S A s.heap H locs → lv_has ls 8 [(0, .ref (ad 0)), (1, .int a1), (2, .int a2), (3, .int a3), (4, .int x4_10), (5, .int x5_11)] → q_lp (fun _ _ _ => none) z14 n15 σ12 x4_10 x5_11 = some (rr, σr) → W p l e rmX11_odds s m ([.ref (ad 0), .int a1, .int a2, .int a3] : List Value).toArray below meth c H locs 0 0 Q (F0 m 45 ls []) := by
          intro n15
          induction n15 with
          | zero => exact fun _ _ _ _ _ _ _ _ _ _ hf => q_no hf
          | succ n15 ihz14 =>
            intro σ12 x4_10 x5_11 H locs ls hP hD hS hl hf
            have hf := (congrFun (congrFun (congrFun (congrFun ez14 (q_lp (fun _ _ _ => none) z14 n15)) σ12) x4_10) x5_11).symm.trans hf
            refine lv_iload hx hb dX11_odds_45 (lv_at hl 5 rfl) ?_
            refine lv_iload_n hx hb dX11_odds_47 rfl (lv_at hl 1 rfl) ?_
            refine lv_icmp_ge (tgt := 107) hx hb dX11_odds_48 (by decide) (fun h16 => ?_) (fun h16 => ?_)
            · have hf := (if_pos h16).symm.trans hf
              refine lv_iload hx hb dX11_odds_107 (lv_at hl 4 rfl) ?_
              obtain ⟨hi1, hi2⟩ := Prod.mk.inj (Option.some.inj hf)
              subst hi1
              subst hi2
              exact hret _ _ _ _ dX11_odds_109 rfl hP hS
            · have hf := (if_neg h16).symm.trans hf
              refine lv_aload_n hx hb dX11_odds_51 rfl (lv_at hl 0 rfl) ?_
              refine va_get (D := D) (ci := 11) (C := RX11) (T := TX11) (N := 9) hx hb hts fwX11_odds_X11 hown hK hP 0 rfl rfl 1 (by decide) (hts _ (List.mem_of_getElem? (i := 2) rfl)) (fun _ h9 => h9) rfl dX11_odds_52 ?_
              refine q_cVi (wf := (wX11 cI cZ cS ad)) (wc := wX2 cI cZ cS (fun i => ad (2 + i))) (rest := []) ⟨hx, hb, hml, hown, hts⟩ hK hZ hA hP hD hS hf (fun x τ ho => kX2_draw l D cI cZ cS zz (fun i => ad (2 + i)) (q_sb σ12 2) x τ ho) (cwV 0 hts gX11_odds_X2_draw rfl rfl rfl ndX2_draw ⟨Nat.le_of_ble_eq_true rfl, Nat.le_of_ble_eq_true rfl⟩) [2, 3, 4, 5, 6, 7, 8, 9, 10, 11, 12, 13, 14, 15, 16, 17, 18, 19, 20] rfl rfl [none, none, some 0, some 1, some 2, some 3, some 4, some 5, some 6, some 7, some 8, some 9, some 10, some 11, some 12, some 13, some 14, some 15, some 16, some 17, some 18, none, none, none, none, none, none, none, none, none, none, none, none, none, none, none, none, none, none, none, none, none, none, none, none, none, none, none, none, none, none, none, none, none, none, none, none, none, none, none, none, none, none, none, none, none, none, none, none, none, none, none] (by decide +kernel) (Nat.le_of_ble_eq_true rfl) (fun _ => rfl) (fun _ => rfl) (fun _ => rfl) rfl rfl rfl rfl (hl.1) rfl (Nat.le_of_ble_eq_true rfl) dX11_odds_55 ⟨Nat.zero_le _, Nat.zero_le _⟩ (fun r18 σ17 H locs hf hP hD hS => ?_)
              refine lv_bipush (v := 40) hx hb dX11_odds_58 (by decide) ?_
              refine lv_irem hx hb dX11_odds_60 (by decide) ?_
              refine lv_topi (fun x6_19 ex6_19 => ?_)
              have hf := q_lt_at ex6_19 hf
              refine lv_istore (lv' := [(6, .int x6_19), (0, .ref (ad 0)), (1, .int a1), (2, .int a2), (3, .int a3), (4, .int x4_10), (5, .int x5_11)]) hx hb dX11_odds_61 hl (by decide) rfl (fun ls hl => ?_)
              refine lv_aload_n hx hb dX11_odds_63 rfl (lv_at hl 1 rfl) ?_
              refine va_get (D := D) (ci := 11) (C := RX11) (T := TX11) (N := 9) hx hb hts fwX11_odds_X11 hown hK hP 0 rfl rfl 1 (by decide) (hts _ (List.mem_of_getElem? (i := 2) rfl)) (fun _ h9 => h9) rfl dX11_odds_64 ?_
              refine q_cVi (wf := (wX11 cI cZ cS ad)) (wc := wX2 cI cZ cS (fun i => ad (2 + i))) (rest := []) ⟨hx, hb, hml, hown, hts⟩ hK hZ hA hP hD hS hf (fun x τ ho => kX2_draw l D cI cZ cS zz (fun i => ad (2 + i)) (q_sb σ17 2) x τ ho) (cwV 0 hts gX11_odds_X2_draw rfl rfl rfl ndX2_draw ⟨Nat.le_of_ble_eq_true rfl, Nat.le_of_ble_eq_true rfl⟩) [2, 3, 4, 5, 6, 7, 8, 9, 10, 11, 12, 13, 14, 15, 16, 17, 18, 19, 20] rfl rfl [none, none, some 0, some 1, some 2, some 3, some 4, some 5, some 6, some 7, some 8, some 9, some 10, some 11, some 12, some 13, some 14, some 15, some 16, some 17, some 18, none, none, none, none, none, none, none, none, none, none, none, none, none, none, none, none, none, none, none, none, none, none, none, none, none, none, none, none, none, none, none, none, none, none, none, none, none, none, none, none, none, none, none, none, none, none, none, none, none, none, none] (by decide +kernel) (Nat.le_of_ble_eq_true rfl) (fun _ => rfl) (fun _ => rfl) (fun _ => rfl) rfl rfl rfl rfl (hl.1) rfl (Nat.le_of_ble_eq_true rfl) dX11_odds_67 ⟨Nat.zero_le _, Nat.zero_le _⟩ (fun r21 σ20 H locs hf hP hD hS => ?_)
              refine lv_iconst (v := 4) hx hb dX11_odds_70 (by decide) ?_
              refine lv_irem hx hb dX11_odds_71 (by decide) ?_
              refine q_lt_go hf (fun j23 ej23 hf => ?_)
              have Jj23 : ∀ (y22 : Int32) (H : Heap) (locs : List Loc) (ls : Array Slot), va_P D vwCl ((wX11 cI cZ cS ad) σ20) H → va_D A ((wX11 cI cZ cS ad) σ20) → va_S A s.heap H locs → lv_has ls 8 [(0, .ref (ad 0)), (1, .int a1), (2, .int a2), (3, .int a3), (4, .int x4_10), (5, .int x5_11), (6, .int x6_19)] → j23 y22 = some (rr, σr) → W p l e rmX11_odds s m ([.ref (ad 0), .int a1, .int a2, .int a3] : List Value).toArray below meth c H locs 0 0 Q (F0 m 80 ls [.int y22]) := by
                intro y22 H locs ls hP hD hS hl hf
                have hf := (congrFun ej23 y22).symm.trans hf
                refine lv_istore (lv' := [(7, .int y22), (0, .ref (ad 0)), (1, .int a1), (2, .int a2), (3, .int a3), (4, .int x4_10), (5, .int x5_11), (6, .int x6_19)]) hx hb dX11_odds_80 hl (by decide) rfl (fun ls hl => ?_)
                refine lv_aload_n hx hb dX11_odds_82 rfl (lv_at hl 1 rfl) ?_
                refine va_get (D := D) (ci := 11) (C := RX11) (T := TX11) (N := 9) hx hb hts fwX11_odds_X11 hown hK hP 0 rfl rfl 7 (by decide) (hts _ (List.mem_of_getElem? (i := 3) rfl)) (fun _ h9 => h9) rfl dX11_odds_83 ?_
                refine lv_iload hx hb dX11_odds_86 (lv_at hl 7 rfl) ?_
                refine lv_iload hx hb dX11_odds_88 (lv_at hl 0 rfl) ?_
                refine lv_iload_n hx hb dX11_odds_90 rfl (lv_at hl 3 rfl) ?_
                refine lv_iload_n hx hb dX11_odds_91 rfl (lv_at hl 4 rfl) ?_
                refine q_cVi (wf := (wX11 cI cZ cS ad)) (wc := wX3 cI cZ cS (fun i => ad (if i < 1 then 52 + i else if i < 14 then 3 + (i - 1) else 53 + (i - 14)))) (rest := []) ⟨hx, hb, hml, hown, hts⟩ hK hZ hA hP hD hS hf (fun x τ ho => kX3_risesAbove l D cI cZ cS zz (fun i => ad (if i < 1 then 52 + i else if i < 14 then 3 + (i - 1) else 53 + (i - 14))) (q_ap 1 (q_sb σ20 52) (q_ap 13 (q_sb σ20 3) (q_sb σ20 53))) x6_19 y22 a2 a3 x τ ho) (cwV 4 hts gX11_odds_X3_risesAbove rfl rfl rfl ndX3_risesAbove ⟨Nat.le_of_ble_eq_true rfl, Nat.le_of_ble_eq_true rfl⟩) [52, 3, 4, 5, 6, 7, 8, 9, 10, 11, 12, 13, 14, 15, 53, 54, 55, 56, 57, 58, 59, 60, 61, 62, 63, 64, 65, 66] rfl rfl [none, none, none, some 1, some 2, some 3, some 4, some 5, some 6, some 7, some 8, some 9, some 10, some 11, some 12, some 13, none, none, none, none, none, none, none, none, none, none, none, none, none, none, none, none, none, none, none, none, none, none, none, none, none, none, none, none, none, none, none, none, none, none, none, none, some 0, some 14, some 15, some 16, some 17, some 18, some 19, some 20, some 21, some 22, some 23, some 24, some 25, some 26, some 27, none, none, none, none, none] (by decide +kernel) (Nat.le_of_ble_eq_true rfl) (fun _ => rfl) (fun _ => rfl) (fun _ => rfl) rfl rfl rfl rfl (hl.1) rfl (Nat.le_of_ble_eq_true rfl) dX11_odds_92 ⟨Nat.zero_le _, Nat.zero_le _⟩ (fun r25 σ24 H locs hf hP hD hS => ?_)
                refine q_lt_go hf (fun j27 ej27 hf => ?_)
                have Jj27 : ∀ (x4_26 : Int32) (H : Heap) (locs : List Loc) (ls : Array Slot), va_P D vwCl ((wX11 cI cZ cS ad) σ24) H → va_D A ((wX11 cI cZ cS ad) σ24) → va_S A s.heap H locs → lv_has ls 8 [(0, .ref (ad 0)), (1, .int a1), (2, .int a2), (3, .int a3), (4, .int x4_26), (5, .int x5_11)] → j27 x4_26 = some (rr, σr) → W p l e rmX11_odds s m ([.ref (ad 0), .int a1, .int a2, .int a3] : List Value).toArray below meth c H locs 0 0 Q (F0 m 101 ls []) := by
                  intro x4_26 H locs ls hP hD hS hl hf
                  have hf := (congrFun ej27 x4_26).symm.trans hf
                  refine lv_iinc (v := (x5_11 + (1 : Int32))) (lv' := [(5, .int (x5_11 + (1 : Int32))), (0, .ref (ad 0)), (1, .int a1), (2, .int a2), (3, .int a3), (4, .int x4_26)]) hx hb dX11_odds_101 hl (k := 5) rfl rfl (by decide) rfl (fun ls hl => ?_)
                  refine lv_goto (tgt := 45) hx hb dX11_odds_104 (by decide) ?_
                  exact ihz14 σ24 x4_26 (x5_11 + (1 : Int32)) _ _ _ hP hD hS (lv_sub hl [1, 2, 3, 4, 5, 0] rfl) hf
                refine lv_if_eq (tgt := 101) hx hb dX11_odds_95 (by decide) (fun h28 => ?_) (fun h28 => ?_)
                · have hf := (if_pos h28).symm.trans hf
                  exact Jj27 x4_10 _ _ _ hP hD hS (lv_sub hl [1, 2, 3, 4, 5, 6] rfl) hf
                · have hf := (if_neg h28).symm.trans hf
                  refine lv_iinc (v := (x4_10 + (1 : Int32))) (lv' := [(4, .int (x4_10 + (1 : Int32))), (7, .int y22), (0, .ref (ad 0)), (1, .int a1), (2, .int a2), (3, .int a3), (5, .int x5_11), (6, .int x6_19)]) hx hb dX11_odds_98 hl (k := 5) rfl rfl (by decide) rfl (fun ls hl => ?_)
                  exact Jj27 (x4_10 + (1 : Int32)) _ _ _ hP hD hS (lv_sub hl [2, 3, 4, 5, 0, 6] rfl) hf
              refine lv_if_ne (tgt := 79) hx hb dX11_odds_72 (by decide) (fun h29 => ?_) (fun h29 => ?_)
              · have hf := (if_neg h29).symm.trans hf
                refine lv_iconst (v := 0) hx hb dX11_odds_79 (by decide) ?_
                exact Jj23 (0 : Int32) _ _ _ hP hD hS (lv_sub hl [1, 2, 3, 4, 5, 6, 0] rfl) hf
              · have hf := (if_pos h29).symm.trans hf
                refine lv_iconst (v := 1) hx hb dX11_odds_75 (by decide) ?_
                refine lv_goto (tgt := 80) hx hb dX11_odds_76 (by decide) ?_
                exact Jj23 (1 : Int32) _ _ _ hP hD hS (lv_sub hl [1, 2, 3, 4, 5, 6, 0] rfl) hf
        exact Lz14 q_fu σ (0 : Int32) (0 : Int32) _ _ _ hP hD hS (lv_sub hl [2, 3, 4, 5, 1, 0] rfl) hf
      · have hf := (if_pos h9).symm.trans hf
        exact Jj2  _ _ _ hP hD hS (lv_sub hl [0] rfl) hf
def pX11_seed (σ : SS) (a1 : Int32) : Option (Int32 × SS) := q_lt (σ 2 3) (fun x2_1 => q_lt (su σ 2 3 a1) (fun (σ2 : SS) => some (x2_1, σ2)))
theorem fwX11_seed_X11 : ∀ w ∈ wsX110, w ∈ wsX11_seed := fun _ h => List.mem_cons_of_mem _ (List.mem_append_left _ (List.mem_append_right _ h))
theorem fwX11_seed_X2 : ∀ w ∈ wsX20, w ∈ wsX11_seed := fun _ h => List.mem_cons_of_mem _ (List.mem_append_right _ h)
abbrev rmX11_seed : Room := { frames := 0, cells := 0, slots := 0, locals := 0 }
set_option maxHeartbeats 4000000 in
set_option maxRecDepth 100000 in
theorem kX11_seed (l : Launch) (D : va_G) (cI cZ cS : ClassId) (zz : ZT) (ad : Nat → Nat) (σ : SS) (a1 : Int32) (rr : Int32) (σr : SS) (hf : pX11_seed σ a1 = some (rr, σr)) : CI l yX11_seed wsX11_seed rmX11_seed D (K3 cI cZ cS) zz [.ref (ad 0), .int a1] (wX11 cI cZ cS ad σ) (wX11 cI cZ cS ad σr) rr := by
  refine q_ofI (cc := cX11_seed) (maxL := 3) (ty := .int) (by decide) rfl (Nat.le_of_ble_eq_true rfl) ?_
  intro p e s m below meth c Q A ls hx hb hml hown hts hK hZ hA hP hD hS hl hret
  have hl : lv_has ls 3 [(0, .ref (ad 0)), (1, .int a1)] := hl
  unfold pX11_seed at hf
  refine lv_aload_n hx hb dX11_seed_0 rfl (lv_at hl 0 rfl) ?_
  refine va_get (D := D) (ci := 11) (C := RX11) (T := TX11) (N := 9) hx hb hts fwX11_seed_X11 hown hK hP 0 rfl rfl 1 (by decide) (hts _ (List.mem_of_getElem? (i := 1) rfl)) (fun _ h9 => h9) rfl dX11_seed_1 ?_
  refine va_get (D := D) (ci := 2) (C := RX2) (T := TX2) (N := 4) hx hb hts fwX11_seed_X2 hown hK hP 2 rfl rfl 3 (by decide) (hts _ (List.mem_of_getElem? (i := 2) rfl)) (fun _ h9 => h9) rfl dX11_seed_4 ?_
  refine lv_topi (fun x2_1 ex2_1 => ?_)
  have hf := q_lt_at ex2_1 hf
  refine lv_istore_n (lv' := [(2, .int x2_1), (0, .ref (ad 0)), (1, .int a1)]) hx hb dX11_seed_7 rfl hl (by decide) rfl (fun ls hl => ?_)
  refine lv_aload_n hx hb dX11_seed_8 rfl (lv_at hl 1 rfl) ?_
  refine va_get (D := D) (ci := 11) (C := RX11) (T := TX11) (N := 9) hx hb hts fwX11_seed_X11 hown hK hP 0 rfl rfl 1 (by decide) (hts _ (List.mem_of_getElem? (i := 1) rfl)) (fun _ h9 => h9) rfl dX11_seed_9 ?_
  refine lv_iload_n hx hb dX11_seed_12 rfl (lv_at hl 2 rfl) ?_
  refine w_put (D := D) (wf := (wX11 cI cZ cS ad)) (cid := 2) (ci := 2) (C := RX2) (T := TX2) (N := 4) hx hb hts fwX11_seed_X2 tyX2 tyX2_ok nmX2 hown hK hP hD hS 2 rfl rfl 3 (by decide) (hts _ (List.mem_of_getElem? (i := 2) rfl)) (fun _ h9 => h9) rfl (tyX2_ok 3 (by decide)) (Nat.le_of_ble_eq_true rfl) hf rfl dX11_seed_13 (fun σ2 H locs hf hP hD hS => ?_)
  refine lv_iload_n hx hb dX11_seed_16 rfl (lv_at hl 0 rfl) ?_
  obtain ⟨hi1, hi2⟩ := Prod.mk.inj (Option.some.inj hf)
  subst hi1
  subst hi2
  exact hret _ _ _ _ dX11_seed_17 rfl hP hS
def pX11_hold (σ : SS) (a1 : Int32) (a2 : Int32) : Option (Int32 × SS) := q_cr (pX11_within a1 (0 : Int32) (9 : Int32)) (fun (r1 : Int32) => q_lt (q_ci (pX11_tell σ (-1000001 : Int32)) (fun (τ : SS) => τ) (fun (r4 : Int32) (σ3 : SS) => some (r4, σ3))) (fun j2 => (if r1 = (0 : Int32) then j2 else q_lt (q_wr σ 20 10 a1 a2 (fun (σ7 : SS) => some ((1 : Int32), σ7))) (fun j6 => (if a2 = (-1 : Int32) then j6 else q_cr (pX11_isWater σ a2) (fun (r9 : Int32) => (if r9 = (0 : Int32) then j2 else j6)))))))
theorem fwX11_hold_X11 : ∀ w ∈ wsX110, w ∈ wsX11_hold := fun _ h => List.mem_cons_of_mem _ (List.mem_append_left _ (List.mem_append_left _ (List.mem_append_left _ (List.mem_append_right _ h))))
theorem fwX11_hold_X2 : ∀ w ∈ wsX20, w ∈ wsX11_hold := fun _ h => List.mem_cons_of_mem _ (List.mem_append_left _ (List.mem_append_left _ (List.mem_append_right _ h)))
abbrev rmX11_hold : Room := { frames := 2, cells := 0, slots := 0, locals := 43 }
set_option maxHeartbeats 4000000 in
set_option maxRecDepth 100000 in
theorem kX11_hold (l : Launch) (D : va_G) (cI cZ cS : ClassId) (zz : ZT) (ad : Nat → Nat) (σ : SS) (a1 : Int32) (a2 : Int32) (rr : Int32) (σr : SS) (hf : pX11_hold σ a1 a2 = some (rr, σr)) : CI l yX11_hold wsX11_hold rmX11_hold D (K3 cI cZ cS) zz [.ref (ad 0), .int a1, .int a2] (wX11 cI cZ cS ad σ) (wX11 cI cZ cS ad σr) rr := by
  refine q_ofI (cc := cX11_hold) (maxL := 3) (ty := .int) (by decide) rfl (Nat.le_of_ble_eq_true rfl) ?_
  intro p e s m below meth c Q A ls hx hb hml hown hts hK hZ hA hP hD hS hl hret
  have hl : lv_has ls 3 [(0, .ref (ad 0)), (1, .int a1), (2, .int a2)] := hl
  unfold pX11_hold at hf
  refine lv_iload_n hx hb dX11_hold_0 rfl (lv_at hl 1 rfl) ?_
  refine lv_iconst (v := 0) hx hb dX11_hold_1 (by decide) ?_
  refine lv_bipush (v := 9) hx hb dX11_hold_2 (by decide) ?_
  refine q_cSr (wf := (wX11 cI cZ cS ad)) (rest := []) ⟨hx, hb, hml, hown, hts⟩ hK hZ hA hP hD hS hf (fun x ho => kX11_within l D cI cZ cS zz a1 (0 : Int32) (9 : Int32) x ho) (va_cwS 3 hts gX11_hold_X11_within rfl rfl rfl ndX11_within.2 ⟨Nat.le_of_ble_eq_true rfl, Nat.le_of_ble_eq_true rfl⟩) rfl (hl.1) rfl (Nat.le_of_ble_eq_true rfl) dX11_hold_4 ⟨Nat.zero_le _, Nat.zero_le _⟩ (fun r1 H locs hf hP hD hS => ?_)
  refine q_lt_go hf (fun j2 ej2 hf => ?_)
  have Jj2 : ∀ (H : Heap) (locs : List Loc) (ls : Array Slot), va_P D vwCl ((wX11 cI cZ cS ad) σ) H → va_D A ((wX11 cI cZ cS ad) σ) → va_S A s.heap H locs → lv_has ls 3 [(0, .ref (ad 0))] → j2 = some (rr, σr) → W p l e rmX11_hold s m ([.ref (ad 0), .int a1, .int a2] : List Value).toArray below meth c H locs 0 0 Q (F0 m 23 ls []) := by
    intro  H locs ls hP hD hS hl hf
    have hf := ej2.symm.trans hf
    refine lv_aload_n hx hb dX11_hold_23 rfl (lv_at hl 0 rfl) ?_
    refine lv_ldc (v := -1000001) hx hb hown (hts _ (List.mem_of_getElem? (i := 1) rfl)) dX11_hold_24 ?_
    refine q_cVi (wf := (wX11 cI cZ cS ad)) (wc := wX11 cI cZ cS ad) (rest := []) ⟨hx, hb, hml, hown, hts⟩ hK hZ hA hP hD hS hf (fun x τ ho => kX11_tell l D cI cZ cS zz ad σ (-1000001 : Int32) x τ ho) (cwV 1 hts gX11_hold_X11_tell rfl rfl rfl ndX11_tell ⟨Nat.le_of_ble_eq_true rfl, Nat.le_of_ble_eq_true rfl⟩) [0, 1, 2, 3, 4, 5, 6, 7, 8, 9, 10, 11, 12, 13, 14, 15, 16, 17, 18, 19, 20, 21, 22, 23, 24, 25, 26, 27, 28, 29, 30, 31, 32, 33, 34, 35, 36, 37, 38, 39, 40, 41, 42, 43, 44, 45, 46, 47, 48, 49, 50, 51, 52, 53, 54, 55, 56, 57, 58, 59, 60, 61, 62, 63, 64, 65, 66, 67, 68, 69, 70, 71] rfl rfl [some 0, some 1, some 2, some 3, some 4, some 5, some 6, some 7, some 8, some 9, some 10, some 11, some 12, some 13, some 14, some 15, some 16, some 17, some 18, some 19, some 20, some 21, some 22, some 23, some 24, some 25, some 26, some 27, some 28, some 29, some 30, some 31, some 32, some 33, some 34, some 35, some 36, some 37, some 38, some 39, some 40, some 41, some 42, some 43, some 44, some 45, some 46, some 47, some 48, some 49, some 50, some 51, some 52, some 53, some 54, some 55, some 56, some 57, some 58, some 59, some 60, some 61, some 62, some 63, some 64, some 65, some 66, some 67, some 68, some 69, some 70, some 71] (by decide +kernel) (Nat.le_of_ble_eq_true rfl) (fun _ => rfl) (fun _ => rfl) (fun _ => rfl) rfl rfl rfl rfl (hl.1) rfl (Nat.le_of_ble_eq_true rfl) dX11_hold_26 ⟨Nat.zero_le _, Nat.zero_le _⟩ (fun r4 σ3 H locs hf hP hD hS => ?_)
    obtain ⟨hi1, hi2⟩ := Prod.mk.inj (Option.some.inj hf)
    subst hi1
    subst hi2
    exact hret _ _ _ _ dX11_hold_29 rfl hP hS
  refine lv_if_eq (tgt := 23) hx hb dX11_hold_7 (by decide) (fun h5 => ?_) (fun h5 => ?_)
  · have hf := (if_pos h5).symm.trans hf
    exact Jj2  _ _ _ hP hD hS (lv_sub hl [0] rfl) hf
  · have hf := (if_neg h5).symm.trans hf
    refine lv_iload_n hx hb dX11_hold_10 rfl (lv_at hl 2 rfl) ?_
    refine lv_iconst (v := -1) hx hb dX11_hold_11 (by decide) ?_
    refine q_lt_go hf (fun j6 ej6 hf => ?_)
    have Jj6 : ∀ (H : Heap) (locs : List Loc) (ls : Array Slot), va_P D vwCl ((wX11 cI cZ cS ad) σ) H → va_D A ((wX11 cI cZ cS ad) σ) → va_S A s.heap H locs → lv_has ls 3 [(0, .ref (ad 0)), (1, .int a1), (2, .int a2)] → j6 = some (rr, σr) → W p l e rmX11_hold s m ([.ref (ad 0), .int a1, .int a2] : List Value).toArray below meth c H locs 0 0 Q (F0 m 30 ls []) := by
      intro  H locs ls hP hD hS hl hf
      have hf := ej6.symm.trans hf
      refine lv_aload_n hx hb dX11_hold_30 rfl (lv_at hl 0 rfl) ?_
      refine va_get (D := D) (ci := 11) (C := RX11) (T := TX11) (N := 9) hx hb hts fwX11_hold_X11 hown hK hP 0 rfl rfl 1 (by decide) (hts _ (List.mem_of_getElem? (i := 2) rfl)) (fun _ h9 => h9) rfl dX11_hold_31 ?_
      refine va_get (D := D) (ci := 2) (C := RX2) (T := TX2) (N := 4) hx hb hts fwX11_hold_X2 hown hK hP 2 rfl rfl 2 (by decide) (hts _ (List.mem_of_getElem? (i := 3) rfl)) (fun _ h9 => h9) rfl dX11_hold_34 ?_
      refine lv_iload_n hx hb dX11_hold_37 rfl (lv_at hl 1 rfl) ?_
      refine lv_iload_n hx hb dX11_hold_38 rfl (lv_at hl 2 rfl) ?_
      refine w_iast (wf := (wX11 cI cZ cS ad)) (cid := 20) hx hb hK hP hD hS 20 0 rfl rfl hf (fun _ => rfl) dX11_hold_39 (fun σ7 H locs hf hP hD hS => ?_)
      refine lv_iconst (v := 1) hx hb dX11_hold_40 (by decide) ?_
      obtain ⟨hi1, hi2⟩ := Prod.mk.inj (Option.some.inj hf)
      subst hi1
      subst hi2
      exact hret _ _ _ _ dX11_hold_41 rfl hP hS
    refine lv_icmp_eq (tgt := 30) hx hb dX11_hold_12 (by decide) (fun h8 => ?_) (fun h8 => ?_)
    · have hf := (if_pos h8).symm.trans hf
      exact Jj6  _ _ _ hP hD hS (lv_sub hl [0, 1, 2] rfl) hf
    · have hf := (if_neg h8).symm.trans hf
      refine lv_aload_n hx hb dX11_hold_15 rfl (lv_at hl 0 rfl) ?_
      refine lv_iload_n hx hb dX11_hold_16 rfl (lv_at hl 2 rfl) ?_
      refine q_cVr (wf := (wX11 cI cZ cS ad)) (wc := wX11 cI cZ cS ad) (rest := []) ⟨hx, hb, hml, hown, hts⟩ hK hZ hA hP hD hS hf (fun x ho => kX11_isWater l D cI cZ cS zz ad σ a2 x ho) (cwV 1 hts gX11_hold_X11_isWater rfl rfl rfl ndX11_isWater ⟨Nat.le_of_ble_eq_true rfl, Nat.le_of_ble_eq_true rfl⟩) [0, 1, 2, 3, 4, 5, 6, 7, 8, 9, 10, 11, 12, 13, 14, 15, 16, 17, 18, 19, 20, 21, 22, 23, 24, 25, 26, 27, 28, 29, 30, 31, 32, 33, 34, 35, 36, 37, 38, 39, 40, 41, 42, 43, 44, 45, 46, 47, 48, 49, 50, 51, 52, 53, 54, 55, 56, 57, 58, 59, 60, 61, 62, 63, 64, 65, 66, 67, 68, 69, 70, 71] rfl rfl rfl rfl rfl rfl (hl.1) rfl (Nat.le_of_ble_eq_true rfl) dX11_hold_17 ⟨Nat.zero_le _, Nat.zero_le _⟩ (fun r9 H locs hf hP hD hS => ?_)
      refine lv_if_ne (tgt := 30) hx hb dX11_hold_20 (by decide) (fun h10 => ?_) (fun h10 => ?_)
      · have hf := (if_neg h10).symm.trans hf
        exact Jj6  _ _ _ hP hD hS (lv_sub hl [0, 1, 2] rfl) hf
      · have hf := (if_pos h10).symm.trans hf
        exact Jj2  _ _ _ hP hD hS (lv_sub hl [0] rfl) hf
def pX11_as (σ : SS) (a1 : Int32) (a2 : Int32) : Option (Int32 × SS) := q_cr (pX11_within a1 (0 : Int32) (9 : Int32)) (fun (r1 : Int32) => q_lt (q_ci (pX11_tell σ (-1000001 : Int32)) (fun (τ : SS) => τ) (fun (r4 : Int32) (σ3 : SS) => some (r4, σ3))) (fun j2 => (if r1 = (0 : Int32) then j2 else q_cr (pX11_within a2 (0 : Int32) (6 : Int32)) (fun (r6 : Int32) => (if r6 = (0 : Int32) then j2 else q_rd (σ 20) 10 a1 (fun (v8 : Int32) => q_cr (pX11_isWater σ v8) (fun (r9 : Int32) => (if r9 = (0 : Int32) then q_ci (pX11_tell σ (-1000006 : Int32)) (fun (τ : SS) => τ) (fun (r19 : Int32) (σ18 : SS) => some (r19, σ18)) else q_cr (pX10_isOfKind (q_sb σ 4) v8 a2) (fun (r11 : Int32) => q_lt (fun (σ13 : SS) (y12 : Int32) => some (y12, σ13)) (fun j14 => (if r11 = (0 : Int32) then q_ci (pX11_tell σ (-1000003 : Int32)) (fun (τ : SS) => τ) (fun (r17 : Int32) (σ16 : SS) => j14 σ16 r17) else j14 σ v8)))))))))))
theorem fwX11_as_X0 : ∀ w ∈ wsX00, w ∈ wsX11_as := fun _ h => List.mem_cons_of_mem _ (List.mem_append_left _ (List.mem_append_right _ h))
theorem fwX11_as_X11 : ∀ w ∈ wsX110, w ∈ wsX11_as := fun _ h => List.mem_cons_of_mem _ (List.mem_append_left _ (List.mem_append_left _ (List.mem_append_left _ (List.mem_append_right _ h))))
theorem fwX11_as_X2 : ∀ w ∈ wsX20, w ∈ wsX11_as := fun _ h => List.mem_cons_of_mem _ (List.mem_append_left _ (List.mem_append_left _ (List.mem_append_right _ h)))
abbrev rmX11_as : Room := { frames := 2, cells := 0, slots := 0, locals := 43 }
set_option maxHeartbeats 4000000 in
set_option maxRecDepth 100000 in
theorem kX11_as (l : Launch) (D : va_G) (cI cZ cS : ClassId) (zz : ZT) (ad : Nat → Nat) (σ : SS) (a1 : Int32) (a2 : Int32) (rr : Int32) (σr : SS) (hf : pX11_as σ a1 a2 = some (rr, σr)) : CI l yX11_as wsX11_as rmX11_as D (K3 cI cZ cS) zz [.ref (ad 0), .int a1, .int a2] (wX11 cI cZ cS ad σ) (wX11 cI cZ cS ad σr) rr := by
  refine q_ofI (cc := cX11_as) (maxL := 4) (ty := .int) (by decide) rfl (Nat.le_of_ble_eq_true rfl) ?_
  intro p e s m below meth c Q A ls hx hb hml hown hts hK hZ hA hP hD hS hl hret
  have hl : lv_has ls 4 [(0, .ref (ad 0)), (1, .int a1), (2, .int a2)] := hl
  unfold pX11_as at hf
  refine lv_iload_n hx hb dX11_as_0 rfl (lv_at hl 1 rfl) ?_
  refine lv_iconst (v := 0) hx hb dX11_as_1 (by decide) ?_
  refine lv_bipush (v := 9) hx hb dX11_as_2 (by decide) ?_
  refine q_cSr (wf := (wX11 cI cZ cS ad)) (rest := []) ⟨hx, hb, hml, hown, hts⟩ hK hZ hA hP hD hS hf (fun x ho => kX11_within l D cI cZ cS zz a1 (0 : Int32) (9 : Int32) x ho) (va_cwS 3 hts gX11_as_X11_within rfl rfl rfl ndX11_within.2 ⟨Nat.le_of_ble_eq_true rfl, Nat.le_of_ble_eq_true rfl⟩) rfl (hl.1) rfl (Nat.le_of_ble_eq_true rfl) dX11_as_4 ⟨Nat.zero_le _, Nat.zero_le _⟩ (fun r1 H locs hf hP hD hS => ?_)
  refine q_lt_go hf (fun j2 ej2 hf => ?_)
  have Jj2 : ∀ (H : Heap) (locs : List Loc) (ls : Array Slot), va_P D vwCl ((wX11 cI cZ cS ad) σ) H → va_D A ((wX11 cI cZ cS ad) σ) → va_S A s.heap H locs → lv_has ls 4 [(0, .ref (ad 0))] → j2 = some (rr, σr) → W p l e rmX11_as s m ([.ref (ad 0), .int a1, .int a2] : List Value).toArray below meth c H locs 0 0 Q (F0 m 20 ls []) := by
    intro  H locs ls hP hD hS hl hf
    have hf := ej2.symm.trans hf
    refine lv_aload_n hx hb dX11_as_20 rfl (lv_at hl 0 rfl) ?_
    refine lv_ldc (v := -1000001) hx hb hown (hts _ (List.mem_of_getElem? (i := 1) rfl)) dX11_as_21 ?_
    refine q_cVi (wf := (wX11 cI cZ cS ad)) (wc := wX11 cI cZ cS ad) (rest := []) ⟨hx, hb, hml, hown, hts⟩ hK hZ hA hP hD hS hf (fun x τ ho => kX11_tell l D cI cZ cS zz ad σ (-1000001 : Int32) x τ ho) (cwV 1 hts gX11_as_X11_tell rfl rfl rfl ndX11_tell ⟨Nat.le_of_ble_eq_true rfl, Nat.le_of_ble_eq_true rfl⟩) [0, 1, 2, 3, 4, 5, 6, 7, 8, 9, 10, 11, 12, 13, 14, 15, 16, 17, 18, 19, 20, 21, 22, 23, 24, 25, 26, 27, 28, 29, 30, 31, 32, 33, 34, 35, 36, 37, 38, 39, 40, 41, 42, 43, 44, 45, 46, 47, 48, 49, 50, 51, 52, 53, 54, 55, 56, 57, 58, 59, 60, 61, 62, 63, 64, 65, 66, 67, 68, 69, 70, 71] rfl rfl [some 0, some 1, some 2, some 3, some 4, some 5, some 6, some 7, some 8, some 9, some 10, some 11, some 12, some 13, some 14, some 15, some 16, some 17, some 18, some 19, some 20, some 21, some 22, some 23, some 24, some 25, some 26, some 27, some 28, some 29, some 30, some 31, some 32, some 33, some 34, some 35, some 36, some 37, some 38, some 39, some 40, some 41, some 42, some 43, some 44, some 45, some 46, some 47, some 48, some 49, some 50, some 51, some 52, some 53, some 54, some 55, some 56, some 57, some 58, some 59, some 60, some 61, some 62, some 63, some 64, some 65, some 66, some 67, some 68, some 69, some 70, some 71] (by decide +kernel) (Nat.le_of_ble_eq_true rfl) (fun _ => rfl) (fun _ => rfl) (fun _ => rfl) rfl rfl rfl rfl (hl.1) rfl (Nat.le_of_ble_eq_true rfl) dX11_as_23 ⟨Nat.zero_le _, Nat.zero_le _⟩ (fun r4 σ3 H locs hf hP hD hS => ?_)
    obtain ⟨hi1, hi2⟩ := Prod.mk.inj (Option.some.inj hf)
    subst hi1
    subst hi2
    exact hret _ _ _ _ dX11_as_26 rfl hP hS
  refine lv_if_eq (tgt := 20) hx hb dX11_as_7 (by decide) (fun h5 => ?_) (fun h5 => ?_)
  · have hf := (if_pos h5).symm.trans hf
    exact Jj2  _ _ _ hP hD hS (lv_sub hl [0] rfl) hf
  · have hf := (if_neg h5).symm.trans hf
    refine lv_iload_n hx hb dX11_as_10 rfl (lv_at hl 2 rfl) ?_
    refine lv_iconst (v := 0) hx hb dX11_as_11 (by decide) ?_
    refine lv_bipush (v := 6) hx hb dX11_as_12 (by decide) ?_
    refine q_cSr (wf := (wX11 cI cZ cS ad)) (rest := []) ⟨hx, hb, hml, hown, hts⟩ hK hZ hA hP hD hS hf (fun x ho => kX11_within l D cI cZ cS zz a2 (0 : Int32) (6 : Int32) x ho) (va_cwS 3 hts gX11_as_X11_within rfl rfl rfl ndX11_within.2 ⟨Nat.le_of_ble_eq_true rfl, Nat.le_of_ble_eq_true rfl⟩) rfl (hl.1) rfl (Nat.le_of_ble_eq_true rfl) dX11_as_14 ⟨Nat.zero_le _, Nat.zero_le _⟩ (fun r6 H locs hf hP hD hS => ?_)
    refine lv_if_ne (tgt := 27) hx hb dX11_as_17 (by decide) (fun h7 => ?_) (fun h7 => ?_)
    · have hf := (if_neg h7).symm.trans hf
      refine lv_aload_n hx hb dX11_as_27 rfl (lv_at hl 0 rfl) ?_
      refine va_get (D := D) (ci := 11) (C := RX11) (T := TX11) (N := 9) hx hb hts fwX11_as_X11 hown hK hP 0 rfl rfl 1 (by decide) (hts _ (List.mem_of_getElem? (i := 2) rfl)) (fun _ h9 => h9) rfl dX11_as_28 ?_
      refine va_get (D := D) (ci := 2) (C := RX2) (T := TX2) (N := 4) hx hb hts fwX11_as_X2 hown hK hP 2 rfl rfl 2 (by decide) (hts _ (List.mem_of_getElem? (i := 3) rfl)) (fun _ h9 => h9) rfl dX11_as_31 ?_
      refine lv_iload_n hx hb dX11_as_34 rfl (lv_at hl 1 rfl) ?_
      refine w_iald (wf := (wX11 cI cZ cS ad)) hx hb hK hP 20 0 rfl rfl hf dX11_as_35 (fun v8 hf => ?_)
      refine lv_istore_n (lv' := [(3, .int v8), (0, .ref (ad 0)), (1, .int a1), (2, .int a2)]) hx hb dX11_as_36 rfl hl (by decide) rfl (fun ls hl => ?_)
      refine lv_aload_n hx hb dX11_as_37 rfl (lv_at hl 1 rfl) ?_
      refine lv_iload_n hx hb dX11_as_38 rfl (lv_at hl 0 rfl) ?_
      refine q_cVr (wf := (wX11 cI cZ cS ad)) (wc := wX11 cI cZ cS ad) (rest := []) ⟨hx, hb, hml, hown, hts⟩ hK hZ hA hP hD hS hf (fun x ho => kX11_isWater l D cI cZ cS zz ad σ v8 x ho) (cwV 1 hts gX11_as_X11_isWater rfl rfl rfl ndX11_isWater ⟨Nat.le_of_ble_eq_true rfl, Nat.le_of_ble_eq_true rfl⟩) [0, 1, 2, 3, 4, 5, 6, 7, 8, 9, 10, 11, 12, 13, 14, 15, 16, 17, 18, 19, 20, 21, 22, 23, 24, 25, 26, 27, 28, 29, 30, 31, 32, 33, 34, 35, 36, 37, 38, 39, 40, 41, 42, 43, 44, 45, 46, 47, 48, 49, 50, 51, 52, 53, 54, 55, 56, 57, 58, 59, 60, 61, 62, 63, 64, 65, 66, 67, 68, 69, 70, 71] rfl rfl rfl rfl rfl rfl (hl.1) rfl (Nat.le_of_ble_eq_true rfl) dX11_as_39 ⟨Nat.zero_le _, Nat.zero_le _⟩ (fun r9 H locs hf hP hD hS => ?_)
      refine lv_if_ne (tgt := 53) hx hb dX11_as_42 (by decide) (fun h10 => ?_) (fun h10 => ?_)
      · have hf := (if_neg h10).symm.trans hf
        refine lv_aload_n hx hb dX11_as_53 rfl (lv_at hl 1 rfl) ?_
        refine va_get (D := D) (ci := 11) (C := RX11) (T := TX11) (N := 9) hx hb hts fwX11_as_X11 hown hK hP 0 rfl rfl 1 (by decide) (hts _ (List.mem_of_getElem? (i := 2) rfl)) (fun _ h9 => h9) rfl dX11_as_54 ?_
        refine va_get (D := D) (ci := 2) (C := RX2) (T := TX2) (N := 4) hx hb hts fwX11_as_X2 hown hK hP 2 rfl rfl 0 (by decide) (hts _ (List.mem_of_getElem? (i := 5) rfl)) (fun _ h9 => h9) rfl dX11_as_57 ?_
        refine va_get (D := D) (ci := 0) (C := RX0) (T := TX0) (N := 13) hx hb hts fwX11_as_X0 hown hK hP 3 rfl rfl 0 (by decide) (hts _ (List.mem_of_getElem? (i := 6) rfl)) (fun _ h9 => h9) rfl dX11_as_60 ?_
        refine lv_iload_n hx hb dX11_as_63 rfl (lv_at hl 0 rfl) ?_
        refine lv_iload_n hx hb dX11_as_64 rfl (lv_at hl 3 rfl) ?_
        refine q_cVr (wf := (wX11 cI cZ cS ad)) (wc := wX10 cI cZ cS (fun i => ad (4 + i))) (rest := []) ⟨hx, hb, hml, hown, hts⟩ hK hZ hA hP hD hS hf (fun x ho => kX10_isOfKind l D cI cZ cS zz (fun i => ad (4 + i)) (q_sb σ 4) v8 a2 x ho) (cwV 2 hts gX11_as_X10_isOfKind rfl rfl rfl ndX10_isOfKind ⟨Nat.le_of_ble_eq_true rfl, Nat.le_of_ble_eq_true rfl⟩) [4, 5, 6, 7, 8] rfl rfl rfl rfl rfl rfl (hl.1) rfl (Nat.le_of_ble_eq_true rfl) dX11_as_65 ⟨Nat.zero_le _, Nat.zero_le _⟩ (fun r11 H locs hf hP hD hS => ?_)
        refine q_lt_go hf (fun j14 ej14 hf => ?_)
        have Jj14 : ∀ (σ13 : SS) (y12 : Int32) (H : Heap) (locs : List Loc) (ls : Array Slot), va_P D vwCl ((wX11 cI cZ cS ad) σ13) H → va_D A ((wX11 cI cZ cS ad) σ13) → va_S A s.heap H locs → lv_has ls 4 [] → j14 σ13 y12 = some (rr, σr) → W p l e rmX11_as s m ([.ref (ad 0), .int a1, .int a2] : List Value).toArray below meth c H locs 0 0 Q (F0 m 82 ls [.int y12]) := by
          intro σ13 y12 H locs ls hP hD hS hl hf
          have hf := (congrFun (congrFun ej14 σ13) y12).symm.trans hf
          obtain ⟨hi1, hi2⟩ := Prod.mk.inj (Option.some.inj hf)
          subst hi1
          subst hi2
          exact hret _ _ _ _ dX11_as_82 rfl hP hS
        refine lv_if_eq (tgt := 75) hx hb dX11_as_68 (by decide) (fun h15 => ?_) (fun h15 => ?_)
        · have hf := (if_pos h15).symm.trans hf
          refine lv_aload_n hx hb dX11_as_75 rfl (lv_at hl 1 rfl) ?_
          refine lv_ldcw (v := -1000003) hx hb hown (hts _ (List.mem_of_getElem? (i := 7) rfl)) dX11_as_76 ?_
          refine q_cVi (wf := (wX11 cI cZ cS ad)) (wc := wX11 cI cZ cS ad) (rest := []) ⟨hx, hb, hml, hown, hts⟩ hK hZ hA hP hD hS hf (fun x τ ho => kX11_tell l D cI cZ cS zz ad σ (-1000003 : Int32) x τ ho) (cwV 1 hts gX11_as_X11_tell rfl rfl rfl ndX11_tell ⟨Nat.le_of_ble_eq_true rfl, Nat.le_of_ble_eq_true rfl⟩) [0, 1, 2, 3, 4, 5, 6, 7, 8, 9, 10, 11, 12, 13, 14, 15, 16, 17, 18, 19, 20, 21, 22, 23, 24, 25, 26, 27, 28, 29, 30, 31, 32, 33, 34, 35, 36, 37, 38, 39, 40, 41, 42, 43, 44, 45, 46, 47, 48, 49, 50, 51, 52, 53, 54, 55, 56, 57, 58, 59, 60, 61, 62, 63, 64, 65, 66, 67, 68, 69, 70, 71] rfl rfl [some 0, some 1, some 2, some 3, some 4, some 5, some 6, some 7, some 8, some 9, some 10, some 11, some 12, some 13, some 14, some 15, some 16, some 17, some 18, some 19, some 20, some 21, some 22, some 23, some 24, some 25, some 26, some 27, some 28, some 29, some 30, some 31, some 32, some 33, some 34, some 35, some 36, some 37, some 38, some 39, some 40, some 41, some 42, some 43, some 44, some 45, some 46, some 47, some 48, some 49, some 50, some 51, some 52, some 53, some 54, some 55, some 56, some 57, some 58, some 59, some 60, some 61, some 62, some 63, some 64, some 65, some 66, some 67, some 68, some 69, some 70, some 71] (by decide +kernel) (Nat.le_of_ble_eq_true rfl) (fun _ => rfl) (fun _ => rfl) (fun _ => rfl) rfl rfl rfl rfl (hl.1) rfl (Nat.le_of_ble_eq_true rfl) dX11_as_79 ⟨Nat.zero_le _, Nat.zero_le _⟩ (fun r17 σ16 H locs hf hP hD hS => ?_)
          exact Jj14 σ16 r17 _ _ _ hP hD hS (lv_sub hl [] rfl) hf
        · have hf := (if_neg h15).symm.trans hf
          refine lv_iload_n hx hb dX11_as_71 rfl (lv_at hl 0 rfl) ?_
          refine lv_goto (tgt := 82) hx hb dX11_as_72 (by decide) ?_
          exact Jj14 σ v8 _ _ _ hP hD hS (lv_sub hl [] rfl) hf
      · have hf := (if_pos h10).symm.trans hf
        refine lv_aload_n hx hb dX11_as_45 rfl (lv_at hl 1 rfl) ?_
        refine lv_ldcw (v := -1000006) hx hb hown (hts _ (List.mem_of_getElem? (i := 4) rfl)) dX11_as_46 ?_
        refine q_cVi (wf := (wX11 cI cZ cS ad)) (wc := wX11 cI cZ cS ad) (rest := []) ⟨hx, hb, hml, hown, hts⟩ hK hZ hA hP hD hS hf (fun x τ ho => kX11_tell l D cI cZ cS zz ad σ (-1000006 : Int32) x τ ho) (cwV 1 hts gX11_as_X11_tell rfl rfl rfl ndX11_tell ⟨Nat.le_of_ble_eq_true rfl, Nat.le_of_ble_eq_true rfl⟩) [0, 1, 2, 3, 4, 5, 6, 7, 8, 9, 10, 11, 12, 13, 14, 15, 16, 17, 18, 19, 20, 21, 22, 23, 24, 25, 26, 27, 28, 29, 30, 31, 32, 33, 34, 35, 36, 37, 38, 39, 40, 41, 42, 43, 44, 45, 46, 47, 48, 49, 50, 51, 52, 53, 54, 55, 56, 57, 58, 59, 60, 61, 62, 63, 64, 65, 66, 67, 68, 69, 70, 71] rfl rfl [some 0, some 1, some 2, some 3, some 4, some 5, some 6, some 7, some 8, some 9, some 10, some 11, some 12, some 13, some 14, some 15, some 16, some 17, some 18, some 19, some 20, some 21, some 22, some 23, some 24, some 25, some 26, some 27, some 28, some 29, some 30, some 31, some 32, some 33, some 34, some 35, some 36, some 37, some 38, some 39, some 40, some 41, some 42, some 43, some 44, some 45, some 46, some 47, some 48, some 49, some 50, some 51, some 52, some 53, some 54, some 55, some 56, some 57, some 58, some 59, some 60, some 61, some 62, some 63, some 64, some 65, some 66, some 67, some 68, some 69, some 70, some 71] (by decide +kernel) (Nat.le_of_ble_eq_true rfl) (fun _ => rfl) (fun _ => rfl) (fun _ => rfl) rfl rfl rfl rfl (hl.1) rfl (Nat.le_of_ble_eq_true rfl) dX11_as_49 ⟨Nat.zero_le _, Nat.zero_le _⟩ (fun r19 σ18 H locs hf hP hD hS => ?_)
        obtain ⟨hi1, hi2⟩ := Prod.mk.inj (Option.some.inj hf)
        subst hi1
        subst hi2
        exact hret _ _ _ _ dX11_as_52 rfl hP hS
    · have hf := (if_pos h7).symm.trans hf
      exact Jj2  _ _ _ hP hD hS (lv_sub hl [0] rfl) hf
def pX11_isSheet (a1 : Int32) : Option Int32 := q_cr (pX11_within a1 (0 : Int32) (3 : Int32)) (fun (r1 : Int32) => q_zz r1 (some r1))
abbrev rmX11_isSheet : Room := { frames := 1, cells := 0, slots := 0, locals := 22 }
set_option maxHeartbeats 4000000 in
set_option maxRecDepth 100000 in
theorem kX11_isSheet (l : Launch) (D : va_G) (cI cZ cS : ClassId) (zz : ZT) (a1 : Int32) (rr : Int32) (hf : pX11_isSheet a1 = some rr) : CI l yX11_isSheet wsX11_isSheet rmX11_isSheet D (K3 cI cZ cS) zz [.int a1] [] [] rr := by
  refine q_ofI (cc := cX11_isSheet) (maxL := 1) (ty := .boolean) (by decide) rfl (Nat.le_of_ble_eq_true rfl) ?_
  intro p e s m below meth c Q A ls hx hb hml hown hts hK hZ hA hP hD hS hl hret
  have hl : lv_has ls 1 [(0, .int a1)] := hl
  unfold pX11_isSheet at hf
  refine lv_iload_n hx hb dX11_isSheet_0 rfl (lv_at hl 0 rfl) ?_
  refine lv_iconst (v := 0) hx hb dX11_isSheet_1 (by decide) ?_
  refine lv_iconst (v := 3) hx hb dX11_isSheet_2 (by decide) ?_
  refine q_cSr (wf := (fun (_ : SS) => ([] : va_W))) (σ := q_s0) (rest := []) ⟨hx, hb, hml, hown, hts⟩ hK hZ hA hP hD hS hf (fun x ho => kX11_within l D cI cZ cS zz a1 (0 : Int32) (3 : Int32) x ho) (va_cwS 3 hts gX11_isSheet_X11_within rfl rfl rfl ndX11_within.2 ⟨Nat.le_of_ble_eq_true rfl, Nat.le_of_ble_eq_true rfl⟩) rfl (hl.1) rfl (Nat.le_of_ble_eq_true rfl) dX11_isSheet_3 ⟨Nat.zero_le _, Nat.zero_le _⟩ (fun r1 H locs hf hP hD hS => ?_)
  obtain ⟨hz, hf⟩ := q_zz_o hf
  have hi1 := Option.some.inj hf
  subst hi1
  exact hret _ _ _ _ dX11_isSheet_6 (q_zz_n hz).1 hP hS
def pX11_sheet (σ : SS) (a1 : Int32) (a2 : Int32) (a3 : Int32) : Option (Int32 × SS) := q_cr (pX11_isSheet a1) (fun (r1 : Int32) => q_lt (q_ci (pX11_tell σ (-1000001 : Int32)) (fun (τ : SS) => τ) (fun (r4 : Int32) (σ3 : SS) => some (r4, σ3))) (fun j2 => (if r1 = (0 : Int32) then j2 else q_lt ((if (0 : Int32) ≤ a3 then (if a3 ≤ (40 : Int32) then (if a1 = (0 : Int32) then q_cs (pX6_layOut (q_sb σ 44) a2 a3) (fun (τ : SS) => (q_em σ 44 0 2 τ)) (fun (σ10 : SS) => some ((σ10 44 1), σ10)) else (if a1 = (1 : Int32) then q_cs (pX6_layOut (q_sb σ 46) a2 a3) (fun (τ : SS) => (q_em σ 46 0 2 τ)) (fun (σ12 : SS) => some ((σ12 46 1), σ12)) else (if a1 = (2 : Int32) then q_cs (pX6_layOut (q_sb σ 48) a2 a3) (fun (τ : SS) => (q_em σ 48 0 2 τ)) (fun (σ14 : SS) => some ((σ14 48 1), σ14)) else (if a1 = (3 : Int32) then q_cs (pX6_layOut (q_sb σ 50) a2 a3) (fun (τ : SS) => (q_em σ 50 0 2 τ)) (fun (σ16 : SS) => some ((σ16 50 1), σ16)) else none)))) else q_ci (pX11_tell σ (-1000001 : Int32)) (fun (τ : SS) => τ) (fun (r18 : Int32) (σ17 : SS) => some (r18, σ17))) else q_ci (pX11_tell σ (-1000007 : Int32)) (fun (τ : SS) => τ) (fun (r20 : Int32) (σ19 : SS) => some (r20, σ19)))) (fun j6 => (if a2 = (0 : Int32) then j6 else (if a2 = (8 : Int32) then j6 else (if a2 = (16 : Int32) then j6 else (if a2 = (32 : Int32) then j6 else j2))))))))
theorem fwX11_sheet_X11 : ∀ w ∈ wsX110, w ∈ wsX11_sheet := fun _ h => List.mem_cons_of_mem _ (List.mem_append_left _ (List.mem_append_right _ h))
theorem fwX11_sheet_X6 : ∀ w ∈ wsX60, w ∈ wsX11_sheet := fun _ h => List.mem_cons_of_mem _ (List.mem_append_right _ h)
abbrev rmX11_sheet : Room := { frames := 2, cells := 0, slots := 0, locals := 45 }
set_option maxHeartbeats 4000000 in
set_option maxRecDepth 100000 in
theorem kX11_sheet (l : Launch) (D : va_G) (cI cZ cS : ClassId) (zz : ZT) (ad : Nat → Nat) (σ : SS) (a1 : Int32) (a2 : Int32) (a3 : Int32) (rr : Int32) (σr : SS) (hf : pX11_sheet σ a1 a2 a3 = some (rr, σr)) : CI l yX11_sheet wsX11_sheet rmX11_sheet D (K3 cI cZ cS) zz [.ref (ad 0), .int a1, .int a2, .int a3] (wX11 cI cZ cS ad σ) (wX11 cI cZ cS ad σr) rr := by
  refine q_ofI (cc := cX11_sheet) (maxL := 4) (ty := .int) (by decide) rfl (Nat.le_of_ble_eq_true rfl) ?_
  intro p e s m below meth c Q A ls hx hb hml hown hts hK hZ hA hP hD hS hl hret
  have hl : lv_has ls 4 [(0, .ref (ad 0)), (1, .int a1), (2, .int a2), (3, .int a3)] := hl
  unfold pX11_sheet at hf
  refine lv_iload_n hx hb dX11_sheet_0 rfl (lv_at hl 1 rfl) ?_
  refine q_cSr (wf := (wX11 cI cZ cS ad)) (rest := []) ⟨hx, hb, hml, hown, hts⟩ hK hZ hA hP hD hS hf (fun x ho => kX11_isSheet l D cI cZ cS zz a1 x ho) (va_cwS 1 hts gX11_sheet_X11_isSheet rfl rfl rfl ndX11_isSheet.2 ⟨Nat.le_of_ble_eq_true rfl, Nat.le_of_ble_eq_true rfl⟩) rfl (hl.1) rfl (Nat.le_of_ble_eq_true rfl) dX11_sheet_1 ⟨Nat.zero_le _, Nat.zero_le _⟩ (fun r1 H locs hf hP hD hS => ?_)
  refine q_lt_go hf (fun j2 ej2 hf => ?_)
  have Jj2 : ∀ (H : Heap) (locs : List Loc) (ls : Array Slot), va_P D vwCl ((wX11 cI cZ cS ad) σ) H → va_D A ((wX11 cI cZ cS ad) σ) → va_S A s.heap H locs → lv_has ls 4 [(0, .ref (ad 0))] → j2 = some (rr, σr) → W p l e rmX11_sheet s m ([.ref (ad 0), .int a1, .int a2, .int a3] : List Value).toArray below meth c H locs 0 0 Q (F0 m 29 ls []) := by
    intro  H locs ls hP hD hS hl hf
    have hf := ej2.symm.trans hf
    refine lv_aload_n hx hb dX11_sheet_29 rfl (lv_at hl 0 rfl) ?_
    refine lv_ldc (v := -1000001) hx hb hown (hts _ (List.mem_of_getElem? (i := 1) rfl)) dX11_sheet_30 ?_
    refine q_cVi (wf := (wX11 cI cZ cS ad)) (wc := wX11 cI cZ cS ad) (rest := []) ⟨hx, hb, hml, hown, hts⟩ hK hZ hA hP hD hS hf (fun x τ ho => kX11_tell l D cI cZ cS zz ad σ (-1000001 : Int32) x τ ho) (cwV 1 hts gX11_sheet_X11_tell rfl rfl rfl ndX11_tell ⟨Nat.le_of_ble_eq_true rfl, Nat.le_of_ble_eq_true rfl⟩) [0, 1, 2, 3, 4, 5, 6, 7, 8, 9, 10, 11, 12, 13, 14, 15, 16, 17, 18, 19, 20, 21, 22, 23, 24, 25, 26, 27, 28, 29, 30, 31, 32, 33, 34, 35, 36, 37, 38, 39, 40, 41, 42, 43, 44, 45, 46, 47, 48, 49, 50, 51, 52, 53, 54, 55, 56, 57, 58, 59, 60, 61, 62, 63, 64, 65, 66, 67, 68, 69, 70, 71] rfl rfl [some 0, some 1, some 2, some 3, some 4, some 5, some 6, some 7, some 8, some 9, some 10, some 11, some 12, some 13, some 14, some 15, some 16, some 17, some 18, some 19, some 20, some 21, some 22, some 23, some 24, some 25, some 26, some 27, some 28, some 29, some 30, some 31, some 32, some 33, some 34, some 35, some 36, some 37, some 38, some 39, some 40, some 41, some 42, some 43, some 44, some 45, some 46, some 47, some 48, some 49, some 50, some 51, some 52, some 53, some 54, some 55, some 56, some 57, some 58, some 59, some 60, some 61, some 62, some 63, some 64, some 65, some 66, some 67, some 68, some 69, some 70, some 71] (by decide +kernel) (Nat.le_of_ble_eq_true rfl) (fun _ => rfl) (fun _ => rfl) (fun _ => rfl) rfl rfl rfl rfl (hl.1) rfl (Nat.le_of_ble_eq_true rfl) dX11_sheet_32 ⟨Nat.zero_le _, Nat.zero_le _⟩ (fun r4 σ3 H locs hf hP hD hS => ?_)
    obtain ⟨hi1, hi2⟩ := Prod.mk.inj (Option.some.inj hf)
    subst hi1
    subst hi2
    exact hret _ _ _ _ dX11_sheet_35 rfl hP hS
  refine lv_if_eq (tgt := 29) hx hb dX11_sheet_4 (by decide) (fun h5 => ?_) (fun h5 => ?_)
  · have hf := (if_pos h5).symm.trans hf
    exact Jj2  _ _ _ hP hD hS (lv_sub hl [0] rfl) hf
  · have hf := (if_neg h5).symm.trans hf
    refine lv_iload_n hx hb dX11_sheet_7 rfl (lv_at hl 2 rfl) ?_
    refine q_lt_go hf (fun j6 ej6 hf => ?_)
    have Jj6 : ∀ (H : Heap) (locs : List Loc) (ls : Array Slot), va_P D vwCl ((wX11 cI cZ cS ad) σ) H → va_D A ((wX11 cI cZ cS ad) σ) → va_S A s.heap H locs → lv_has ls 4 [(0, .ref (ad 0)), (1, .int a1), (2, .int a2), (3, .int a3)] → j6 = some (rr, σr) → W p l e rmX11_sheet s m ([.ref (ad 0), .int a1, .int a2, .int a3] : List Value).toArray below meth c H locs 0 0 Q (F0 m 36 ls []) := by
      intro  H locs ls hP hD hS hl hf
      have hf := ej6.symm.trans hf
      refine lv_iload_n hx hb dX11_sheet_36 rfl (lv_at hl 3 rfl) ?_
      refine lv_if_ge (tgt := 48) hx hb dX11_sheet_37 (by decide) (fun h7 => ?_) (fun h7 => ?_)
      · have hf := (if_pos h7).symm.trans hf
        refine lv_iload_n hx hb dX11_sheet_48 rfl (lv_at hl 3 rfl) ?_
        refine lv_bipush (v := 40) hx hb dX11_sheet_49 (by decide) ?_
        refine lv_icmp_le (tgt := 61) hx hb dX11_sheet_51 (by decide) (fun h8 => ?_) (fun h8 => ?_)
        · have hf := (if_pos h8).symm.trans hf
          refine lv_aload_n hx hb dX11_sheet_61 rfl (lv_at hl 0 rfl) ?_
          refine va_get (D := D) (ci := 11) (C := RX11) (T := TX11) (N := 9) hx hb hts fwX11_sheet_X11 hown hK hP 0 rfl rfl 6 (by decide) (hts _ (List.mem_of_getElem? (i := 3) rfl)) (fun _ h9 => h9) rfl dX11_sheet_62 ?_
          refine lv_iload_n hx hb dX11_sheet_65 rfl (lv_at hl 1 rfl) ?_
          by_cases h9 : a1 = (0 : Int32)
          · have hfh9 := (if_pos h9).symm.trans hf
            have hlh9 := hl
            subst h9
            have hf := hfh9
            have hl : lv_has ls 4 [(0, .ref (ad 0)), (1, .int (0 : Int32)), (2, .int a2), (3, .int a3)] := hlh9
            refine va_aldq hx hb hK hP 43 2 rfl rfl (vp_in_iff.mpr (by decide)) dX11_sheet_66 ?_
            refine W.eq (g2 := F0 m 67 ls [.ref (ad 44)]) rfl ?_
            refine lv_iload_n hx hb dX11_sheet_67 rfl (lv_at hl 2 rfl) ?_
            refine lv_iload_n hx hb dX11_sheet_68 rfl (lv_at hl 3 rfl) ?_
            refine q_cVv (wf := (wX11 cI cZ cS ad)) (wc := wX6 cI cZ cS (fun i => ad (44 + i))) (rest := []) ⟨hx, hb, hml, hown, hts⟩ hK hZ hA hP hD hS hf (fun x ho => kX6_layOut l D cI cZ cS zz (fun i => ad (44 + i)) (q_sb σ 44) a2 a3 x ho) (cwV 2 hts gX11_sheet_X6_layOut rfl rfl rfl ndX6_layOut ⟨Nat.le_of_ble_eq_true rfl, Nat.le_of_ble_eq_true rfl⟩) [44, 45] rfl rfl [none, none, none, none, none, none, none, none, none, none, none, none, none, none, none, none, none, none, none, none, none, none, none, none, none, none, none, none, none, none, none, none, none, none, none, none, none, none, none, none, none, none, none, none, some 0, some 1, none, none, none, none, none, none, none, none, none, none, none, none, none, none, none, none, none, none, none, none, none, none, none, none, none, none] (by decide +kernel) (Nat.le_of_ble_eq_true rfl) (fun _ => rfl) (fun _ => rfl) (fun _ => rfl) rfl rfl rfl rfl (hl.1) rfl (Nat.le_of_ble_eq_true rfl) dX11_sheet_69 ⟨Nat.zero_le _, Nat.zero_le _⟩ (fun σ10 H locs hf hP hD hS => ?_)
            refine lv_aload_n hx hb dX11_sheet_72 rfl (lv_at hl 0 rfl) ?_
            refine va_get (D := D) (ci := 11) (C := RX11) (T := TX11) (N := 9) hx hb hts fwX11_sheet_X11 hown hK hP 0 rfl rfl 6 (by decide) (hts _ (List.mem_of_getElem? (i := 3) rfl)) (fun _ h9 => h9) rfl dX11_sheet_73 ?_
            refine lv_iload_n hx hb dX11_sheet_76 rfl (lv_at hl 1 rfl) ?_
            refine va_aldq hx hb hK hP 43 2 rfl rfl (vp_in_iff.mpr (by decide)) dX11_sheet_77 ?_
            refine W.eq (g2 := F0 m 78 ls [.ref (ad 44)]) rfl ?_
            refine va_get (D := D) (ci := 6) (C := RX6) (T := TX6) (N := 3) hx hb hts fwX11_sheet_X6 hown hK hP 44 rfl rfl 1 (by decide) (hts _ (List.mem_of_getElem? (i := 4) rfl)) (fun _ h9 => h9) rfl dX11_sheet_78 ?_
            obtain ⟨hi1, hi2⟩ := Prod.mk.inj (Option.some.inj hf)
            subst hi1
            subst hi2
            exact hret _ _ _ _ dX11_sheet_81 rfl hP hS
          have hf := (if_neg h9).symm.trans hf
          by_cases h11 : a1 = (1 : Int32)
          · have hfh11 := (if_pos h11).symm.trans hf
            have hlh11 := hl
            subst h11
            have hf := hfh11
            have hl : lv_has ls 4 [(0, .ref (ad 0)), (1, .int (1 : Int32)), (2, .int a2), (3, .int a3)] := hlh11
            refine va_aldq hx hb hK hP 43 2 rfl rfl (vp_in_iff.mpr (by decide)) dX11_sheet_66 ?_
            refine W.eq (g2 := F0 m 67 ls [.ref (ad 46)]) rfl ?_
            refine lv_iload_n hx hb dX11_sheet_67 rfl (lv_at hl 2 rfl) ?_
            refine lv_iload_n hx hb dX11_sheet_68 rfl (lv_at hl 3 rfl) ?_
            refine q_cVv (wf := (wX11 cI cZ cS ad)) (wc := wX6 cI cZ cS (fun i => ad (46 + i))) (rest := []) ⟨hx, hb, hml, hown, hts⟩ hK hZ hA hP hD hS hf (fun x ho => kX6_layOut l D cI cZ cS zz (fun i => ad (46 + i)) (q_sb σ 46) a2 a3 x ho) (cwV 2 hts gX11_sheet_X6_layOut rfl rfl rfl ndX6_layOut ⟨Nat.le_of_ble_eq_true rfl, Nat.le_of_ble_eq_true rfl⟩) [46, 47] rfl rfl [none, none, none, none, none, none, none, none, none, none, none, none, none, none, none, none, none, none, none, none, none, none, none, none, none, none, none, none, none, none, none, none, none, none, none, none, none, none, none, none, none, none, none, none, none, none, some 0, some 1, none, none, none, none, none, none, none, none, none, none, none, none, none, none, none, none, none, none, none, none, none, none, none, none] (by decide +kernel) (Nat.le_of_ble_eq_true rfl) (fun _ => rfl) (fun _ => rfl) (fun _ => rfl) rfl rfl rfl rfl (hl.1) rfl (Nat.le_of_ble_eq_true rfl) dX11_sheet_69 ⟨Nat.zero_le _, Nat.zero_le _⟩ (fun σ12 H locs hf hP hD hS => ?_)
            refine lv_aload_n hx hb dX11_sheet_72 rfl (lv_at hl 0 rfl) ?_
            refine va_get (D := D) (ci := 11) (C := RX11) (T := TX11) (N := 9) hx hb hts fwX11_sheet_X11 hown hK hP 0 rfl rfl 6 (by decide) (hts _ (List.mem_of_getElem? (i := 3) rfl)) (fun _ h9 => h9) rfl dX11_sheet_73 ?_
            refine lv_iload_n hx hb dX11_sheet_76 rfl (lv_at hl 1 rfl) ?_
            refine va_aldq hx hb hK hP 43 2 rfl rfl (vp_in_iff.mpr (by decide)) dX11_sheet_77 ?_
            refine W.eq (g2 := F0 m 78 ls [.ref (ad 46)]) rfl ?_
            refine va_get (D := D) (ci := 6) (C := RX6) (T := TX6) (N := 3) hx hb hts fwX11_sheet_X6 hown hK hP 46 rfl rfl 1 (by decide) (hts _ (List.mem_of_getElem? (i := 4) rfl)) (fun _ h9 => h9) rfl dX11_sheet_78 ?_
            obtain ⟨hi1, hi2⟩ := Prod.mk.inj (Option.some.inj hf)
            subst hi1
            subst hi2
            exact hret _ _ _ _ dX11_sheet_81 rfl hP hS
          have hf := (if_neg h11).symm.trans hf
          by_cases h13 : a1 = (2 : Int32)
          · have hfh13 := (if_pos h13).symm.trans hf
            have hlh13 := hl
            subst h13
            have hf := hfh13
            have hl : lv_has ls 4 [(0, .ref (ad 0)), (1, .int (2 : Int32)), (2, .int a2), (3, .int a3)] := hlh13
            refine va_aldq hx hb hK hP 43 2 rfl rfl (vp_in_iff.mpr (by decide)) dX11_sheet_66 ?_
            refine W.eq (g2 := F0 m 67 ls [.ref (ad 48)]) rfl ?_
            refine lv_iload_n hx hb dX11_sheet_67 rfl (lv_at hl 2 rfl) ?_
            refine lv_iload_n hx hb dX11_sheet_68 rfl (lv_at hl 3 rfl) ?_
            refine q_cVv (wf := (wX11 cI cZ cS ad)) (wc := wX6 cI cZ cS (fun i => ad (48 + i))) (rest := []) ⟨hx, hb, hml, hown, hts⟩ hK hZ hA hP hD hS hf (fun x ho => kX6_layOut l D cI cZ cS zz (fun i => ad (48 + i)) (q_sb σ 48) a2 a3 x ho) (cwV 2 hts gX11_sheet_X6_layOut rfl rfl rfl ndX6_layOut ⟨Nat.le_of_ble_eq_true rfl, Nat.le_of_ble_eq_true rfl⟩) [48, 49] rfl rfl [none, none, none, none, none, none, none, none, none, none, none, none, none, none, none, none, none, none, none, none, none, none, none, none, none, none, none, none, none, none, none, none, none, none, none, none, none, none, none, none, none, none, none, none, none, none, none, none, some 0, some 1, none, none, none, none, none, none, none, none, none, none, none, none, none, none, none, none, none, none, none, none, none, none] (by decide +kernel) (Nat.le_of_ble_eq_true rfl) (fun _ => rfl) (fun _ => rfl) (fun _ => rfl) rfl rfl rfl rfl (hl.1) rfl (Nat.le_of_ble_eq_true rfl) dX11_sheet_69 ⟨Nat.zero_le _, Nat.zero_le _⟩ (fun σ14 H locs hf hP hD hS => ?_)
            refine lv_aload_n hx hb dX11_sheet_72 rfl (lv_at hl 0 rfl) ?_
            refine va_get (D := D) (ci := 11) (C := RX11) (T := TX11) (N := 9) hx hb hts fwX11_sheet_X11 hown hK hP 0 rfl rfl 6 (by decide) (hts _ (List.mem_of_getElem? (i := 3) rfl)) (fun _ h9 => h9) rfl dX11_sheet_73 ?_
            refine lv_iload_n hx hb dX11_sheet_76 rfl (lv_at hl 1 rfl) ?_
            refine va_aldq hx hb hK hP 43 2 rfl rfl (vp_in_iff.mpr (by decide)) dX11_sheet_77 ?_
            refine W.eq (g2 := F0 m 78 ls [.ref (ad 48)]) rfl ?_
            refine va_get (D := D) (ci := 6) (C := RX6) (T := TX6) (N := 3) hx hb hts fwX11_sheet_X6 hown hK hP 48 rfl rfl 1 (by decide) (hts _ (List.mem_of_getElem? (i := 4) rfl)) (fun _ h9 => h9) rfl dX11_sheet_78 ?_
            obtain ⟨hi1, hi2⟩ := Prod.mk.inj (Option.some.inj hf)
            subst hi1
            subst hi2
            exact hret _ _ _ _ dX11_sheet_81 rfl hP hS
          have hf := (if_neg h13).symm.trans hf
          by_cases h15 : a1 = (3 : Int32)
          · have hfh15 := (if_pos h15).symm.trans hf
            have hlh15 := hl
            subst h15
            have hf := hfh15
            have hl : lv_has ls 4 [(0, .ref (ad 0)), (1, .int (3 : Int32)), (2, .int a2), (3, .int a3)] := hlh15
            refine va_aldq hx hb hK hP 43 2 rfl rfl (vp_in_iff.mpr (by decide)) dX11_sheet_66 ?_
            refine W.eq (g2 := F0 m 67 ls [.ref (ad 50)]) rfl ?_
            refine lv_iload_n hx hb dX11_sheet_67 rfl (lv_at hl 2 rfl) ?_
            refine lv_iload_n hx hb dX11_sheet_68 rfl (lv_at hl 3 rfl) ?_
            refine q_cVv (wf := (wX11 cI cZ cS ad)) (wc := wX6 cI cZ cS (fun i => ad (50 + i))) (rest := []) ⟨hx, hb, hml, hown, hts⟩ hK hZ hA hP hD hS hf (fun x ho => kX6_layOut l D cI cZ cS zz (fun i => ad (50 + i)) (q_sb σ 50) a2 a3 x ho) (cwV 2 hts gX11_sheet_X6_layOut rfl rfl rfl ndX6_layOut ⟨Nat.le_of_ble_eq_true rfl, Nat.le_of_ble_eq_true rfl⟩) [50, 51] rfl rfl [none, none, none, none, none, none, none, none, none, none, none, none, none, none, none, none, none, none, none, none, none, none, none, none, none, none, none, none, none, none, none, none, none, none, none, none, none, none, none, none, none, none, none, none, none, none, none, none, none, none, some 0, some 1, none, none, none, none, none, none, none, none, none, none, none, none, none, none, none, none, none, none, none, none] (by decide +kernel) (Nat.le_of_ble_eq_true rfl) (fun _ => rfl) (fun _ => rfl) (fun _ => rfl) rfl rfl rfl rfl (hl.1) rfl (Nat.le_of_ble_eq_true rfl) dX11_sheet_69 ⟨Nat.zero_le _, Nat.zero_le _⟩ (fun σ16 H locs hf hP hD hS => ?_)
            refine lv_aload_n hx hb dX11_sheet_72 rfl (lv_at hl 0 rfl) ?_
            refine va_get (D := D) (ci := 11) (C := RX11) (T := TX11) (N := 9) hx hb hts fwX11_sheet_X11 hown hK hP 0 rfl rfl 6 (by decide) (hts _ (List.mem_of_getElem? (i := 3) rfl)) (fun _ h9 => h9) rfl dX11_sheet_73 ?_
            refine lv_iload_n hx hb dX11_sheet_76 rfl (lv_at hl 1 rfl) ?_
            refine va_aldq hx hb hK hP 43 2 rfl rfl (vp_in_iff.mpr (by decide)) dX11_sheet_77 ?_
            refine W.eq (g2 := F0 m 78 ls [.ref (ad 50)]) rfl ?_
            refine va_get (D := D) (ci := 6) (C := RX6) (T := TX6) (N := 3) hx hb hts fwX11_sheet_X6 hown hK hP 50 rfl rfl 1 (by decide) (hts _ (List.mem_of_getElem? (i := 4) rfl)) (fun _ h9 => h9) rfl dX11_sheet_78 ?_
            obtain ⟨hi1, hi2⟩ := Prod.mk.inj (Option.some.inj hf)
            subst hi1
            subst hi2
            exact hret _ _ _ _ dX11_sheet_81 rfl hP hS
          have hf := (if_neg h15).symm.trans hf
          exact q_no hf
        · have hf := (if_neg h8).symm.trans hf
          refine lv_aload_n hx hb dX11_sheet_54 rfl (lv_at hl 0 rfl) ?_
          refine lv_ldc (v := -1000001) hx hb hown (hts _ (List.mem_of_getElem? (i := 1) rfl)) dX11_sheet_55 ?_
          refine q_cVi (wf := (wX11 cI cZ cS ad)) (wc := wX11 cI cZ cS ad) (rest := []) ⟨hx, hb, hml, hown, hts⟩ hK hZ hA hP hD hS hf (fun x τ ho => kX11_tell l D cI cZ cS zz ad σ (-1000001 : Int32) x τ ho) (cwV 1 hts gX11_sheet_X11_tell rfl rfl rfl ndX11_tell ⟨Nat.le_of_ble_eq_true rfl, Nat.le_of_ble_eq_true rfl⟩) [0, 1, 2, 3, 4, 5, 6, 7, 8, 9, 10, 11, 12, 13, 14, 15, 16, 17, 18, 19, 20, 21, 22, 23, 24, 25, 26, 27, 28, 29, 30, 31, 32, 33, 34, 35, 36, 37, 38, 39, 40, 41, 42, 43, 44, 45, 46, 47, 48, 49, 50, 51, 52, 53, 54, 55, 56, 57, 58, 59, 60, 61, 62, 63, 64, 65, 66, 67, 68, 69, 70, 71] rfl rfl [some 0, some 1, some 2, some 3, some 4, some 5, some 6, some 7, some 8, some 9, some 10, some 11, some 12, some 13, some 14, some 15, some 16, some 17, some 18, some 19, some 20, some 21, some 22, some 23, some 24, some 25, some 26, some 27, some 28, some 29, some 30, some 31, some 32, some 33, some 34, some 35, some 36, some 37, some 38, some 39, some 40, some 41, some 42, some 43, some 44, some 45, some 46, some 47, some 48, some 49, some 50, some 51, some 52, some 53, some 54, some 55, some 56, some 57, some 58, some 59, some 60, some 61, some 62, some 63, some 64, some 65, some 66, some 67, some 68, some 69, some 70, some 71] (by decide +kernel) (Nat.le_of_ble_eq_true rfl) (fun _ => rfl) (fun _ => rfl) (fun _ => rfl) rfl rfl rfl rfl (hl.1) rfl (Nat.le_of_ble_eq_true rfl) dX11_sheet_57 ⟨Nat.zero_le _, Nat.zero_le _⟩ (fun r18 σ17 H locs hf hP hD hS => ?_)
          obtain ⟨hi1, hi2⟩ := Prod.mk.inj (Option.some.inj hf)
          subst hi1
          subst hi2
          exact hret _ _ _ _ dX11_sheet_60 rfl hP hS
      · have hf := (if_neg h7).symm.trans hf
        refine lv_aload_n hx hb dX11_sheet_40 rfl (lv_at hl 0 rfl) ?_
        refine lv_ldcw (v := -1000007) hx hb hown (hts _ (List.mem_of_getElem? (i := 2) rfl)) dX11_sheet_41 ?_
        refine q_cVi (wf := (wX11 cI cZ cS ad)) (wc := wX11 cI cZ cS ad) (rest := []) ⟨hx, hb, hml, hown, hts⟩ hK hZ hA hP hD hS hf (fun x τ ho => kX11_tell l D cI cZ cS zz ad σ (-1000007 : Int32) x τ ho) (cwV 1 hts gX11_sheet_X11_tell rfl rfl rfl ndX11_tell ⟨Nat.le_of_ble_eq_true rfl, Nat.le_of_ble_eq_true rfl⟩) [0, 1, 2, 3, 4, 5, 6, 7, 8, 9, 10, 11, 12, 13, 14, 15, 16, 17, 18, 19, 20, 21, 22, 23, 24, 25, 26, 27, 28, 29, 30, 31, 32, 33, 34, 35, 36, 37, 38, 39, 40, 41, 42, 43, 44, 45, 46, 47, 48, 49, 50, 51, 52, 53, 54, 55, 56, 57, 58, 59, 60, 61, 62, 63, 64, 65, 66, 67, 68, 69, 70, 71] rfl rfl [some 0, some 1, some 2, some 3, some 4, some 5, some 6, some 7, some 8, some 9, some 10, some 11, some 12, some 13, some 14, some 15, some 16, some 17, some 18, some 19, some 20, some 21, some 22, some 23, some 24, some 25, some 26, some 27, some 28, some 29, some 30, some 31, some 32, some 33, some 34, some 35, some 36, some 37, some 38, some 39, some 40, some 41, some 42, some 43, some 44, some 45, some 46, some 47, some 48, some 49, some 50, some 51, some 52, some 53, some 54, some 55, some 56, some 57, some 58, some 59, some 60, some 61, some 62, some 63, some 64, some 65, some 66, some 67, some 68, some 69, some 70, some 71] (by decide +kernel) (Nat.le_of_ble_eq_true rfl) (fun _ => rfl) (fun _ => rfl) (fun _ => rfl) rfl rfl rfl rfl (hl.1) rfl (Nat.le_of_ble_eq_true rfl) dX11_sheet_44 ⟨Nat.zero_le _, Nat.zero_le _⟩ (fun r20 σ19 H locs hf hP hD hS => ?_)
        obtain ⟨hi1, hi2⟩ := Prod.mk.inj (Option.some.inj hf)
        subst hi1
        subst hi2
        exact hret _ _ _ _ dX11_sheet_47 rfl hP hS
    refine lv_if_eq (tgt := 36) hx hb dX11_sheet_8 (by decide) (fun h21 => ?_) (fun h21 => ?_)
    · have hf := (if_pos h21).symm.trans hf
      exact Jj6  _ _ _ hP hD hS (lv_sub hl [0, 1, 2, 3] rfl) hf
    · have hf := (if_neg h21).symm.trans hf
      refine lv_iload_n hx hb dX11_sheet_11 rfl (lv_at hl 2 rfl) ?_
      refine lv_bipush (v := 8) hx hb dX11_sheet_12 (by decide) ?_
      refine lv_icmp_eq (tgt := 36) hx hb dX11_sheet_14 (by decide) (fun h22 => ?_) (fun h22 => ?_)
      · have hf := (if_pos h22).symm.trans hf
        exact Jj6  _ _ _ hP hD hS (lv_sub hl [0, 1, 2, 3] rfl) hf
      · have hf := (if_neg h22).symm.trans hf
        refine lv_iload_n hx hb dX11_sheet_17 rfl (lv_at hl 2 rfl) ?_
        refine lv_bipush (v := 16) hx hb dX11_sheet_18 (by decide) ?_
        refine lv_icmp_eq (tgt := 36) hx hb dX11_sheet_20 (by decide) (fun h23 => ?_) (fun h23 => ?_)
        · have hf := (if_pos h23).symm.trans hf
          exact Jj6  _ _ _ hP hD hS (lv_sub hl [0, 1, 2, 3] rfl) hf
        · have hf := (if_neg h23).symm.trans hf
          refine lv_iload_n hx hb dX11_sheet_23 rfl (lv_at hl 2 rfl) ?_
          refine lv_bipush (v := 32) hx hb dX11_sheet_24 (by decide) ?_
          refine lv_icmp_eq (tgt := 36) hx hb dX11_sheet_26 (by decide) (fun h24 => ?_) (fun h24 => ?_)
          · have hf := (if_pos h24).symm.trans hf
            exact Jj6  _ _ _ hP hD hS (lv_sub hl [0, 1, 2, 3] rfl) hf
          · have hf := (if_neg h24).symm.trans hf
            exact Jj2  _ _ _ hP hD hS (lv_sub hl [0] rfl) hf
def pX11_write (σ : SS) (a1 : Int32) (a2 : Int32) (a3 : Int32) : Option (Int32 × SS) := q_cr (pX11_isSheet a1) (fun (r1 : Int32) => (if r1 = (0 : Int32) then q_ci (pX11_tell σ (-1000001 : Int32)) (fun (τ : SS) => τ) (fun (r44 : Int32) (σ43 : SS) => some (r44, σ43)) else (if a1 = (0 : Int32) then q_cr (pX6_isMissing (q_sb σ 44)) (fun (r4 : Int32) => (if r4 = (0 : Int32) then q_cr (pX11_within a2 (0 : Int32) ((σ 44 1) - (1 : Int32))) (fun (r6 : Int32) => (if r6 = (0 : Int32) then q_ci (pX11_tell σ (-1000001 : Int32)) (fun (τ : SS) => τ) (fun (r10 : Int32) (σ9 : SS) => some (r10, σ9)) else q_cs (pX6_put (q_sb σ 44) a2 a3) (fun (τ : SS) => (q_em σ 44 0 2 τ)) (fun (σ8 : SS) => some ((1 : Int32), σ8)))) else q_ci (pX11_tell σ (-1000006 : Int32)) (fun (τ : SS) => τ) (fun (r12 : Int32) (σ11 : SS) => some (r12, σ11)))) else (if a1 = (1 : Int32) then q_cr (pX6_isMissing (q_sb σ 46)) (fun (r14 : Int32) => (if r14 = (0 : Int32) then q_cr (pX11_within a2 (0 : Int32) ((σ 46 1) - (1 : Int32))) (fun (r16 : Int32) => (if r16 = (0 : Int32) then q_ci (pX11_tell σ (-1000001 : Int32)) (fun (τ : SS) => τ) (fun (r20 : Int32) (σ19 : SS) => some (r20, σ19)) else q_cs (pX6_put (q_sb σ 46) a2 a3) (fun (τ : SS) => (q_em σ 46 0 2 τ)) (fun (σ18 : SS) => some ((1 : Int32), σ18)))) else q_ci (pX11_tell σ (-1000006 : Int32)) (fun (τ : SS) => τ) (fun (r22 : Int32) (σ21 : SS) => some (r22, σ21)))) else (if a1 = (2 : Int32) then q_cr (pX6_isMissing (q_sb σ 48)) (fun (r24 : Int32) => (if r24 = (0 : Int32) then q_cr (pX11_within a2 (0 : Int32) ((σ 48 1) - (1 : Int32))) (fun (r26 : Int32) => (if r26 = (0 : Int32) then q_ci (pX11_tell σ (-1000001 : Int32)) (fun (τ : SS) => τ) (fun (r30 : Int32) (σ29 : SS) => some (r30, σ29)) else q_cs (pX6_put (q_sb σ 48) a2 a3) (fun (τ : SS) => (q_em σ 48 0 2 τ)) (fun (σ28 : SS) => some ((1 : Int32), σ28)))) else q_ci (pX11_tell σ (-1000006 : Int32)) (fun (τ : SS) => τ) (fun (r32 : Int32) (σ31 : SS) => some (r32, σ31)))) else (if a1 = (3 : Int32) then q_cr (pX6_isMissing (q_sb σ 50)) (fun (r34 : Int32) => (if r34 = (0 : Int32) then q_cr (pX11_within a2 (0 : Int32) ((σ 50 1) - (1 : Int32))) (fun (r36 : Int32) => (if r36 = (0 : Int32) then q_ci (pX11_tell σ (-1000001 : Int32)) (fun (τ : SS) => τ) (fun (r40 : Int32) (σ39 : SS) => some (r40, σ39)) else q_cs (pX6_put (q_sb σ 50) a2 a3) (fun (τ : SS) => (q_em σ 50 0 2 τ)) (fun (σ38 : SS) => some ((1 : Int32), σ38)))) else q_ci (pX11_tell σ (-1000006 : Int32)) (fun (τ : SS) => τ) (fun (r42 : Int32) (σ41 : SS) => some (r42, σ41)))) else none))))))
theorem fwX11_write_X11 : ∀ w ∈ wsX110, w ∈ wsX11_write := fun _ h => List.mem_cons_of_mem _ (List.mem_append_left _ (List.mem_append_right _ h))
theorem fwX11_write_X6 : ∀ w ∈ wsX60, w ∈ wsX11_write := fun _ h => List.mem_cons_of_mem _ (List.mem_append_right _ h)
abbrev rmX11_write : Room := { frames := 2, cells := 0, slots := 0, locals := 42 }
set_option maxHeartbeats 4000000 in
set_option maxRecDepth 100000 in
theorem kX11_write (l : Launch) (D : va_G) (cI cZ cS : ClassId) (zz : ZT) (ad : Nat → Nat) (σ : SS) (a1 : Int32) (a2 : Int32) (a3 : Int32) (rr : Int32) (σr : SS) (hf : pX11_write σ a1 a2 a3 = some (rr, σr)) : CI l yX11_write wsX11_write rmX11_write D (K3 cI cZ cS) zz [.ref (ad 0), .int a1, .int a2, .int a3] (wX11 cI cZ cS ad σ) (wX11 cI cZ cS ad σr) rr := by
  refine q_ofI (cc := cX11_write) (maxL := 4) (ty := .int) (by decide) rfl (Nat.le_of_ble_eq_true rfl) ?_
  intro p e s m below meth c Q A ls hx hb hml hown hts hK hZ hA hP hD hS hl hret
  have hl : lv_has ls 4 [(0, .ref (ad 0)), (1, .int a1), (2, .int a2), (3, .int a3)] := hl
  unfold pX11_write at hf
  refine lv_iload_n hx hb dX11_write_0 rfl (lv_at hl 1 rfl) ?_
  refine q_cSr (wf := (wX11 cI cZ cS ad)) (rest := []) ⟨hx, hb, hml, hown, hts⟩ hK hZ hA hP hD hS hf (fun x ho => kX11_isSheet l D cI cZ cS zz a1 x ho) (va_cwS 1 hts gX11_write_X11_isSheet rfl rfl rfl ndX11_isSheet.2 ⟨Nat.le_of_ble_eq_true rfl, Nat.le_of_ble_eq_true rfl⟩) rfl (hl.1) rfl (Nat.le_of_ble_eq_true rfl) dX11_write_1 ⟨Nat.zero_le _, Nat.zero_le _⟩ (fun r1 H locs hf hP hD hS => ?_)
  refine lv_if_ne (tgt := 14) hx hb dX11_write_4 (by decide) (fun h2 => ?_) (fun h2 => ?_)
  · have hf := (if_neg h2).symm.trans hf
    refine lv_aload_n hx hb dX11_write_14 rfl (lv_at hl 0 rfl) ?_
    refine va_get (D := D) (ci := 11) (C := RX11) (T := TX11) (N := 9) hx hb hts fwX11_write_X11 hown hK hP 0 rfl rfl 6 (by decide) (hts _ (List.mem_of_getElem? (i := 2) rfl)) (fun _ h9 => h9) rfl dX11_write_15 ?_
    refine lv_iload_n hx hb dX11_write_18 rfl (lv_at hl 1 rfl) ?_
    by_cases h3 : a1 = (0 : Int32)
    · have hfh3 := (if_pos h3).symm.trans hf
      have hlh3 := hl
      subst h3
      have hf := hfh3
      have hl : lv_has ls 4 [(0, .ref (ad 0)), (1, .int (0 : Int32)), (2, .int a2), (3, .int a3)] := hlh3
      refine va_aldq hx hb hK hP 43 2 rfl rfl (vp_in_iff.mpr (by decide)) dX11_write_19 ?_
      refine W.eq (g2 := F0 m 20 ls [.ref (ad 44)]) rfl ?_
      refine q_cVr (wf := (wX11 cI cZ cS ad)) (wc := wX6 cI cZ cS (fun i => ad (44 + i))) (rest := []) ⟨hx, hb, hml, hown, hts⟩ hK hZ hA hP hD hS hf (fun x ho => kX6_isMissing l D cI cZ cS zz (fun i => ad (44 + i)) (q_sb σ 44) x ho) (cwV 0 hts gX11_write_X6_isMissing rfl rfl rfl ndX6_isMissing ⟨Nat.le_of_ble_eq_true rfl, Nat.le_of_ble_eq_true rfl⟩) [44, 45] rfl rfl rfl rfl rfl rfl (hl.1) rfl (Nat.le_of_ble_eq_true rfl) dX11_write_20 ⟨Nat.zero_le _, Nat.zero_le _⟩ (fun r4 H locs hf hP hD hS => ?_)
      refine lv_if_eq (tgt := 34) hx hb dX11_write_23 (by decide) (fun h5 => ?_) (fun h5 => ?_)
      · have hf := (if_pos h5).symm.trans hf
        refine lv_iload_n hx hb dX11_write_34 rfl (lv_at hl 2 rfl) ?_
        refine lv_iconst (v := 0) hx hb dX11_write_35 (by decide) ?_
        refine lv_aload_n hx hb dX11_write_36 rfl (lv_at hl 0 rfl) ?_
        refine va_get (D := D) (ci := 11) (C := RX11) (T := TX11) (N := 9) hx hb hts fwX11_write_X11 hown hK hP 0 rfl rfl 6 (by decide) (hts _ (List.mem_of_getElem? (i := 2) rfl)) (fun _ h9 => h9) rfl dX11_write_37 ?_
        refine lv_iload_n hx hb dX11_write_40 rfl (lv_at hl 1 rfl) ?_
        refine va_aldq hx hb hK hP 43 2 rfl rfl (vp_in_iff.mpr (by decide)) dX11_write_41 ?_
        refine W.eq (g2 := F0 m 42 ls [.ref (ad 44), .int (0 : Int32), .int a2]) rfl ?_
        refine va_get (D := D) (ci := 6) (C := RX6) (T := TX6) (N := 3) hx hb hts fwX11_write_X6 hown hK hP 44 rfl rfl 1 (by decide) (hts _ (List.mem_of_getElem? (i := 4) rfl)) (fun _ h9 => h9) rfl dX11_write_42 ?_
        refine lv_iconst (v := 1) hx hb dX11_write_45 (by decide) ?_
        refine lv_isub hx hb dX11_write_46 ?_
        refine q_cSr (wf := (wX11 cI cZ cS ad)) (rest := []) ⟨hx, hb, hml, hown, hts⟩ hK hZ hA hP hD hS hf (fun x ho => kX11_within l D cI cZ cS zz a2 (0 : Int32) ((σ 44 1) - (1 : Int32)) x ho) (va_cwS 3 hts gX11_write_X11_within rfl rfl rfl ndX11_within.2 ⟨Nat.le_of_ble_eq_true rfl, Nat.le_of_ble_eq_true rfl⟩) rfl (hl.1) rfl (Nat.le_of_ble_eq_true rfl) dX11_write_47 ⟨Nat.zero_le _, Nat.zero_le _⟩ (fun r6 H locs hf hP hD hS => ?_)
        refine lv_if_ne (tgt := 60) hx hb dX11_write_50 (by decide) (fun h7 => ?_) (fun h7 => ?_)
        · have hf := (if_neg h7).symm.trans hf
          refine lv_aload_n hx hb dX11_write_60 rfl (lv_at hl 0 rfl) ?_
          refine va_get (D := D) (ci := 11) (C := RX11) (T := TX11) (N := 9) hx hb hts fwX11_write_X11 hown hK hP 0 rfl rfl 6 (by decide) (hts _ (List.mem_of_getElem? (i := 2) rfl)) (fun _ h9 => h9) rfl dX11_write_61 ?_
          refine lv_iload_n hx hb dX11_write_64 rfl (lv_at hl 1 rfl) ?_
          refine va_aldq hx hb hK hP 43 2 rfl rfl (vp_in_iff.mpr (by decide)) dX11_write_65 ?_
          refine W.eq (g2 := F0 m 66 ls [.ref (ad 44)]) rfl ?_
          refine lv_iload_n hx hb dX11_write_66 rfl (lv_at hl 2 rfl) ?_
          refine lv_iload_n hx hb dX11_write_67 rfl (lv_at hl 3 rfl) ?_
          refine q_cVv (wf := (wX11 cI cZ cS ad)) (wc := wX6 cI cZ cS (fun i => ad (44 + i))) (rest := []) ⟨hx, hb, hml, hown, hts⟩ hK hZ hA hP hD hS hf (fun x ho => kX6_put l D cI cZ cS zz (fun i => ad (44 + i)) (q_sb σ 44) a2 a3 x ho) (cwV 2 hts gX11_write_X6_put rfl rfl rfl ndX6_put ⟨Nat.le_of_ble_eq_true rfl, Nat.le_of_ble_eq_true rfl⟩) [44, 45] rfl rfl [none, none, none, none, none, none, none, none, none, none, none, none, none, none, none, none, none, none, none, none, none, none, none, none, none, none, none, none, none, none, none, none, none, none, none, none, none, none, none, none, none, none, none, none, some 0, some 1, none, none, none, none, none, none, none, none, none, none, none, none, none, none, none, none, none, none, none, none, none, none, none, none, none, none] (by decide +kernel) (Nat.le_of_ble_eq_true rfl) (fun _ => rfl) (fun _ => rfl) (fun _ => rfl) rfl rfl rfl rfl (hl.1) rfl (Nat.le_of_ble_eq_true rfl) dX11_write_68 ⟨Nat.zero_le _, Nat.zero_le _⟩ (fun σ8 H locs hf hP hD hS => ?_)
          refine lv_iconst (v := 1) hx hb dX11_write_71 (by decide) ?_
          obtain ⟨hi1, hi2⟩ := Prod.mk.inj (Option.some.inj hf)
          subst hi1
          subst hi2
          exact hret _ _ _ _ dX11_write_72 rfl hP hS
        · have hf := (if_pos h7).symm.trans hf
          refine lv_aload_n hx hb dX11_write_53 rfl (lv_at hl 0 rfl) ?_
          refine lv_ldc (v := -1000001) hx hb hown (hts _ (List.mem_of_getElem? (i := 1) rfl)) dX11_write_54 ?_
          refine q_cVi (wf := (wX11 cI cZ cS ad)) (wc := wX11 cI cZ cS ad) (rest := []) ⟨hx, hb, hml, hown, hts⟩ hK hZ hA hP hD hS hf (fun x τ ho => kX11_tell l D cI cZ cS zz ad σ (-1000001 : Int32) x τ ho) (cwV 1 hts gX11_write_X11_tell rfl rfl rfl ndX11_tell ⟨Nat.le_of_ble_eq_true rfl, Nat.le_of_ble_eq_true rfl⟩) [0, 1, 2, 3, 4, 5, 6, 7, 8, 9, 10, 11, 12, 13, 14, 15, 16, 17, 18, 19, 20, 21, 22, 23, 24, 25, 26, 27, 28, 29, 30, 31, 32, 33, 34, 35, 36, 37, 38, 39, 40, 41, 42, 43, 44, 45, 46, 47, 48, 49, 50, 51, 52, 53, 54, 55, 56, 57, 58, 59, 60, 61, 62, 63, 64, 65, 66, 67, 68, 69, 70, 71] rfl rfl [some 0, some 1, some 2, some 3, some 4, some 5, some 6, some 7, some 8, some 9, some 10, some 11, some 12, some 13, some 14, some 15, some 16, some 17, some 18, some 19, some 20, some 21, some 22, some 23, some 24, some 25, some 26, some 27, some 28, some 29, some 30, some 31, some 32, some 33, some 34, some 35, some 36, some 37, some 38, some 39, some 40, some 41, some 42, some 43, some 44, some 45, some 46, some 47, some 48, some 49, some 50, some 51, some 52, some 53, some 54, some 55, some 56, some 57, some 58, some 59, some 60, some 61, some 62, some 63, some 64, some 65, some 66, some 67, some 68, some 69, some 70, some 71] (by decide +kernel) (Nat.le_of_ble_eq_true rfl) (fun _ => rfl) (fun _ => rfl) (fun _ => rfl) rfl rfl rfl rfl (hl.1) rfl (Nat.le_of_ble_eq_true rfl) dX11_write_56 ⟨Nat.zero_le _, Nat.zero_le _⟩ (fun r10 σ9 H locs hf hP hD hS => ?_)
          obtain ⟨hi1, hi2⟩ := Prod.mk.inj (Option.some.inj hf)
          subst hi1
          subst hi2
          exact hret _ _ _ _ dX11_write_59 rfl hP hS
      · have hf := (if_neg h5).symm.trans hf
        refine lv_aload_n hx hb dX11_write_26 rfl (lv_at hl 0 rfl) ?_
        refine lv_ldcw (v := -1000006) hx hb hown (hts _ (List.mem_of_getElem? (i := 3) rfl)) dX11_write_27 ?_
        refine q_cVi (wf := (wX11 cI cZ cS ad)) (wc := wX11 cI cZ cS ad) (rest := []) ⟨hx, hb, hml, hown, hts⟩ hK hZ hA hP hD hS hf (fun x τ ho => kX11_tell l D cI cZ cS zz ad σ (-1000006 : Int32) x τ ho) (cwV 1 hts gX11_write_X11_tell rfl rfl rfl ndX11_tell ⟨Nat.le_of_ble_eq_true rfl, Nat.le_of_ble_eq_true rfl⟩) [0, 1, 2, 3, 4, 5, 6, 7, 8, 9, 10, 11, 12, 13, 14, 15, 16, 17, 18, 19, 20, 21, 22, 23, 24, 25, 26, 27, 28, 29, 30, 31, 32, 33, 34, 35, 36, 37, 38, 39, 40, 41, 42, 43, 44, 45, 46, 47, 48, 49, 50, 51, 52, 53, 54, 55, 56, 57, 58, 59, 60, 61, 62, 63, 64, 65, 66, 67, 68, 69, 70, 71] rfl rfl [some 0, some 1, some 2, some 3, some 4, some 5, some 6, some 7, some 8, some 9, some 10, some 11, some 12, some 13, some 14, some 15, some 16, some 17, some 18, some 19, some 20, some 21, some 22, some 23, some 24, some 25, some 26, some 27, some 28, some 29, some 30, some 31, some 32, some 33, some 34, some 35, some 36, some 37, some 38, some 39, some 40, some 41, some 42, some 43, some 44, some 45, some 46, some 47, some 48, some 49, some 50, some 51, some 52, some 53, some 54, some 55, some 56, some 57, some 58, some 59, some 60, some 61, some 62, some 63, some 64, some 65, some 66, some 67, some 68, some 69, some 70, some 71] (by decide +kernel) (Nat.le_of_ble_eq_true rfl) (fun _ => rfl) (fun _ => rfl) (fun _ => rfl) rfl rfl rfl rfl (hl.1) rfl (Nat.le_of_ble_eq_true rfl) dX11_write_30 ⟨Nat.zero_le _, Nat.zero_le _⟩ (fun r12 σ11 H locs hf hP hD hS => ?_)
        obtain ⟨hi1, hi2⟩ := Prod.mk.inj (Option.some.inj hf)
        subst hi1
        subst hi2
        exact hret _ _ _ _ dX11_write_33 rfl hP hS
    have hf := (if_neg h3).symm.trans hf
    by_cases h13 : a1 = (1 : Int32)
    · have hfh13 := (if_pos h13).symm.trans hf
      have hlh13 := hl
      subst h13
      have hf := hfh13
      have hl : lv_has ls 4 [(0, .ref (ad 0)), (1, .int (1 : Int32)), (2, .int a2), (3, .int a3)] := hlh13
      refine va_aldq hx hb hK hP 43 2 rfl rfl (vp_in_iff.mpr (by decide)) dX11_write_19 ?_
      refine W.eq (g2 := F0 m 20 ls [.ref (ad 46)]) rfl ?_
      refine q_cVr (wf := (wX11 cI cZ cS ad)) (wc := wX6 cI cZ cS (fun i => ad (46 + i))) (rest := []) ⟨hx, hb, hml, hown, hts⟩ hK hZ hA hP hD hS hf (fun x ho => kX6_isMissing l D cI cZ cS zz (fun i => ad (46 + i)) (q_sb σ 46) x ho) (cwV 0 hts gX11_write_X6_isMissing rfl rfl rfl ndX6_isMissing ⟨Nat.le_of_ble_eq_true rfl, Nat.le_of_ble_eq_true rfl⟩) [46, 47] rfl rfl rfl rfl rfl rfl (hl.1) rfl (Nat.le_of_ble_eq_true rfl) dX11_write_20 ⟨Nat.zero_le _, Nat.zero_le _⟩ (fun r14 H locs hf hP hD hS => ?_)
      refine lv_if_eq (tgt := 34) hx hb dX11_write_23 (by decide) (fun h15 => ?_) (fun h15 => ?_)
      · have hf := (if_pos h15).symm.trans hf
        refine lv_iload_n hx hb dX11_write_34 rfl (lv_at hl 2 rfl) ?_
        refine lv_iconst (v := 0) hx hb dX11_write_35 (by decide) ?_
        refine lv_aload_n hx hb dX11_write_36 rfl (lv_at hl 0 rfl) ?_
        refine va_get (D := D) (ci := 11) (C := RX11) (T := TX11) (N := 9) hx hb hts fwX11_write_X11 hown hK hP 0 rfl rfl 6 (by decide) (hts _ (List.mem_of_getElem? (i := 2) rfl)) (fun _ h9 => h9) rfl dX11_write_37 ?_
        refine lv_iload_n hx hb dX11_write_40 rfl (lv_at hl 1 rfl) ?_
        refine va_aldq hx hb hK hP 43 2 rfl rfl (vp_in_iff.mpr (by decide)) dX11_write_41 ?_
        refine W.eq (g2 := F0 m 42 ls [.ref (ad 46), .int (0 : Int32), .int a2]) rfl ?_
        refine va_get (D := D) (ci := 6) (C := RX6) (T := TX6) (N := 3) hx hb hts fwX11_write_X6 hown hK hP 46 rfl rfl 1 (by decide) (hts _ (List.mem_of_getElem? (i := 4) rfl)) (fun _ h9 => h9) rfl dX11_write_42 ?_
        refine lv_iconst (v := 1) hx hb dX11_write_45 (by decide) ?_
        refine lv_isub hx hb dX11_write_46 ?_
        refine q_cSr (wf := (wX11 cI cZ cS ad)) (rest := []) ⟨hx, hb, hml, hown, hts⟩ hK hZ hA hP hD hS hf (fun x ho => kX11_within l D cI cZ cS zz a2 (0 : Int32) ((σ 46 1) - (1 : Int32)) x ho) (va_cwS 3 hts gX11_write_X11_within rfl rfl rfl ndX11_within.2 ⟨Nat.le_of_ble_eq_true rfl, Nat.le_of_ble_eq_true rfl⟩) rfl (hl.1) rfl (Nat.le_of_ble_eq_true rfl) dX11_write_47 ⟨Nat.zero_le _, Nat.zero_le _⟩ (fun r16 H locs hf hP hD hS => ?_)
        refine lv_if_ne (tgt := 60) hx hb dX11_write_50 (by decide) (fun h17 => ?_) (fun h17 => ?_)
        · have hf := (if_neg h17).symm.trans hf
          refine lv_aload_n hx hb dX11_write_60 rfl (lv_at hl 0 rfl) ?_
          refine va_get (D := D) (ci := 11) (C := RX11) (T := TX11) (N := 9) hx hb hts fwX11_write_X11 hown hK hP 0 rfl rfl 6 (by decide) (hts _ (List.mem_of_getElem? (i := 2) rfl)) (fun _ h9 => h9) rfl dX11_write_61 ?_
          refine lv_iload_n hx hb dX11_write_64 rfl (lv_at hl 1 rfl) ?_
          refine va_aldq hx hb hK hP 43 2 rfl rfl (vp_in_iff.mpr (by decide)) dX11_write_65 ?_
          refine W.eq (g2 := F0 m 66 ls [.ref (ad 46)]) rfl ?_
          refine lv_iload_n hx hb dX11_write_66 rfl (lv_at hl 2 rfl) ?_
          refine lv_iload_n hx hb dX11_write_67 rfl (lv_at hl 3 rfl) ?_
          refine q_cVv (wf := (wX11 cI cZ cS ad)) (wc := wX6 cI cZ cS (fun i => ad (46 + i))) (rest := []) ⟨hx, hb, hml, hown, hts⟩ hK hZ hA hP hD hS hf (fun x ho => kX6_put l D cI cZ cS zz (fun i => ad (46 + i)) (q_sb σ 46) a2 a3 x ho) (cwV 2 hts gX11_write_X6_put rfl rfl rfl ndX6_put ⟨Nat.le_of_ble_eq_true rfl, Nat.le_of_ble_eq_true rfl⟩) [46, 47] rfl rfl [none, none, none, none, none, none, none, none, none, none, none, none, none, none, none, none, none, none, none, none, none, none, none, none, none, none, none, none, none, none, none, none, none, none, none, none, none, none, none, none, none, none, none, none, none, none, some 0, some 1, none, none, none, none, none, none, none, none, none, none, none, none, none, none, none, none, none, none, none, none, none, none, none, none] (by decide +kernel) (Nat.le_of_ble_eq_true rfl) (fun _ => rfl) (fun _ => rfl) (fun _ => rfl) rfl rfl rfl rfl (hl.1) rfl (Nat.le_of_ble_eq_true rfl) dX11_write_68 ⟨Nat.zero_le _, Nat.zero_le _⟩ (fun σ18 H locs hf hP hD hS => ?_)
          refine lv_iconst (v := 1) hx hb dX11_write_71 (by decide) ?_
          obtain ⟨hi1, hi2⟩ := Prod.mk.inj (Option.some.inj hf)
          subst hi1
          subst hi2
          exact hret _ _ _ _ dX11_write_72 rfl hP hS
        · have hf := (if_pos h17).symm.trans hf
          refine lv_aload_n hx hb dX11_write_53 rfl (lv_at hl 0 rfl) ?_
          refine lv_ldc (v := -1000001) hx hb hown (hts _ (List.mem_of_getElem? (i := 1) rfl)) dX11_write_54 ?_
          refine q_cVi (wf := (wX11 cI cZ cS ad)) (wc := wX11 cI cZ cS ad) (rest := []) ⟨hx, hb, hml, hown, hts⟩ hK hZ hA hP hD hS hf (fun x τ ho => kX11_tell l D cI cZ cS zz ad σ (-1000001 : Int32) x τ ho) (cwV 1 hts gX11_write_X11_tell rfl rfl rfl ndX11_tell ⟨Nat.le_of_ble_eq_true rfl, Nat.le_of_ble_eq_true rfl⟩) [0, 1, 2, 3, 4, 5, 6, 7, 8, 9, 10, 11, 12, 13, 14, 15, 16, 17, 18, 19, 20, 21, 22, 23, 24, 25, 26, 27, 28, 29, 30, 31, 32, 33, 34, 35, 36, 37, 38, 39, 40, 41, 42, 43, 44, 45, 46, 47, 48, 49, 50, 51, 52, 53, 54, 55, 56, 57, 58, 59, 60, 61, 62, 63, 64, 65, 66, 67, 68, 69, 70, 71] rfl rfl [some 0, some 1, some 2, some 3, some 4, some 5, some 6, some 7, some 8, some 9, some 10, some 11, some 12, some 13, some 14, some 15, some 16, some 17, some 18, some 19, some 20, some 21, some 22, some 23, some 24, some 25, some 26, some 27, some 28, some 29, some 30, some 31, some 32, some 33, some 34, some 35, some 36, some 37, some 38, some 39, some 40, some 41, some 42, some 43, some 44, some 45, some 46, some 47, some 48, some 49, some 50, some 51, some 52, some 53, some 54, some 55, some 56, some 57, some 58, some 59, some 60, some 61, some 62, some 63, some 64, some 65, some 66, some 67, some 68, some 69, some 70, some 71] (by decide +kernel) (Nat.le_of_ble_eq_true rfl) (fun _ => rfl) (fun _ => rfl) (fun _ => rfl) rfl rfl rfl rfl (hl.1) rfl (Nat.le_of_ble_eq_true rfl) dX11_write_56 ⟨Nat.zero_le _, Nat.zero_le _⟩ (fun r20 σ19 H locs hf hP hD hS => ?_)
          obtain ⟨hi1, hi2⟩ := Prod.mk.inj (Option.some.inj hf)
          subst hi1
          subst hi2
          exact hret _ _ _ _ dX11_write_59 rfl hP hS
      · have hf := (if_neg h15).symm.trans hf
        refine lv_aload_n hx hb dX11_write_26 rfl (lv_at hl 0 rfl) ?_
        refine lv_ldcw (v := -1000006) hx hb hown (hts _ (List.mem_of_getElem? (i := 3) rfl)) dX11_write_27 ?_
        refine q_cVi (wf := (wX11 cI cZ cS ad)) (wc := wX11 cI cZ cS ad) (rest := []) ⟨hx, hb, hml, hown, hts⟩ hK hZ hA hP hD hS hf (fun x τ ho => kX11_tell l D cI cZ cS zz ad σ (-1000006 : Int32) x τ ho) (cwV 1 hts gX11_write_X11_tell rfl rfl rfl ndX11_tell ⟨Nat.le_of_ble_eq_true rfl, Nat.le_of_ble_eq_true rfl⟩) [0, 1, 2, 3, 4, 5, 6, 7, 8, 9, 10, 11, 12, 13, 14, 15, 16, 17, 18, 19, 20, 21, 22, 23, 24, 25, 26, 27, 28, 29, 30, 31, 32, 33, 34, 35, 36, 37, 38, 39, 40, 41, 42, 43, 44, 45, 46, 47, 48, 49, 50, 51, 52, 53, 54, 55, 56, 57, 58, 59, 60, 61, 62, 63, 64, 65, 66, 67, 68, 69, 70, 71] rfl rfl [some 0, some 1, some 2, some 3, some 4, some 5, some 6, some 7, some 8, some 9, some 10, some 11, some 12, some 13, some 14, some 15, some 16, some 17, some 18, some 19, some 20, some 21, some 22, some 23, some 24, some 25, some 26, some 27, some 28, some 29, some 30, some 31, some 32, some 33, some 34, some 35, some 36, some 37, some 38, some 39, some 40, some 41, some 42, some 43, some 44, some 45, some 46, some 47, some 48, some 49, some 50, some 51, some 52, some 53, some 54, some 55, some 56, some 57, some 58, some 59, some 60, some 61, some 62, some 63, some 64, some 65, some 66, some 67, some 68, some 69, some 70, some 71] (by decide +kernel) (Nat.le_of_ble_eq_true rfl) (fun _ => rfl) (fun _ => rfl) (fun _ => rfl) rfl rfl rfl rfl (hl.1) rfl (Nat.le_of_ble_eq_true rfl) dX11_write_30 ⟨Nat.zero_le _, Nat.zero_le _⟩ (fun r22 σ21 H locs hf hP hD hS => ?_)
        obtain ⟨hi1, hi2⟩ := Prod.mk.inj (Option.some.inj hf)
        subst hi1
        subst hi2
        exact hret _ _ _ _ dX11_write_33 rfl hP hS
    have hf := (if_neg h13).symm.trans hf
    by_cases h23 : a1 = (2 : Int32)
    · have hfh23 := (if_pos h23).symm.trans hf
      have hlh23 := hl
      subst h23
      have hf := hfh23
      have hl : lv_has ls 4 [(0, .ref (ad 0)), (1, .int (2 : Int32)), (2, .int a2), (3, .int a3)] := hlh23
      refine va_aldq hx hb hK hP 43 2 rfl rfl (vp_in_iff.mpr (by decide)) dX11_write_19 ?_
      refine W.eq (g2 := F0 m 20 ls [.ref (ad 48)]) rfl ?_
      refine q_cVr (wf := (wX11 cI cZ cS ad)) (wc := wX6 cI cZ cS (fun i => ad (48 + i))) (rest := []) ⟨hx, hb, hml, hown, hts⟩ hK hZ hA hP hD hS hf (fun x ho => kX6_isMissing l D cI cZ cS zz (fun i => ad (48 + i)) (q_sb σ 48) x ho) (cwV 0 hts gX11_write_X6_isMissing rfl rfl rfl ndX6_isMissing ⟨Nat.le_of_ble_eq_true rfl, Nat.le_of_ble_eq_true rfl⟩) [48, 49] rfl rfl rfl rfl rfl rfl (hl.1) rfl (Nat.le_of_ble_eq_true rfl) dX11_write_20 ⟨Nat.zero_le _, Nat.zero_le _⟩ (fun r24 H locs hf hP hD hS => ?_)
      refine lv_if_eq (tgt := 34) hx hb dX11_write_23 (by decide) (fun h25 => ?_) (fun h25 => ?_)
      · have hf := (if_pos h25).symm.trans hf
        refine lv_iload_n hx hb dX11_write_34 rfl (lv_at hl 2 rfl) ?_
        refine lv_iconst (v := 0) hx hb dX11_write_35 (by decide) ?_
        refine lv_aload_n hx hb dX11_write_36 rfl (lv_at hl 0 rfl) ?_
        refine va_get (D := D) (ci := 11) (C := RX11) (T := TX11) (N := 9) hx hb hts fwX11_write_X11 hown hK hP 0 rfl rfl 6 (by decide) (hts _ (List.mem_of_getElem? (i := 2) rfl)) (fun _ h9 => h9) rfl dX11_write_37 ?_
        refine lv_iload_n hx hb dX11_write_40 rfl (lv_at hl 1 rfl) ?_
        refine va_aldq hx hb hK hP 43 2 rfl rfl (vp_in_iff.mpr (by decide)) dX11_write_41 ?_
        refine W.eq (g2 := F0 m 42 ls [.ref (ad 48), .int (0 : Int32), .int a2]) rfl ?_
        refine va_get (D := D) (ci := 6) (C := RX6) (T := TX6) (N := 3) hx hb hts fwX11_write_X6 hown hK hP 48 rfl rfl 1 (by decide) (hts _ (List.mem_of_getElem? (i := 4) rfl)) (fun _ h9 => h9) rfl dX11_write_42 ?_
        refine lv_iconst (v := 1) hx hb dX11_write_45 (by decide) ?_
        refine lv_isub hx hb dX11_write_46 ?_
        refine q_cSr (wf := (wX11 cI cZ cS ad)) (rest := []) ⟨hx, hb, hml, hown, hts⟩ hK hZ hA hP hD hS hf (fun x ho => kX11_within l D cI cZ cS zz a2 (0 : Int32) ((σ 48 1) - (1 : Int32)) x ho) (va_cwS 3 hts gX11_write_X11_within rfl rfl rfl ndX11_within.2 ⟨Nat.le_of_ble_eq_true rfl, Nat.le_of_ble_eq_true rfl⟩) rfl (hl.1) rfl (Nat.le_of_ble_eq_true rfl) dX11_write_47 ⟨Nat.zero_le _, Nat.zero_le _⟩ (fun r26 H locs hf hP hD hS => ?_)
        refine lv_if_ne (tgt := 60) hx hb dX11_write_50 (by decide) (fun h27 => ?_) (fun h27 => ?_)
        · have hf := (if_neg h27).symm.trans hf
          refine lv_aload_n hx hb dX11_write_60 rfl (lv_at hl 0 rfl) ?_
          refine va_get (D := D) (ci := 11) (C := RX11) (T := TX11) (N := 9) hx hb hts fwX11_write_X11 hown hK hP 0 rfl rfl 6 (by decide) (hts _ (List.mem_of_getElem? (i := 2) rfl)) (fun _ h9 => h9) rfl dX11_write_61 ?_
          refine lv_iload_n hx hb dX11_write_64 rfl (lv_at hl 1 rfl) ?_
          refine va_aldq hx hb hK hP 43 2 rfl rfl (vp_in_iff.mpr (by decide)) dX11_write_65 ?_
          refine W.eq (g2 := F0 m 66 ls [.ref (ad 48)]) rfl ?_
          refine lv_iload_n hx hb dX11_write_66 rfl (lv_at hl 2 rfl) ?_
          refine lv_iload_n hx hb dX11_write_67 rfl (lv_at hl 3 rfl) ?_
          refine q_cVv (wf := (wX11 cI cZ cS ad)) (wc := wX6 cI cZ cS (fun i => ad (48 + i))) (rest := []) ⟨hx, hb, hml, hown, hts⟩ hK hZ hA hP hD hS hf (fun x ho => kX6_put l D cI cZ cS zz (fun i => ad (48 + i)) (q_sb σ 48) a2 a3 x ho) (cwV 2 hts gX11_write_X6_put rfl rfl rfl ndX6_put ⟨Nat.le_of_ble_eq_true rfl, Nat.le_of_ble_eq_true rfl⟩) [48, 49] rfl rfl [none, none, none, none, none, none, none, none, none, none, none, none, none, none, none, none, none, none, none, none, none, none, none, none, none, none, none, none, none, none, none, none, none, none, none, none, none, none, none, none, none, none, none, none, none, none, none, none, some 0, some 1, none, none, none, none, none, none, none, none, none, none, none, none, none, none, none, none, none, none, none, none, none, none] (by decide +kernel) (Nat.le_of_ble_eq_true rfl) (fun _ => rfl) (fun _ => rfl) (fun _ => rfl) rfl rfl rfl rfl (hl.1) rfl (Nat.le_of_ble_eq_true rfl) dX11_write_68 ⟨Nat.zero_le _, Nat.zero_le _⟩ (fun σ28 H locs hf hP hD hS => ?_)
          refine lv_iconst (v := 1) hx hb dX11_write_71 (by decide) ?_
          obtain ⟨hi1, hi2⟩ := Prod.mk.inj (Option.some.inj hf)
          subst hi1
          subst hi2
          exact hret _ _ _ _ dX11_write_72 rfl hP hS
        · have hf := (if_pos h27).symm.trans hf
          refine lv_aload_n hx hb dX11_write_53 rfl (lv_at hl 0 rfl) ?_
          refine lv_ldc (v := -1000001) hx hb hown (hts _ (List.mem_of_getElem? (i := 1) rfl)) dX11_write_54 ?_
          refine q_cVi (wf := (wX11 cI cZ cS ad)) (wc := wX11 cI cZ cS ad) (rest := []) ⟨hx, hb, hml, hown, hts⟩ hK hZ hA hP hD hS hf (fun x τ ho => kX11_tell l D cI cZ cS zz ad σ (-1000001 : Int32) x τ ho) (cwV 1 hts gX11_write_X11_tell rfl rfl rfl ndX11_tell ⟨Nat.le_of_ble_eq_true rfl, Nat.le_of_ble_eq_true rfl⟩) [0, 1, 2, 3, 4, 5, 6, 7, 8, 9, 10, 11, 12, 13, 14, 15, 16, 17, 18, 19, 20, 21, 22, 23, 24, 25, 26, 27, 28, 29, 30, 31, 32, 33, 34, 35, 36, 37, 38, 39, 40, 41, 42, 43, 44, 45, 46, 47, 48, 49, 50, 51, 52, 53, 54, 55, 56, 57, 58, 59, 60, 61, 62, 63, 64, 65, 66, 67, 68, 69, 70, 71] rfl rfl [some 0, some 1, some 2, some 3, some 4, some 5, some 6, some 7, some 8, some 9, some 10, some 11, some 12, some 13, some 14, some 15, some 16, some 17, some 18, some 19, some 20, some 21, some 22, some 23, some 24, some 25, some 26, some 27, some 28, some 29, some 30, some 31, some 32, some 33, some 34, some 35, some 36, some 37, some 38, some 39, some 40, some 41, some 42, some 43, some 44, some 45, some 46, some 47, some 48, some 49, some 50, some 51, some 52, some 53, some 54, some 55, some 56, some 57, some 58, some 59, some 60, some 61, some 62, some 63, some 64, some 65, some 66, some 67, some 68, some 69, some 70, some 71] (by decide +kernel) (Nat.le_of_ble_eq_true rfl) (fun _ => rfl) (fun _ => rfl) (fun _ => rfl) rfl rfl rfl rfl (hl.1) rfl (Nat.le_of_ble_eq_true rfl) dX11_write_56 ⟨Nat.zero_le _, Nat.zero_le _⟩ (fun r30 σ29 H locs hf hP hD hS => ?_)
          obtain ⟨hi1, hi2⟩ := Prod.mk.inj (Option.some.inj hf)
          subst hi1
          subst hi2
          exact hret _ _ _ _ dX11_write_59 rfl hP hS
      · have hf := (if_neg h25).symm.trans hf
        refine lv_aload_n hx hb dX11_write_26 rfl (lv_at hl 0 rfl) ?_
        refine lv_ldcw (v := -1000006) hx hb hown (hts _ (List.mem_of_getElem? (i := 3) rfl)) dX11_write_27 ?_
        refine q_cVi (wf := (wX11 cI cZ cS ad)) (wc := wX11 cI cZ cS ad) (rest := []) ⟨hx, hb, hml, hown, hts⟩ hK hZ hA hP hD hS hf (fun x τ ho => kX11_tell l D cI cZ cS zz ad σ (-1000006 : Int32) x τ ho) (cwV 1 hts gX11_write_X11_tell rfl rfl rfl ndX11_tell ⟨Nat.le_of_ble_eq_true rfl, Nat.le_of_ble_eq_true rfl⟩) [0, 1, 2, 3, 4, 5, 6, 7, 8, 9, 10, 11, 12, 13, 14, 15, 16, 17, 18, 19, 20, 21, 22, 23, 24, 25, 26, 27, 28, 29, 30, 31, 32, 33, 34, 35, 36, 37, 38, 39, 40, 41, 42, 43, 44, 45, 46, 47, 48, 49, 50, 51, 52, 53, 54, 55, 56, 57, 58, 59, 60, 61, 62, 63, 64, 65, 66, 67, 68, 69, 70, 71] rfl rfl [some 0, some 1, some 2, some 3, some 4, some 5, some 6, some 7, some 8, some 9, some 10, some 11, some 12, some 13, some 14, some 15, some 16, some 17, some 18, some 19, some 20, some 21, some 22, some 23, some 24, some 25, some 26, some 27, some 28, some 29, some 30, some 31, some 32, some 33, some 34, some 35, some 36, some 37, some 38, some 39, some 40, some 41, some 42, some 43, some 44, some 45, some 46, some 47, some 48, some 49, some 50, some 51, some 52, some 53, some 54, some 55, some 56, some 57, some 58, some 59, some 60, some 61, some 62, some 63, some 64, some 65, some 66, some 67, some 68, some 69, some 70, some 71] (by decide +kernel) (Nat.le_of_ble_eq_true rfl) (fun _ => rfl) (fun _ => rfl) (fun _ => rfl) rfl rfl rfl rfl (hl.1) rfl (Nat.le_of_ble_eq_true rfl) dX11_write_30 ⟨Nat.zero_le _, Nat.zero_le _⟩ (fun r32 σ31 H locs hf hP hD hS => ?_)
        obtain ⟨hi1, hi2⟩ := Prod.mk.inj (Option.some.inj hf)
        subst hi1
        subst hi2
        exact hret _ _ _ _ dX11_write_33 rfl hP hS
    have hf := (if_neg h23).symm.trans hf
    by_cases h33 : a1 = (3 : Int32)
    · have hfh33 := (if_pos h33).symm.trans hf
      have hlh33 := hl
      subst h33
      have hf := hfh33
      have hl : lv_has ls 4 [(0, .ref (ad 0)), (1, .int (3 : Int32)), (2, .int a2), (3, .int a3)] := hlh33
      refine va_aldq hx hb hK hP 43 2 rfl rfl (vp_in_iff.mpr (by decide)) dX11_write_19 ?_
      refine W.eq (g2 := F0 m 20 ls [.ref (ad 50)]) rfl ?_
      refine q_cVr (wf := (wX11 cI cZ cS ad)) (wc := wX6 cI cZ cS (fun i => ad (50 + i))) (rest := []) ⟨hx, hb, hml, hown, hts⟩ hK hZ hA hP hD hS hf (fun x ho => kX6_isMissing l D cI cZ cS zz (fun i => ad (50 + i)) (q_sb σ 50) x ho) (cwV 0 hts gX11_write_X6_isMissing rfl rfl rfl ndX6_isMissing ⟨Nat.le_of_ble_eq_true rfl, Nat.le_of_ble_eq_true rfl⟩) [50, 51] rfl rfl rfl rfl rfl rfl (hl.1) rfl (Nat.le_of_ble_eq_true rfl) dX11_write_20 ⟨Nat.zero_le _, Nat.zero_le _⟩ (fun r34 H locs hf hP hD hS => ?_)
      refine lv_if_eq (tgt := 34) hx hb dX11_write_23 (by decide) (fun h35 => ?_) (fun h35 => ?_)
      · have hf := (if_pos h35).symm.trans hf
        refine lv_iload_n hx hb dX11_write_34 rfl (lv_at hl 2 rfl) ?_
        refine lv_iconst (v := 0) hx hb dX11_write_35 (by decide) ?_
        refine lv_aload_n hx hb dX11_write_36 rfl (lv_at hl 0 rfl) ?_
        refine va_get (D := D) (ci := 11) (C := RX11) (T := TX11) (N := 9) hx hb hts fwX11_write_X11 hown hK hP 0 rfl rfl 6 (by decide) (hts _ (List.mem_of_getElem? (i := 2) rfl)) (fun _ h9 => h9) rfl dX11_write_37 ?_
        refine lv_iload_n hx hb dX11_write_40 rfl (lv_at hl 1 rfl) ?_
        refine va_aldq hx hb hK hP 43 2 rfl rfl (vp_in_iff.mpr (by decide)) dX11_write_41 ?_
        refine W.eq (g2 := F0 m 42 ls [.ref (ad 50), .int (0 : Int32), .int a2]) rfl ?_
        refine va_get (D := D) (ci := 6) (C := RX6) (T := TX6) (N := 3) hx hb hts fwX11_write_X6 hown hK hP 50 rfl rfl 1 (by decide) (hts _ (List.mem_of_getElem? (i := 4) rfl)) (fun _ h9 => h9) rfl dX11_write_42 ?_
        refine lv_iconst (v := 1) hx hb dX11_write_45 (by decide) ?_
        refine lv_isub hx hb dX11_write_46 ?_
        refine q_cSr (wf := (wX11 cI cZ cS ad)) (rest := []) ⟨hx, hb, hml, hown, hts⟩ hK hZ hA hP hD hS hf (fun x ho => kX11_within l D cI cZ cS zz a2 (0 : Int32) ((σ 50 1) - (1 : Int32)) x ho) (va_cwS 3 hts gX11_write_X11_within rfl rfl rfl ndX11_within.2 ⟨Nat.le_of_ble_eq_true rfl, Nat.le_of_ble_eq_true rfl⟩) rfl (hl.1) rfl (Nat.le_of_ble_eq_true rfl) dX11_write_47 ⟨Nat.zero_le _, Nat.zero_le _⟩ (fun r36 H locs hf hP hD hS => ?_)
        refine lv_if_ne (tgt := 60) hx hb dX11_write_50 (by decide) (fun h37 => ?_) (fun h37 => ?_)
        · have hf := (if_neg h37).symm.trans hf
          refine lv_aload_n hx hb dX11_write_60 rfl (lv_at hl 0 rfl) ?_
          refine va_get (D := D) (ci := 11) (C := RX11) (T := TX11) (N := 9) hx hb hts fwX11_write_X11 hown hK hP 0 rfl rfl 6 (by decide) (hts _ (List.mem_of_getElem? (i := 2) rfl)) (fun _ h9 => h9) rfl dX11_write_61 ?_
          refine lv_iload_n hx hb dX11_write_64 rfl (lv_at hl 1 rfl) ?_
          refine va_aldq hx hb hK hP 43 2 rfl rfl (vp_in_iff.mpr (by decide)) dX11_write_65 ?_
          refine W.eq (g2 := F0 m 66 ls [.ref (ad 50)]) rfl ?_
          refine lv_iload_n hx hb dX11_write_66 rfl (lv_at hl 2 rfl) ?_
          refine lv_iload_n hx hb dX11_write_67 rfl (lv_at hl 3 rfl) ?_
          refine q_cVv (wf := (wX11 cI cZ cS ad)) (wc := wX6 cI cZ cS (fun i => ad (50 + i))) (rest := []) ⟨hx, hb, hml, hown, hts⟩ hK hZ hA hP hD hS hf (fun x ho => kX6_put l D cI cZ cS zz (fun i => ad (50 + i)) (q_sb σ 50) a2 a3 x ho) (cwV 2 hts gX11_write_X6_put rfl rfl rfl ndX6_put ⟨Nat.le_of_ble_eq_true rfl, Nat.le_of_ble_eq_true rfl⟩) [50, 51] rfl rfl [none, none, none, none, none, none, none, none, none, none, none, none, none, none, none, none, none, none, none, none, none, none, none, none, none, none, none, none, none, none, none, none, none, none, none, none, none, none, none, none, none, none, none, none, none, none, none, none, none, none, some 0, some 1, none, none, none, none, none, none, none, none, none, none, none, none, none, none, none, none, none, none, none, none] (by decide +kernel) (Nat.le_of_ble_eq_true rfl) (fun _ => rfl) (fun _ => rfl) (fun _ => rfl) rfl rfl rfl rfl (hl.1) rfl (Nat.le_of_ble_eq_true rfl) dX11_write_68 ⟨Nat.zero_le _, Nat.zero_le _⟩ (fun σ38 H locs hf hP hD hS => ?_)
          refine lv_iconst (v := 1) hx hb dX11_write_71 (by decide) ?_
          obtain ⟨hi1, hi2⟩ := Prod.mk.inj (Option.some.inj hf)
          subst hi1
          subst hi2
          exact hret _ _ _ _ dX11_write_72 rfl hP hS
        · have hf := (if_pos h37).symm.trans hf
          refine lv_aload_n hx hb dX11_write_53 rfl (lv_at hl 0 rfl) ?_
          refine lv_ldc (v := -1000001) hx hb hown (hts _ (List.mem_of_getElem? (i := 1) rfl)) dX11_write_54 ?_
          refine q_cVi (wf := (wX11 cI cZ cS ad)) (wc := wX11 cI cZ cS ad) (rest := []) ⟨hx, hb, hml, hown, hts⟩ hK hZ hA hP hD hS hf (fun x τ ho => kX11_tell l D cI cZ cS zz ad σ (-1000001 : Int32) x τ ho) (cwV 1 hts gX11_write_X11_tell rfl rfl rfl ndX11_tell ⟨Nat.le_of_ble_eq_true rfl, Nat.le_of_ble_eq_true rfl⟩) [0, 1, 2, 3, 4, 5, 6, 7, 8, 9, 10, 11, 12, 13, 14, 15, 16, 17, 18, 19, 20, 21, 22, 23, 24, 25, 26, 27, 28, 29, 30, 31, 32, 33, 34, 35, 36, 37, 38, 39, 40, 41, 42, 43, 44, 45, 46, 47, 48, 49, 50, 51, 52, 53, 54, 55, 56, 57, 58, 59, 60, 61, 62, 63, 64, 65, 66, 67, 68, 69, 70, 71] rfl rfl [some 0, some 1, some 2, some 3, some 4, some 5, some 6, some 7, some 8, some 9, some 10, some 11, some 12, some 13, some 14, some 15, some 16, some 17, some 18, some 19, some 20, some 21, some 22, some 23, some 24, some 25, some 26, some 27, some 28, some 29, some 30, some 31, some 32, some 33, some 34, some 35, some 36, some 37, some 38, some 39, some 40, some 41, some 42, some 43, some 44, some 45, some 46, some 47, some 48, some 49, some 50, some 51, some 52, some 53, some 54, some 55, some 56, some 57, some 58, some 59, some 60, some 61, some 62, some 63, some 64, some 65, some 66, some 67, some 68, some 69, some 70, some 71] (by decide +kernel) (Nat.le_of_ble_eq_true rfl) (fun _ => rfl) (fun _ => rfl) (fun _ => rfl) rfl rfl rfl rfl (hl.1) rfl (Nat.le_of_ble_eq_true rfl) dX11_write_56 ⟨Nat.zero_le _, Nat.zero_le _⟩ (fun r40 σ39 H locs hf hP hD hS => ?_)
          obtain ⟨hi1, hi2⟩ := Prod.mk.inj (Option.some.inj hf)
          subst hi1
          subst hi2
          exact hret _ _ _ _ dX11_write_59 rfl hP hS
      · have hf := (if_neg h35).symm.trans hf
        refine lv_aload_n hx hb dX11_write_26 rfl (lv_at hl 0 rfl) ?_
        refine lv_ldcw (v := -1000006) hx hb hown (hts _ (List.mem_of_getElem? (i := 3) rfl)) dX11_write_27 ?_
        refine q_cVi (wf := (wX11 cI cZ cS ad)) (wc := wX11 cI cZ cS ad) (rest := []) ⟨hx, hb, hml, hown, hts⟩ hK hZ hA hP hD hS hf (fun x τ ho => kX11_tell l D cI cZ cS zz ad σ (-1000006 : Int32) x τ ho) (cwV 1 hts gX11_write_X11_tell rfl rfl rfl ndX11_tell ⟨Nat.le_of_ble_eq_true rfl, Nat.le_of_ble_eq_true rfl⟩) [0, 1, 2, 3, 4, 5, 6, 7, 8, 9, 10, 11, 12, 13, 14, 15, 16, 17, 18, 19, 20, 21, 22, 23, 24, 25, 26, 27, 28, 29, 30, 31, 32, 33, 34, 35, 36, 37, 38, 39, 40, 41, 42, 43, 44, 45, 46, 47, 48, 49, 50, 51, 52, 53, 54, 55, 56, 57, 58, 59, 60, 61, 62, 63, 64, 65, 66, 67, 68, 69, 70, 71] rfl rfl [some 0, some 1, some 2, some 3, some 4, some 5, some 6, some 7, some 8, some 9, some 10, some 11, some 12, some 13, some 14, some 15, some 16, some 17, some 18, some 19, some 20, some 21, some 22, some 23, some 24, some 25, some 26, some 27, some 28, some 29, some 30, some 31, some 32, some 33, some 34, some 35, some 36, some 37, some 38, some 39, some 40, some 41, some 42, some 43, some 44, some 45, some 46, some 47, some 48, some 49, some 50, some 51, some 52, some 53, some 54, some 55, some 56, some 57, some 58, some 59, some 60, some 61, some 62, some 63, some 64, some 65, some 66, some 67, some 68, some 69, some 70, some 71] (by decide +kernel) (Nat.le_of_ble_eq_true rfl) (fun _ => rfl) (fun _ => rfl) (fun _ => rfl) rfl rfl rfl rfl (hl.1) rfl (Nat.le_of_ble_eq_true rfl) dX11_write_30 ⟨Nat.zero_le _, Nat.zero_le _⟩ (fun r42 σ41 H locs hf hP hD hS => ?_)
        obtain ⟨hi1, hi2⟩ := Prod.mk.inj (Option.some.inj hf)
        subst hi1
        subst hi2
        exact hret _ _ _ _ dX11_write_33 rfl hP hS
    have hf := (if_neg h33).symm.trans hf
    exact q_no hf
  · have hf := (if_pos h2).symm.trans hf
    refine lv_aload_n hx hb dX11_write_7 rfl (lv_at hl 0 rfl) ?_
    refine lv_ldc (v := -1000001) hx hb hown (hts _ (List.mem_of_getElem? (i := 1) rfl)) dX11_write_8 ?_
    refine q_cVi (wf := (wX11 cI cZ cS ad)) (wc := wX11 cI cZ cS ad) (rest := []) ⟨hx, hb, hml, hown, hts⟩ hK hZ hA hP hD hS hf (fun x τ ho => kX11_tell l D cI cZ cS zz ad σ (-1000001 : Int32) x τ ho) (cwV 1 hts gX11_write_X11_tell rfl rfl rfl ndX11_tell ⟨Nat.le_of_ble_eq_true rfl, Nat.le_of_ble_eq_true rfl⟩) [0, 1, 2, 3, 4, 5, 6, 7, 8, 9, 10, 11, 12, 13, 14, 15, 16, 17, 18, 19, 20, 21, 22, 23, 24, 25, 26, 27, 28, 29, 30, 31, 32, 33, 34, 35, 36, 37, 38, 39, 40, 41, 42, 43, 44, 45, 46, 47, 48, 49, 50, 51, 52, 53, 54, 55, 56, 57, 58, 59, 60, 61, 62, 63, 64, 65, 66, 67, 68, 69, 70, 71] rfl rfl [some 0, some 1, some 2, some 3, some 4, some 5, some 6, some 7, some 8, some 9, some 10, some 11, some 12, some 13, some 14, some 15, some 16, some 17, some 18, some 19, some 20, some 21, some 22, some 23, some 24, some 25, some 26, some 27, some 28, some 29, some 30, some 31, some 32, some 33, some 34, some 35, some 36, some 37, some 38, some 39, some 40, some 41, some 42, some 43, some 44, some 45, some 46, some 47, some 48, some 49, some 50, some 51, some 52, some 53, some 54, some 55, some 56, some 57, some 58, some 59, some 60, some 61, some 62, some 63, some 64, some 65, some 66, some 67, some 68, some 69, some 70, some 71] (by decide +kernel) (Nat.le_of_ble_eq_true rfl) (fun _ => rfl) (fun _ => rfl) (fun _ => rfl) rfl rfl rfl rfl (hl.1) rfl (Nat.le_of_ble_eq_true rfl) dX11_write_10 ⟨Nat.zero_le _, Nat.zero_le _⟩ (fun r44 σ43 H locs hf hP hD hS => ?_)
    obtain ⟨hi1, hi2⟩ := Prod.mk.inj (Option.some.inj hf)
    subst hi1
    subst hi2
    exact hret _ _ _ _ dX11_write_13 rfl hP hS
def pX11_copy (σ : SS) (a1 : Int32) (a2 : Int32) (a3 : Int32) (a4 : Int32) (a5 : Int32) : Option (Int32 × SS) := q_cr (pX11_isSheet a1) (fun (r1 : Int32) => q_lt (q_ci (pX11_tell σ (-1000001 : Int32)) (fun (τ : SS) => τ) (fun (r4 : Int32) (σ3 : SS) => some (r4, σ3))) (fun j2 => (if r1 = (0 : Int32) then j2 else q_cr (pX11_isSheet a3) (fun (r6 : Int32) => (if r6 = (0 : Int32) then j2 else (if a1 = (0 : Int32) then q_cr (pX6_isMissing (q_sb σ 44)) (fun (r9 : Int32) => q_lt (q_ci (pX11_tell σ (-1000006 : Int32)) (fun (τ : SS) => τ) (fun (r12 : Int32) (σ11 : SS) => some (r12, σ11))) (fun j10 => (if r9 = (0 : Int32) then (if a3 = (0 : Int32) then q_cr (pX6_isMissing (q_sb σ 44)) (fun (r15 : Int32) => (if r15 = (0 : Int32) then (if (σ 44 0) = (σ 44 0) then q_cr (pX6_hasRange (q_sb σ 44) a2 a5) (fun (r18 : Int32) => q_lt (q_ci (pX11_tell σ (-1000001 : Int32)) (fun (τ : SS) => τ) (fun (r21 : Int32) (σ20 : SS) => some (r21, σ20))) (fun j19 => (if r18 = (0 : Int32) then j19 else q_cr (pX6_hasRange (q_sb σ 44) a4 a5) (fun (r23 : Int32) => (if r23 = (0 : Int32) then j19 else q_ac σ 45 40 45 40 a2 a4 a5 (fun (σ25 : SS) => some (a5, σ25))))))) else q_ci (pX11_tell σ (-1000003 : Int32)) (fun (τ : SS) => τ) (fun (r27 : Int32) (σ26 : SS) => some (r27, σ26))) else j10)) else (if a3 = (1 : Int32) then q_cr (pX6_isMissing (q_sb σ 46)) (fun (r29 : Int32) => (if r29 = (0 : Int32) then (if (σ 44 0) = (σ 46 0) then q_cr (pX6_hasRange (q_sb σ 44) a2 a5) (fun (r32 : Int32) => q_lt (q_ci (pX11_tell σ (-1000001 : Int32)) (fun (τ : SS) => τ) (fun (r35 : Int32) (σ34 : SS) => some (r35, σ34))) (fun j33 => (if r32 = (0 : Int32) then j33 else q_cr (pX6_hasRange (q_sb σ 46) a4 a5) (fun (r37 : Int32) => (if r37 = (0 : Int32) then j33 else q_ac σ 45 40 47 40 a2 a4 a5 (fun (σ39 : SS) => some (a5, σ39))))))) else q_ci (pX11_tell σ (-1000003 : Int32)) (fun (τ : SS) => τ) (fun (r41 : Int32) (σ40 : SS) => some (r41, σ40))) else j10)) else (if a3 = (2 : Int32) then q_cr (pX6_isMissing (q_sb σ 48)) (fun (r43 : Int32) => (if r43 = (0 : Int32) then (if (σ 44 0) = (σ 48 0) then q_cr (pX6_hasRange (q_sb σ 44) a2 a5) (fun (r46 : Int32) => q_lt (q_ci (pX11_tell σ (-1000001 : Int32)) (fun (τ : SS) => τ) (fun (r49 : Int32) (σ48 : SS) => some (r49, σ48))) (fun j47 => (if r46 = (0 : Int32) then j47 else q_cr (pX6_hasRange (q_sb σ 48) a4 a5) (fun (r51 : Int32) => (if r51 = (0 : Int32) then j47 else q_ac σ 45 40 49 40 a2 a4 a5 (fun (σ53 : SS) => some (a5, σ53))))))) else q_ci (pX11_tell σ (-1000003 : Int32)) (fun (τ : SS) => τ) (fun (r55 : Int32) (σ54 : SS) => some (r55, σ54))) else j10)) else (if a3 = (3 : Int32) then q_cr (pX6_isMissing (q_sb σ 50)) (fun (r57 : Int32) => (if r57 = (0 : Int32) then (if (σ 44 0) = (σ 50 0) then q_cr (pX6_hasRange (q_sb σ 44) a2 a5) (fun (r60 : Int32) => q_lt (q_ci (pX11_tell σ (-1000001 : Int32)) (fun (τ : SS) => τ) (fun (r63 : Int32) (σ62 : SS) => some (r63, σ62))) (fun j61 => (if r60 = (0 : Int32) then j61 else q_cr (pX6_hasRange (q_sb σ 50) a4 a5) (fun (r65 : Int32) => (if r65 = (0 : Int32) then j61 else q_ac σ 45 40 51 40 a2 a4 a5 (fun (σ67 : SS) => some (a5, σ67))))))) else q_ci (pX11_tell σ (-1000003 : Int32)) (fun (τ : SS) => τ) (fun (r69 : Int32) (σ68 : SS) => some (r69, σ68))) else j10)) else none)))) else j10))) else (if a1 = (1 : Int32) then q_cr (pX6_isMissing (q_sb σ 46)) (fun (r71 : Int32) => q_lt (q_ci (pX11_tell σ (-1000006 : Int32)) (fun (τ : SS) => τ) (fun (r74 : Int32) (σ73 : SS) => some (r74, σ73))) (fun j72 => (if r71 = (0 : Int32) then (if a3 = (0 : Int32) then q_cr (pX6_isMissing (q_sb σ 44)) (fun (r77 : Int32) => (if r77 = (0 : Int32) then (if (σ 46 0) = (σ 44 0) then q_cr (pX6_hasRange (q_sb σ 46) a2 a5) (fun (r80 : Int32) => q_lt (q_ci (pX11_tell σ (-1000001 : Int32)) (fun (τ : SS) => τ) (fun (r83 : Int32) (σ82 : SS) => some (r83, σ82))) (fun j81 => (if r80 = (0 : Int32) then j81 else q_cr (pX6_hasRange (q_sb σ 44) a4 a5) (fun (r85 : Int32) => (if r85 = (0 : Int32) then j81 else q_ac σ 47 40 45 40 a2 a4 a5 (fun (σ87 : SS) => some (a5, σ87))))))) else q_ci (pX11_tell σ (-1000003 : Int32)) (fun (τ : SS) => τ) (fun (r89 : Int32) (σ88 : SS) => some (r89, σ88))) else j72)) else (if a3 = (1 : Int32) then q_cr (pX6_isMissing (q_sb σ 46)) (fun (r91 : Int32) => (if r91 = (0 : Int32) then (if (σ 46 0) = (σ 46 0) then q_cr (pX6_hasRange (q_sb σ 46) a2 a5) (fun (r94 : Int32) => q_lt (q_ci (pX11_tell σ (-1000001 : Int32)) (fun (τ : SS) => τ) (fun (r97 : Int32) (σ96 : SS) => some (r97, σ96))) (fun j95 => (if r94 = (0 : Int32) then j95 else q_cr (pX6_hasRange (q_sb σ 46) a4 a5) (fun (r99 : Int32) => (if r99 = (0 : Int32) then j95 else q_ac σ 47 40 47 40 a2 a4 a5 (fun (σ101 : SS) => some (a5, σ101))))))) else q_ci (pX11_tell σ (-1000003 : Int32)) (fun (τ : SS) => τ) (fun (r103 : Int32) (σ102 : SS) => some (r103, σ102))) else j72)) else (if a3 = (2 : Int32) then q_cr (pX6_isMissing (q_sb σ 48)) (fun (r105 : Int32) => (if r105 = (0 : Int32) then (if (σ 46 0) = (σ 48 0) then q_cr (pX6_hasRange (q_sb σ 46) a2 a5) (fun (r108 : Int32) => q_lt (q_ci (pX11_tell σ (-1000001 : Int32)) (fun (τ : SS) => τ) (fun (r111 : Int32) (σ110 : SS) => some (r111, σ110))) (fun j109 => (if r108 = (0 : Int32) then j109 else q_cr (pX6_hasRange (q_sb σ 48) a4 a5) (fun (r113 : Int32) => (if r113 = (0 : Int32) then j109 else q_ac σ 47 40 49 40 a2 a4 a5 (fun (σ115 : SS) => some (a5, σ115))))))) else q_ci (pX11_tell σ (-1000003 : Int32)) (fun (τ : SS) => τ) (fun (r117 : Int32) (σ116 : SS) => some (r117, σ116))) else j72)) else (if a3 = (3 : Int32) then q_cr (pX6_isMissing (q_sb σ 50)) (fun (r119 : Int32) => (if r119 = (0 : Int32) then (if (σ 46 0) = (σ 50 0) then q_cr (pX6_hasRange (q_sb σ 46) a2 a5) (fun (r122 : Int32) => q_lt (q_ci (pX11_tell σ (-1000001 : Int32)) (fun (τ : SS) => τ) (fun (r125 : Int32) (σ124 : SS) => some (r125, σ124))) (fun j123 => (if r122 = (0 : Int32) then j123 else q_cr (pX6_hasRange (q_sb σ 50) a4 a5) (fun (r127 : Int32) => (if r127 = (0 : Int32) then j123 else q_ac σ 47 40 51 40 a2 a4 a5 (fun (σ129 : SS) => some (a5, σ129))))))) else q_ci (pX11_tell σ (-1000003 : Int32)) (fun (τ : SS) => τ) (fun (r131 : Int32) (σ130 : SS) => some (r131, σ130))) else j72)) else none)))) else j72))) else (if a1 = (2 : Int32) then q_cr (pX6_isMissing (q_sb σ 48)) (fun (r133 : Int32) => q_lt (q_ci (pX11_tell σ (-1000006 : Int32)) (fun (τ : SS) => τ) (fun (r136 : Int32) (σ135 : SS) => some (r136, σ135))) (fun j134 => (if r133 = (0 : Int32) then (if a3 = (0 : Int32) then q_cr (pX6_isMissing (q_sb σ 44)) (fun (r139 : Int32) => (if r139 = (0 : Int32) then (if (σ 48 0) = (σ 44 0) then q_cr (pX6_hasRange (q_sb σ 48) a2 a5) (fun (r142 : Int32) => q_lt (q_ci (pX11_tell σ (-1000001 : Int32)) (fun (τ : SS) => τ) (fun (r145 : Int32) (σ144 : SS) => some (r145, σ144))) (fun j143 => (if r142 = (0 : Int32) then j143 else q_cr (pX6_hasRange (q_sb σ 44) a4 a5) (fun (r147 : Int32) => (if r147 = (0 : Int32) then j143 else q_ac σ 49 40 45 40 a2 a4 a5 (fun (σ149 : SS) => some (a5, σ149))))))) else q_ci (pX11_tell σ (-1000003 : Int32)) (fun (τ : SS) => τ) (fun (r151 : Int32) (σ150 : SS) => some (r151, σ150))) else j134)) else (if a3 = (1 : Int32) then q_cr (pX6_isMissing (q_sb σ 46)) (fun (r153 : Int32) => (if r153 = (0 : Int32) then (if (σ 48 0) = (σ 46 0) then q_cr (pX6_hasRange (q_sb σ 48) a2 a5) (fun (r156 : Int32) => q_lt (q_ci (pX11_tell σ (-1000001 : Int32)) (fun (τ : SS) => τ) (fun (r159 : Int32) (σ158 : SS) => some (r159, σ158))) (fun j157 => (if r156 = (0 : Int32) then j157 else q_cr (pX6_hasRange (q_sb σ 46) a4 a5) (fun (r161 : Int32) => (if r161 = (0 : Int32) then j157 else q_ac σ 49 40 47 40 a2 a4 a5 (fun (σ163 : SS) => some (a5, σ163))))))) else q_ci (pX11_tell σ (-1000003 : Int32)) (fun (τ : SS) => τ) (fun (r165 : Int32) (σ164 : SS) => some (r165, σ164))) else j134)) else (if a3 = (2 : Int32) then q_cr (pX6_isMissing (q_sb σ 48)) (fun (r167 : Int32) => (if r167 = (0 : Int32) then (if (σ 48 0) = (σ 48 0) then q_cr (pX6_hasRange (q_sb σ 48) a2 a5) (fun (r170 : Int32) => q_lt (q_ci (pX11_tell σ (-1000001 : Int32)) (fun (τ : SS) => τ) (fun (r173 : Int32) (σ172 : SS) => some (r173, σ172))) (fun j171 => (if r170 = (0 : Int32) then j171 else q_cr (pX6_hasRange (q_sb σ 48) a4 a5) (fun (r175 : Int32) => (if r175 = (0 : Int32) then j171 else q_ac σ 49 40 49 40 a2 a4 a5 (fun (σ177 : SS) => some (a5, σ177))))))) else q_ci (pX11_tell σ (-1000003 : Int32)) (fun (τ : SS) => τ) (fun (r179 : Int32) (σ178 : SS) => some (r179, σ178))) else j134)) else (if a3 = (3 : Int32) then q_cr (pX6_isMissing (q_sb σ 50)) (fun (r181 : Int32) => (if r181 = (0 : Int32) then (if (σ 48 0) = (σ 50 0) then q_cr (pX6_hasRange (q_sb σ 48) a2 a5) (fun (r184 : Int32) => q_lt (q_ci (pX11_tell σ (-1000001 : Int32)) (fun (τ : SS) => τ) (fun (r187 : Int32) (σ186 : SS) => some (r187, σ186))) (fun j185 => (if r184 = (0 : Int32) then j185 else q_cr (pX6_hasRange (q_sb σ 50) a4 a5) (fun (r189 : Int32) => (if r189 = (0 : Int32) then j185 else q_ac σ 49 40 51 40 a2 a4 a5 (fun (σ191 : SS) => some (a5, σ191))))))) else q_ci (pX11_tell σ (-1000003 : Int32)) (fun (τ : SS) => τ) (fun (r193 : Int32) (σ192 : SS) => some (r193, σ192))) else j134)) else none)))) else j134))) else (if a1 = (3 : Int32) then q_cr (pX6_isMissing (q_sb σ 50)) (fun (r195 : Int32) => q_lt (q_ci (pX11_tell σ (-1000006 : Int32)) (fun (τ : SS) => τ) (fun (r198 : Int32) (σ197 : SS) => some (r198, σ197))) (fun j196 => (if r195 = (0 : Int32) then (if a3 = (0 : Int32) then q_cr (pX6_isMissing (q_sb σ 44)) (fun (r201 : Int32) => (if r201 = (0 : Int32) then (if (σ 50 0) = (σ 44 0) then q_cr (pX6_hasRange (q_sb σ 50) a2 a5) (fun (r204 : Int32) => q_lt (q_ci (pX11_tell σ (-1000001 : Int32)) (fun (τ : SS) => τ) (fun (r207 : Int32) (σ206 : SS) => some (r207, σ206))) (fun j205 => (if r204 = (0 : Int32) then j205 else q_cr (pX6_hasRange (q_sb σ 44) a4 a5) (fun (r209 : Int32) => (if r209 = (0 : Int32) then j205 else q_ac σ 51 40 45 40 a2 a4 a5 (fun (σ211 : SS) => some (a5, σ211))))))) else q_ci (pX11_tell σ (-1000003 : Int32)) (fun (τ : SS) => τ) (fun (r213 : Int32) (σ212 : SS) => some (r213, σ212))) else j196)) else (if a3 = (1 : Int32) then q_cr (pX6_isMissing (q_sb σ 46)) (fun (r215 : Int32) => (if r215 = (0 : Int32) then (if (σ 50 0) = (σ 46 0) then q_cr (pX6_hasRange (q_sb σ 50) a2 a5) (fun (r218 : Int32) => q_lt (q_ci (pX11_tell σ (-1000001 : Int32)) (fun (τ : SS) => τ) (fun (r221 : Int32) (σ220 : SS) => some (r221, σ220))) (fun j219 => (if r218 = (0 : Int32) then j219 else q_cr (pX6_hasRange (q_sb σ 46) a4 a5) (fun (r223 : Int32) => (if r223 = (0 : Int32) then j219 else q_ac σ 51 40 47 40 a2 a4 a5 (fun (σ225 : SS) => some (a5, σ225))))))) else q_ci (pX11_tell σ (-1000003 : Int32)) (fun (τ : SS) => τ) (fun (r227 : Int32) (σ226 : SS) => some (r227, σ226))) else j196)) else (if a3 = (2 : Int32) then q_cr (pX6_isMissing (q_sb σ 48)) (fun (r229 : Int32) => (if r229 = (0 : Int32) then (if (σ 50 0) = (σ 48 0) then q_cr (pX6_hasRange (q_sb σ 50) a2 a5) (fun (r232 : Int32) => q_lt (q_ci (pX11_tell σ (-1000001 : Int32)) (fun (τ : SS) => τ) (fun (r235 : Int32) (σ234 : SS) => some (r235, σ234))) (fun j233 => (if r232 = (0 : Int32) then j233 else q_cr (pX6_hasRange (q_sb σ 48) a4 a5) (fun (r237 : Int32) => (if r237 = (0 : Int32) then j233 else q_ac σ 51 40 49 40 a2 a4 a5 (fun (σ239 : SS) => some (a5, σ239))))))) else q_ci (pX11_tell σ (-1000003 : Int32)) (fun (τ : SS) => τ) (fun (r241 : Int32) (σ240 : SS) => some (r241, σ240))) else j196)) else (if a3 = (3 : Int32) then q_cr (pX6_isMissing (q_sb σ 50)) (fun (r243 : Int32) => (if r243 = (0 : Int32) then (if (σ 50 0) = (σ 50 0) then q_cr (pX6_hasRange (q_sb σ 50) a2 a5) (fun (r246 : Int32) => q_lt (q_ci (pX11_tell σ (-1000001 : Int32)) (fun (τ : SS) => τ) (fun (r249 : Int32) (σ248 : SS) => some (r249, σ248))) (fun j247 => (if r246 = (0 : Int32) then j247 else q_cr (pX6_hasRange (q_sb σ 50) a4 a5) (fun (r251 : Int32) => (if r251 = (0 : Int32) then j247 else q_ac σ 51 40 51 40 a2 a4 a5 (fun (σ253 : SS) => some (a5, σ253))))))) else q_ci (pX11_tell σ (-1000003 : Int32)) (fun (τ : SS) => τ) (fun (r255 : Int32) (σ254 : SS) => some (r255, σ254))) else j196)) else none)))) else j196))) else none)))))))))
theorem fwX11_copy_X11 : ∀ w ∈ wsX110, w ∈ wsX11_copy := fun _ h => List.mem_cons_of_mem _ (List.mem_append_left _ (List.mem_append_right _ h))
theorem fwX11_copy_X6 : ∀ w ∈ wsX60, w ∈ wsX11_copy := fun _ h => List.mem_cons_of_mem _ (List.mem_append_right _ h)
abbrev rmX11_copy : Room := { frames := 2, cells := 0, slots := 0, locals := 80 }
set_option maxHeartbeats 4000000 in
set_option maxRecDepth 100000 in
theorem kX11_copy (l : Launch) (D : va_G) (cI cZ cS : ClassId) (zz : ZT) (ad : Nat → Nat) (σ : SS) (a1 : Int32) (a2 : Int32) (a3 : Int32) (a4 : Int32) (a5 : Int32) (rr : Int32) (σr : SS) (hf : pX11_copy σ a1 a2 a3 a4 a5 = some (rr, σr)) : CI l yX11_copy wsX11_copy rmX11_copy D (K3 cI cZ cS) zz [.ref (ad 0), .int a1, .int a2, .int a3, .int a4, .int a5] (wX11 cI cZ cS ad σ) (wX11 cI cZ cS ad σr) rr := by
  refine q_ofI (cc := cX11_copy) (maxL := 6) (ty := .int) (by decide) rfl (Nat.le_of_ble_eq_true rfl) ?_
  intro p e s m below meth c Q A ls hx hb hml hown hts hK hZ hA hP hD hS hl hret
  have hl : lv_has ls 6 [(0, .ref (ad 0)), (1, .int a1), (2, .int a2), (3, .int a3), (4, .int a4), (5, .int a5)] := hl
  unfold pX11_copy at hf
  refine lv_iload_n hx hb dX11_copy_0 rfl (lv_at hl 1 rfl) ?_
  refine q_cSr (wf := (wX11 cI cZ cS ad)) (rest := []) ⟨hx, hb, hml, hown, hts⟩ hK hZ hA hP hD hS hf (fun x ho => kX11_isSheet l D cI cZ cS zz a1 x ho) (va_cwS 1 hts gX11_copy_X11_isSheet rfl rfl rfl ndX11_isSheet.2 ⟨Nat.le_of_ble_eq_true rfl, Nat.le_of_ble_eq_true rfl⟩) rfl (hl.1) rfl (Nat.le_of_ble_eq_true rfl) dX11_copy_1 ⟨Nat.zero_le _, Nat.zero_le _⟩ (fun r1 H locs hf hP hD hS => ?_)
  refine q_lt_go hf (fun j2 ej2 hf => ?_)
  have Jj2 : ∀ (H : Heap) (locs : List Loc) (ls : Array Slot), va_P D vwCl ((wX11 cI cZ cS ad) σ) H → va_D A ((wX11 cI cZ cS ad) σ) → va_S A s.heap H locs → lv_has ls 6 [(0, .ref (ad 0))] → j2 = some (rr, σr) → W p l e rmX11_copy s m ([.ref (ad 0), .int a1, .int a2, .int a3, .int a4, .int a5] : List Value).toArray below meth c H locs 0 0 Q (F0 m 14 ls []) := by
    intro  H locs ls hP hD hS hl hf
    have hf := ej2.symm.trans hf
    refine lv_aload_n hx hb dX11_copy_14 rfl (lv_at hl 0 rfl) ?_
    refine lv_ldc (v := -1000001) hx hb hown (hts _ (List.mem_of_getElem? (i := 1) rfl)) dX11_copy_15 ?_
    refine q_cVi (wf := (wX11 cI cZ cS ad)) (wc := wX11 cI cZ cS ad) (rest := []) ⟨hx, hb, hml, hown, hts⟩ hK hZ hA hP hD hS hf (fun x τ ho => kX11_tell l D cI cZ cS zz ad σ (-1000001 : Int32) x τ ho) (cwV 1 hts gX11_copy_X11_tell rfl rfl rfl ndX11_tell ⟨Nat.le_of_ble_eq_true rfl, Nat.le_of_ble_eq_true rfl⟩) [0, 1, 2, 3, 4, 5, 6, 7, 8, 9, 10, 11, 12, 13, 14, 15, 16, 17, 18, 19, 20, 21, 22, 23, 24, 25, 26, 27, 28, 29, 30, 31, 32, 33, 34, 35, 36, 37, 38, 39, 40, 41, 42, 43, 44, 45, 46, 47, 48, 49, 50, 51, 52, 53, 54, 55, 56, 57, 58, 59, 60, 61, 62, 63, 64, 65, 66, 67, 68, 69, 70, 71] rfl rfl [some 0, some 1, some 2, some 3, some 4, some 5, some 6, some 7, some 8, some 9, some 10, some 11, some 12, some 13, some 14, some 15, some 16, some 17, some 18, some 19, some 20, some 21, some 22, some 23, some 24, some 25, some 26, some 27, some 28, some 29, some 30, some 31, some 32, some 33, some 34, some 35, some 36, some 37, some 38, some 39, some 40, some 41, some 42, some 43, some 44, some 45, some 46, some 47, some 48, some 49, some 50, some 51, some 52, some 53, some 54, some 55, some 56, some 57, some 58, some 59, some 60, some 61, some 62, some 63, some 64, some 65, some 66, some 67, some 68, some 69, some 70, some 71] (by decide +kernel) (Nat.le_of_ble_eq_true rfl) (fun _ => rfl) (fun _ => rfl) (fun _ => rfl) rfl rfl rfl rfl (hl.1) rfl (Nat.le_of_ble_eq_true rfl) dX11_copy_17 ⟨Nat.zero_le _, Nat.zero_le _⟩ (fun r4 σ3 H locs hf hP hD hS => ?_)
    obtain ⟨hi1, hi2⟩ := Prod.mk.inj (Option.some.inj hf)
    subst hi1
    subst hi2
    exact hret _ _ _ _ dX11_copy_20 rfl hP hS
  refine lv_if_eq (tgt := 14) hx hb dX11_copy_4 (by decide) (fun h5 => ?_) (fun h5 => ?_)
  · have hf := (if_pos h5).symm.trans hf
    exact Jj2  _ _ _ hP hD hS (lv_sub hl [0] rfl) hf
  · have hf := (if_neg h5).symm.trans hf
    refine lv_iload_n hx hb dX11_copy_7 rfl (lv_at hl 3 rfl) ?_
    refine q_cSr (wf := (wX11 cI cZ cS ad)) (rest := []) ⟨hx, hb, hml, hown, hts⟩ hK hZ hA hP hD hS hf (fun x ho => kX11_isSheet l D cI cZ cS zz a3 x ho) (va_cwS 1 hts gX11_copy_X11_isSheet rfl rfl rfl ndX11_isSheet.2 ⟨Nat.le_of_ble_eq_true rfl, Nat.le_of_ble_eq_true rfl⟩) rfl (hl.1) rfl (Nat.le_of_ble_eq_true rfl) dX11_copy_8 ⟨Nat.zero_le _, Nat.zero_le _⟩ (fun r6 H locs hf hP hD hS => ?_)
    refine lv_if_ne (tgt := 21) hx hb dX11_copy_11 (by decide) (fun h7 => ?_) (fun h7 => ?_)
    · have hf := (if_neg h7).symm.trans hf
      refine lv_aload_n hx hb dX11_copy_21 rfl (lv_at hl 0 rfl) ?_
      refine va_get (D := D) (ci := 11) (C := RX11) (T := TX11) (N := 9) hx hb hts fwX11_copy_X11 hown hK hP 0 rfl rfl 6 (by decide) (hts _ (List.mem_of_getElem? (i := 2) rfl)) (fun _ h9 => h9) rfl dX11_copy_22 ?_
      refine lv_iload_n hx hb dX11_copy_25 rfl (lv_at hl 1 rfl) ?_
      by_cases h8 : a1 = (0 : Int32)
      · have hfh8 := (if_pos h8).symm.trans hf
        have hlh8 := hl
        subst h8
        have hf := hfh8
        have hl : lv_has ls 6 [(0, .ref (ad 0)), (1, .int (0 : Int32)), (2, .int a2), (3, .int a3), (4, .int a4), (5, .int a5)] := hlh8
        refine va_aldq hx hb hK hP 43 2 rfl rfl (vp_in_iff.mpr (by decide)) dX11_copy_26 ?_
        refine W.eq (g2 := F0 m 27 ls [.ref (ad 44)]) rfl ?_
        refine q_cVr (wf := (wX11 cI cZ cS ad)) (wc := wX6 cI cZ cS (fun i => ad (44 + i))) (rest := []) ⟨hx, hb, hml, hown, hts⟩ hK hZ hA hP hD hS hf (fun x ho => kX6_isMissing l D cI cZ cS zz (fun i => ad (44 + i)) (q_sb σ 44) x ho) (cwV 0 hts gX11_copy_X6_isMissing rfl rfl rfl ndX6_isMissing ⟨Nat.le_of_ble_eq_true rfl, Nat.le_of_ble_eq_true rfl⟩) [44, 45] rfl rfl rfl rfl rfl rfl (hl.1) rfl (Nat.le_of_ble_eq_true rfl) dX11_copy_27 ⟨Nat.zero_le _, Nat.zero_le _⟩ (fun r9 H locs hf hP hD hS => ?_)
        refine q_lt_go hf (fun j10 ej10 hf => ?_)
        have Jj10 : ∀ (H : Heap) (locs : List Loc) (ls : Array Slot), va_P D vwCl ((wX11 cI cZ cS ad) σ) H → va_D A ((wX11 cI cZ cS ad) σ) → va_S A s.heap H locs → lv_has ls 6 [(0, .ref (ad 0))] → j10 = some (rr, σr) → W p l e rmX11_copy s m ([.ref (ad 0), .int (0 : Int32), .int a2, .int a3, .int a4, .int a5] : List Value).toArray below meth c H locs 0 0 Q (F0 m 45 ls []) := by
          intro  H locs ls hP hD hS hl hf
          have hf := ej10.symm.trans hf
          refine lv_aload_n hx hb dX11_copy_45 rfl (lv_at hl 0 rfl) ?_
          refine lv_ldcw (v := -1000006) hx hb hown (hts _ (List.mem_of_getElem? (i := 3) rfl)) dX11_copy_46 ?_
          refine q_cVi (wf := (wX11 cI cZ cS ad)) (wc := wX11 cI cZ cS ad) (rest := []) ⟨hx, hb, hml, hown, hts⟩ hK hZ hA hP hD hS hf (fun x τ ho => kX11_tell l D cI cZ cS zz ad σ (-1000006 : Int32) x τ ho) (cwV 1 hts gX11_copy_X11_tell rfl rfl rfl ndX11_tell ⟨Nat.le_of_ble_eq_true rfl, Nat.le_of_ble_eq_true rfl⟩) [0, 1, 2, 3, 4, 5, 6, 7, 8, 9, 10, 11, 12, 13, 14, 15, 16, 17, 18, 19, 20, 21, 22, 23, 24, 25, 26, 27, 28, 29, 30, 31, 32, 33, 34, 35, 36, 37, 38, 39, 40, 41, 42, 43, 44, 45, 46, 47, 48, 49, 50, 51, 52, 53, 54, 55, 56, 57, 58, 59, 60, 61, 62, 63, 64, 65, 66, 67, 68, 69, 70, 71] rfl rfl [some 0, some 1, some 2, some 3, some 4, some 5, some 6, some 7, some 8, some 9, some 10, some 11, some 12, some 13, some 14, some 15, some 16, some 17, some 18, some 19, some 20, some 21, some 22, some 23, some 24, some 25, some 26, some 27, some 28, some 29, some 30, some 31, some 32, some 33, some 34, some 35, some 36, some 37, some 38, some 39, some 40, some 41, some 42, some 43, some 44, some 45, some 46, some 47, some 48, some 49, some 50, some 51, some 52, some 53, some 54, some 55, some 56, some 57, some 58, some 59, some 60, some 61, some 62, some 63, some 64, some 65, some 66, some 67, some 68, some 69, some 70, some 71] (by decide +kernel) (Nat.le_of_ble_eq_true rfl) (fun _ => rfl) (fun _ => rfl) (fun _ => rfl) rfl rfl rfl rfl (hl.1) rfl (Nat.le_of_ble_eq_true rfl) dX11_copy_49 ⟨Nat.zero_le _, Nat.zero_le _⟩ (fun r12 σ11 H locs hf hP hD hS => ?_)
          obtain ⟨hi1, hi2⟩ := Prod.mk.inj (Option.some.inj hf)
          subst hi1
          subst hi2
          exact hret _ _ _ _ dX11_copy_52 rfl hP hS
        refine lv_if_ne (tgt := 45) hx hb dX11_copy_30 (by decide) (fun h13 => ?_) (fun h13 => ?_)
        · have hf := (if_neg h13).symm.trans hf
          exact Jj10  _ _ _ hP hD hS (lv_sub hl [0] rfl) hf
        · have hf := (if_pos h13).symm.trans hf
          refine lv_aload_n hx hb dX11_copy_33 rfl (lv_at hl 0 rfl) ?_
          refine va_get (D := D) (ci := 11) (C := RX11) (T := TX11) (N := 9) hx hb hts fwX11_copy_X11 hown hK hP 0 rfl rfl 6 (by decide) (hts _ (List.mem_of_getElem? (i := 2) rfl)) (fun _ h9 => h9) rfl dX11_copy_34 ?_
          refine lv_iload_n hx hb dX11_copy_37 rfl (lv_at hl 3 rfl) ?_
          by_cases h14 : a3 = (0 : Int32)
          · have hfh14 := (if_pos h14).symm.trans hf
            have hlh14 := hl
            subst h14
            have hf := hfh14
            have hl : lv_has ls 6 [(0, .ref (ad 0)), (1, .int (0 : Int32)), (2, .int a2), (3, .int (0 : Int32)), (4, .int a4), (5, .int a5)] := hlh14
            refine va_aldq hx hb hK hP 43 2 rfl rfl (vp_in_iff.mpr (by decide)) dX11_copy_38 ?_
            refine W.eq (g2 := F0 m 39 ls [.ref (ad 44)]) rfl ?_
            refine q_cVr (wf := (wX11 cI cZ cS ad)) (wc := wX6 cI cZ cS (fun i => ad (44 + i))) (rest := []) ⟨hx, hb, hml, hown, hts⟩ hK hZ hA hP hD hS hf (fun x ho => kX6_isMissing l D cI cZ cS zz (fun i => ad (44 + i)) (q_sb σ 44) x ho) (cwV 0 hts gX11_copy_X6_isMissing rfl rfl rfl ndX6_isMissing ⟨Nat.le_of_ble_eq_true rfl, Nat.le_of_ble_eq_true rfl⟩) [44, 45] rfl rfl rfl rfl rfl rfl (hl.1) rfl (Nat.le_of_ble_eq_true rfl) dX11_copy_39 ⟨Nat.zero_le _, Nat.zero_le _⟩ (fun r15 H locs hf hP hD hS => ?_)
            refine lv_if_eq (tgt := 53) hx hb dX11_copy_42 (by decide) (fun h16 => ?_) (fun h16 => ?_)
            · have hf := (if_pos h16).symm.trans hf
              refine lv_aload_n hx hb dX11_copy_53 rfl (lv_at hl 0 rfl) ?_
              refine va_get (D := D) (ci := 11) (C := RX11) (T := TX11) (N := 9) hx hb hts fwX11_copy_X11 hown hK hP 0 rfl rfl 6 (by decide) (hts _ (List.mem_of_getElem? (i := 2) rfl)) (fun _ h9 => h9) rfl dX11_copy_54 ?_
              refine lv_iload_n hx hb dX11_copy_57 rfl (lv_at hl 1 rfl) ?_
              refine va_aldq hx hb hK hP 43 2 rfl rfl (vp_in_iff.mpr (by decide)) dX11_copy_58 ?_
              refine W.eq (g2 := F0 m 59 ls [.ref (ad 44)]) rfl ?_
              refine va_get (D := D) (ci := 6) (C := RX6) (T := TX6) (N := 3) hx hb hts fwX11_copy_X6 hown hK hP 44 rfl rfl 0 (by decide) (hts _ (List.mem_of_getElem? (i := 4) rfl)) (fun _ h9 => h9) rfl dX11_copy_59 ?_
              refine lv_aload_n hx hb dX11_copy_62 rfl (lv_at hl 0 rfl) ?_
              refine va_get (D := D) (ci := 11) (C := RX11) (T := TX11) (N := 9) hx hb hts fwX11_copy_X11 hown hK hP 0 rfl rfl 6 (by decide) (hts _ (List.mem_of_getElem? (i := 2) rfl)) (fun _ h9 => h9) rfl dX11_copy_63 ?_
              refine lv_iload_n hx hb dX11_copy_66 rfl (lv_at hl 3 rfl) ?_
              refine va_aldq hx hb hK hP 43 2 rfl rfl (vp_in_iff.mpr (by decide)) dX11_copy_67 ?_
              refine W.eq (g2 := F0 m 68 ls [.ref (ad 44), .int (σ 44 0)]) rfl ?_
              refine va_get (D := D) (ci := 6) (C := RX6) (T := TX6) (N := 3) hx hb hts fwX11_copy_X6 hown hK hP 44 rfl rfl 0 (by decide) (hts _ (List.mem_of_getElem? (i := 4) rfl)) (fun _ h9 => h9) rfl dX11_copy_68 ?_
              refine lv_icmp_eq (tgt := 82) hx hb dX11_copy_71 (by decide) (fun h17 => ?_) (fun h17 => ?_)
              · have hf := (if_pos h17).symm.trans hf
                refine lv_aload_n hx hb dX11_copy_82 rfl (lv_at hl 0 rfl) ?_
                refine va_get (D := D) (ci := 11) (C := RX11) (T := TX11) (N := 9) hx hb hts fwX11_copy_X11 hown hK hP 0 rfl rfl 6 (by decide) (hts _ (List.mem_of_getElem? (i := 2) rfl)) (fun _ h9 => h9) rfl dX11_copy_83 ?_
                refine lv_iload_n hx hb dX11_copy_86 rfl (lv_at hl 1 rfl) ?_
                refine va_aldq hx hb hK hP 43 2 rfl rfl (vp_in_iff.mpr (by decide)) dX11_copy_87 ?_
                refine W.eq (g2 := F0 m 88 ls [.ref (ad 44)]) rfl ?_
                refine lv_iload_n hx hb dX11_copy_88 rfl (lv_at hl 2 rfl) ?_
                refine lv_iload hx hb dX11_copy_89 (lv_at hl 5 rfl) ?_
                refine q_cVr (wf := (wX11 cI cZ cS ad)) (wc := wX6 cI cZ cS (fun i => ad (44 + i))) (rest := []) ⟨hx, hb, hml, hown, hts⟩ hK hZ hA hP hD hS hf (fun x ho => kX6_hasRange l D cI cZ cS zz (fun i => ad (44 + i)) (q_sb σ 44) a2 a5 x ho) (cwV 2 hts gX11_copy_X6_hasRange rfl rfl rfl ndX6_hasRange ⟨Nat.le_of_ble_eq_true rfl, Nat.le_of_ble_eq_true rfl⟩) [44, 45] rfl rfl rfl rfl rfl rfl (hl.1) rfl (Nat.le_of_ble_eq_true rfl) dX11_copy_91 ⟨Nat.zero_le _, Nat.zero_le _⟩ (fun r18 H locs hf hP hD hS => ?_)
                refine q_lt_go hf (fun j19 ej19 hf => ?_)
                have Jj19 : ∀ (H : Heap) (locs : List Loc) (ls : Array Slot), va_P D vwCl ((wX11 cI cZ cS ad) σ) H → va_D A ((wX11 cI cZ cS ad) σ) → va_S A s.heap H locs → lv_has ls 6 [(0, .ref (ad 0))] → j19 = some (rr, σr) → W p l e rmX11_copy s m ([.ref (ad 0), .int (0 : Int32), .int a2, .int (0 : Int32), .int a4, .int a5] : List Value).toArray below meth c H locs 0 0 Q (F0 m 113 ls []) := by
                  intro  H locs ls hP hD hS hl hf
                  have hf := ej19.symm.trans hf
                  refine lv_aload_n hx hb dX11_copy_113 rfl (lv_at hl 0 rfl) ?_
                  refine lv_ldc (v := -1000001) hx hb hown (hts _ (List.mem_of_getElem? (i := 1) rfl)) dX11_copy_114 ?_
                  refine q_cVi (wf := (wX11 cI cZ cS ad)) (wc := wX11 cI cZ cS ad) (rest := []) ⟨hx, hb, hml, hown, hts⟩ hK hZ hA hP hD hS hf (fun x τ ho => kX11_tell l D cI cZ cS zz ad σ (-1000001 : Int32) x τ ho) (cwV 1 hts gX11_copy_X11_tell rfl rfl rfl ndX11_tell ⟨Nat.le_of_ble_eq_true rfl, Nat.le_of_ble_eq_true rfl⟩) [0, 1, 2, 3, 4, 5, 6, 7, 8, 9, 10, 11, 12, 13, 14, 15, 16, 17, 18, 19, 20, 21, 22, 23, 24, 25, 26, 27, 28, 29, 30, 31, 32, 33, 34, 35, 36, 37, 38, 39, 40, 41, 42, 43, 44, 45, 46, 47, 48, 49, 50, 51, 52, 53, 54, 55, 56, 57, 58, 59, 60, 61, 62, 63, 64, 65, 66, 67, 68, 69, 70, 71] rfl rfl [some 0, some 1, some 2, some 3, some 4, some 5, some 6, some 7, some 8, some 9, some 10, some 11, some 12, some 13, some 14, some 15, some 16, some 17, some 18, some 19, some 20, some 21, some 22, some 23, some 24, some 25, some 26, some 27, some 28, some 29, some 30, some 31, some 32, some 33, some 34, some 35, some 36, some 37, some 38, some 39, some 40, some 41, some 42, some 43, some 44, some 45, some 46, some 47, some 48, some 49, some 50, some 51, some 52, some 53, some 54, some 55, some 56, some 57, some 58, some 59, some 60, some 61, some 62, some 63, some 64, some 65, some 66, some 67, some 68, some 69, some 70, some 71] (by decide +kernel) (Nat.le_of_ble_eq_true rfl) (fun _ => rfl) (fun _ => rfl) (fun _ => rfl) rfl rfl rfl rfl (hl.1) rfl (Nat.le_of_ble_eq_true rfl) dX11_copy_116 ⟨Nat.zero_le _, Nat.zero_le _⟩ (fun r21 σ20 H locs hf hP hD hS => ?_)
                  obtain ⟨hi1, hi2⟩ := Prod.mk.inj (Option.some.inj hf)
                  subst hi1
                  subst hi2
                  exact hret _ _ _ _ dX11_copy_119 rfl hP hS
                refine lv_if_eq (tgt := 113) hx hb dX11_copy_94 (by decide) (fun h22 => ?_) (fun h22 => ?_)
                · have hf := (if_pos h22).symm.trans hf
                  exact Jj19  _ _ _ hP hD hS (lv_sub hl [0] rfl) hf
                · have hf := (if_neg h22).symm.trans hf
                  refine lv_aload_n hx hb dX11_copy_97 rfl (lv_at hl 0 rfl) ?_
                  refine va_get (D := D) (ci := 11) (C := RX11) (T := TX11) (N := 9) hx hb hts fwX11_copy_X11 hown hK hP 0 rfl rfl 6 (by decide) (hts _ (List.mem_of_getElem? (i := 2) rfl)) (fun _ h9 => h9) rfl dX11_copy_98 ?_
                  refine lv_iload_n hx hb dX11_copy_101 rfl (lv_at hl 3 rfl) ?_
                  refine va_aldq hx hb hK hP 43 2 rfl rfl (vp_in_iff.mpr (by decide)) dX11_copy_102 ?_
                  refine W.eq (g2 := F0 m 103 ls [.ref (ad 44)]) rfl ?_
                  refine lv_iload hx hb dX11_copy_103 (lv_at hl 4 rfl) ?_
                  refine lv_iload hx hb dX11_copy_105 (lv_at hl 5 rfl) ?_
                  refine q_cVr (wf := (wX11 cI cZ cS ad)) (wc := wX6 cI cZ cS (fun i => ad (44 + i))) (rest := []) ⟨hx, hb, hml, hown, hts⟩ hK hZ hA hP hD hS hf (fun x ho => kX6_hasRange l D cI cZ cS zz (fun i => ad (44 + i)) (q_sb σ 44) a4 a5 x ho) (cwV 2 hts gX11_copy_X6_hasRange rfl rfl rfl ndX6_hasRange ⟨Nat.le_of_ble_eq_true rfl, Nat.le_of_ble_eq_true rfl⟩) [44, 45] rfl rfl rfl rfl rfl rfl (hl.1) rfl (Nat.le_of_ble_eq_true rfl) dX11_copy_107 ⟨Nat.zero_le _, Nat.zero_le _⟩ (fun r23 H locs hf hP hD hS => ?_)
                  refine lv_if_ne (tgt := 120) hx hb dX11_copy_110 (by decide) (fun h24 => ?_) (fun h24 => ?_)
                  · have hf := (if_neg h24).symm.trans hf
                    refine lv_aload_n hx hb dX11_copy_120 rfl (lv_at hl 0 rfl) ?_
                    refine va_get (D := D) (ci := 11) (C := RX11) (T := TX11) (N := 9) hx hb hts fwX11_copy_X11 hown hK hP 0 rfl rfl 6 (by decide) (hts _ (List.mem_of_getElem? (i := 2) rfl)) (fun _ h9 => h9) rfl dX11_copy_121 ?_
                    refine lv_iload_n hx hb dX11_copy_124 rfl (lv_at hl 1 rfl) ?_
                    refine va_aldq hx hb hK hP 43 2 rfl rfl (vp_in_iff.mpr (by decide)) dX11_copy_125 ?_
                    refine W.eq (g2 := F0 m 126 ls [.ref (ad 44)]) rfl ?_
                    refine va_get (D := D) (ci := 6) (C := RX6) (T := TX6) (N := 3) hx hb hts fwX11_copy_X6 hown hK hP 44 rfl rfl 2 (by decide) (hts _ (List.mem_of_getElem? (i := 6) rfl)) (fun _ h9 => h9) rfl dX11_copy_126 ?_
                    refine lv_iload_n hx hb dX11_copy_129 rfl (lv_at hl 2 rfl) ?_
                    refine lv_aload_n hx hb dX11_copy_130 rfl (lv_at hl 0 rfl) ?_
                    refine va_get (D := D) (ci := 11) (C := RX11) (T := TX11) (N := 9) hx hb hts fwX11_copy_X11 hown hK hP 0 rfl rfl 6 (by decide) (hts _ (List.mem_of_getElem? (i := 2) rfl)) (fun _ h9 => h9) rfl dX11_copy_131 ?_
                    refine lv_iload_n hx hb dX11_copy_134 rfl (lv_at hl 3 rfl) ?_
                    refine va_aldq hx hb hK hP 43 2 rfl rfl (vp_in_iff.mpr (by decide)) dX11_copy_135 ?_
                    refine W.eq (g2 := F0 m 136 ls [.ref (ad 44), .int a2, .ref (ad 45)]) rfl ?_
                    refine va_get (D := D) (ci := 6) (C := RX6) (T := TX6) (N := 3) hx hb hts fwX11_copy_X6 hown hK hP 44 rfl rfl 2 (by decide) (hts _ (List.mem_of_getElem? (i := 6) rfl)) (fun _ h9 => h9) rfl dX11_copy_136 ?_
                    refine lv_iload hx hb dX11_copy_139 (lv_at hl 4 rfl) ?_
                    refine lv_iload hx hb dX11_copy_141 (lv_at hl 5 rfl) ?_
                    refine w_copy (D := D) (wf := (wX11 cI cZ cS ad)) (i0 := 45) (i1 := 45) hx hb (hml.trans hl.1.symm) hown (hts _ (List.mem_of_getElem? (i := 7) rfl)) (hts _ (List.mem_of_getElem? (i := 8) rfl)) (hts _ (List.mem_of_getElem? (i := 9) rfl)) (hts _ (List.mem_of_getElem? (i := 10) rfl)) hK hP hD hS 45 45 0 rfl rfl rfl hf (fun _ => rfl) (Nat.le_of_ble_eq_true rfl) (Nat.le_of_ble_eq_true rfl) dX11_copy_143 (fun σ25 H locs hf hP hD hS => ?_)
                    refine lv_iload hx hb dX11_copy_146 (lv_at hl 5 rfl) ?_
                    obtain ⟨hi1, hi2⟩ := Prod.mk.inj (Option.some.inj hf)
                    subst hi1
                    subst hi2
                    exact hret _ _ _ _ dX11_copy_148 rfl hP hS
                  · have hf := (if_pos h24).symm.trans hf
                    exact Jj19  _ _ _ hP hD hS (lv_sub hl [0] rfl) hf
              · have hf := (if_neg h17).symm.trans hf
                refine lv_aload_n hx hb dX11_copy_74 rfl (lv_at hl 0 rfl) ?_
                refine lv_ldcw (v := -1000003) hx hb hown (hts _ (List.mem_of_getElem? (i := 5) rfl)) dX11_copy_75 ?_
                refine q_cVi (wf := (wX11 cI cZ cS ad)) (wc := wX11 cI cZ cS ad) (rest := []) ⟨hx, hb, hml, hown, hts⟩ hK hZ hA hP hD hS hf (fun x τ ho => kX11_tell l D cI cZ cS zz ad σ (-1000003 : Int32) x τ ho) (cwV 1 hts gX11_copy_X11_tell rfl rfl rfl ndX11_tell ⟨Nat.le_of_ble_eq_true rfl, Nat.le_of_ble_eq_true rfl⟩) [0, 1, 2, 3, 4, 5, 6, 7, 8, 9, 10, 11, 12, 13, 14, 15, 16, 17, 18, 19, 20, 21, 22, 23, 24, 25, 26, 27, 28, 29, 30, 31, 32, 33, 34, 35, 36, 37, 38, 39, 40, 41, 42, 43, 44, 45, 46, 47, 48, 49, 50, 51, 52, 53, 54, 55, 56, 57, 58, 59, 60, 61, 62, 63, 64, 65, 66, 67, 68, 69, 70, 71] rfl rfl [some 0, some 1, some 2, some 3, some 4, some 5, some 6, some 7, some 8, some 9, some 10, some 11, some 12, some 13, some 14, some 15, some 16, some 17, some 18, some 19, some 20, some 21, some 22, some 23, some 24, some 25, some 26, some 27, some 28, some 29, some 30, some 31, some 32, some 33, some 34, some 35, some 36, some 37, some 38, some 39, some 40, some 41, some 42, some 43, some 44, some 45, some 46, some 47, some 48, some 49, some 50, some 51, some 52, some 53, some 54, some 55, some 56, some 57, some 58, some 59, some 60, some 61, some 62, some 63, some 64, some 65, some 66, some 67, some 68, some 69, some 70, some 71] (by decide +kernel) (Nat.le_of_ble_eq_true rfl) (fun _ => rfl) (fun _ => rfl) (fun _ => rfl) rfl rfl rfl rfl (hl.1) rfl (Nat.le_of_ble_eq_true rfl) dX11_copy_78 ⟨Nat.zero_le _, Nat.zero_le _⟩ (fun r27 σ26 H locs hf hP hD hS => ?_)
                obtain ⟨hi1, hi2⟩ := Prod.mk.inj (Option.some.inj hf)
                subst hi1
                subst hi2
                exact hret _ _ _ _ dX11_copy_81 rfl hP hS
            · have hf := (if_neg h16).symm.trans hf
              exact Jj10  _ _ _ hP hD hS (lv_sub hl [0] rfl) hf
          have hf := (if_neg h14).symm.trans hf
          by_cases h28 : a3 = (1 : Int32)
          · have hfh28 := (if_pos h28).symm.trans hf
            have hlh28 := hl
            subst h28
            have hf := hfh28
            have hl : lv_has ls 6 [(0, .ref (ad 0)), (1, .int (0 : Int32)), (2, .int a2), (3, .int (1 : Int32)), (4, .int a4), (5, .int a5)] := hlh28
            refine va_aldq hx hb hK hP 43 2 rfl rfl (vp_in_iff.mpr (by decide)) dX11_copy_38 ?_
            refine W.eq (g2 := F0 m 39 ls [.ref (ad 46)]) rfl ?_
            refine q_cVr (wf := (wX11 cI cZ cS ad)) (wc := wX6 cI cZ cS (fun i => ad (46 + i))) (rest := []) ⟨hx, hb, hml, hown, hts⟩ hK hZ hA hP hD hS hf (fun x ho => kX6_isMissing l D cI cZ cS zz (fun i => ad (46 + i)) (q_sb σ 46) x ho) (cwV 0 hts gX11_copy_X6_isMissing rfl rfl rfl ndX6_isMissing ⟨Nat.le_of_ble_eq_true rfl, Nat.le_of_ble_eq_true rfl⟩) [46, 47] rfl rfl rfl rfl rfl rfl (hl.1) rfl (Nat.le_of_ble_eq_true rfl) dX11_copy_39 ⟨Nat.zero_le _, Nat.zero_le _⟩ (fun r29 H locs hf hP hD hS => ?_)
            refine lv_if_eq (tgt := 53) hx hb dX11_copy_42 (by decide) (fun h30 => ?_) (fun h30 => ?_)
            · have hf := (if_pos h30).symm.trans hf
              refine lv_aload_n hx hb dX11_copy_53 rfl (lv_at hl 0 rfl) ?_
              refine va_get (D := D) (ci := 11) (C := RX11) (T := TX11) (N := 9) hx hb hts fwX11_copy_X11 hown hK hP 0 rfl rfl 6 (by decide) (hts _ (List.mem_of_getElem? (i := 2) rfl)) (fun _ h9 => h9) rfl dX11_copy_54 ?_
              refine lv_iload_n hx hb dX11_copy_57 rfl (lv_at hl 1 rfl) ?_
              refine va_aldq hx hb hK hP 43 2 rfl rfl (vp_in_iff.mpr (by decide)) dX11_copy_58 ?_
              refine W.eq (g2 := F0 m 59 ls [.ref (ad 44)]) rfl ?_
              refine va_get (D := D) (ci := 6) (C := RX6) (T := TX6) (N := 3) hx hb hts fwX11_copy_X6 hown hK hP 44 rfl rfl 0 (by decide) (hts _ (List.mem_of_getElem? (i := 4) rfl)) (fun _ h9 => h9) rfl dX11_copy_59 ?_
              refine lv_aload_n hx hb dX11_copy_62 rfl (lv_at hl 0 rfl) ?_
              refine va_get (D := D) (ci := 11) (C := RX11) (T := TX11) (N := 9) hx hb hts fwX11_copy_X11 hown hK hP 0 rfl rfl 6 (by decide) (hts _ (List.mem_of_getElem? (i := 2) rfl)) (fun _ h9 => h9) rfl dX11_copy_63 ?_
              refine lv_iload_n hx hb dX11_copy_66 rfl (lv_at hl 3 rfl) ?_
              refine va_aldq hx hb hK hP 43 2 rfl rfl (vp_in_iff.mpr (by decide)) dX11_copy_67 ?_
              refine W.eq (g2 := F0 m 68 ls [.ref (ad 46), .int (σ 44 0)]) rfl ?_
              refine va_get (D := D) (ci := 6) (C := RX6) (T := TX6) (N := 3) hx hb hts fwX11_copy_X6 hown hK hP 46 rfl rfl 0 (by decide) (hts _ (List.mem_of_getElem? (i := 4) rfl)) (fun _ h9 => h9) rfl dX11_copy_68 ?_
              refine lv_icmp_eq (tgt := 82) hx hb dX11_copy_71 (by decide) (fun h31 => ?_) (fun h31 => ?_)
              · have hf := (if_pos h31).symm.trans hf
                refine lv_aload_n hx hb dX11_copy_82 rfl (lv_at hl 0 rfl) ?_
                refine va_get (D := D) (ci := 11) (C := RX11) (T := TX11) (N := 9) hx hb hts fwX11_copy_X11 hown hK hP 0 rfl rfl 6 (by decide) (hts _ (List.mem_of_getElem? (i := 2) rfl)) (fun _ h9 => h9) rfl dX11_copy_83 ?_
                refine lv_iload_n hx hb dX11_copy_86 rfl (lv_at hl 1 rfl) ?_
                refine va_aldq hx hb hK hP 43 2 rfl rfl (vp_in_iff.mpr (by decide)) dX11_copy_87 ?_
                refine W.eq (g2 := F0 m 88 ls [.ref (ad 44)]) rfl ?_
                refine lv_iload_n hx hb dX11_copy_88 rfl (lv_at hl 2 rfl) ?_
                refine lv_iload hx hb dX11_copy_89 (lv_at hl 5 rfl) ?_
                refine q_cVr (wf := (wX11 cI cZ cS ad)) (wc := wX6 cI cZ cS (fun i => ad (44 + i))) (rest := []) ⟨hx, hb, hml, hown, hts⟩ hK hZ hA hP hD hS hf (fun x ho => kX6_hasRange l D cI cZ cS zz (fun i => ad (44 + i)) (q_sb σ 44) a2 a5 x ho) (cwV 2 hts gX11_copy_X6_hasRange rfl rfl rfl ndX6_hasRange ⟨Nat.le_of_ble_eq_true rfl, Nat.le_of_ble_eq_true rfl⟩) [44, 45] rfl rfl rfl rfl rfl rfl (hl.1) rfl (Nat.le_of_ble_eq_true rfl) dX11_copy_91 ⟨Nat.zero_le _, Nat.zero_le _⟩ (fun r32 H locs hf hP hD hS => ?_)
                refine q_lt_go hf (fun j33 ej33 hf => ?_)
                have Jj33 : ∀ (H : Heap) (locs : List Loc) (ls : Array Slot), va_P D vwCl ((wX11 cI cZ cS ad) σ) H → va_D A ((wX11 cI cZ cS ad) σ) → va_S A s.heap H locs → lv_has ls 6 [(0, .ref (ad 0))] → j33 = some (rr, σr) → W p l e rmX11_copy s m ([.ref (ad 0), .int (0 : Int32), .int a2, .int (1 : Int32), .int a4, .int a5] : List Value).toArray below meth c H locs 0 0 Q (F0 m 113 ls []) := by
                  intro  H locs ls hP hD hS hl hf
                  have hf := ej33.symm.trans hf
                  refine lv_aload_n hx hb dX11_copy_113 rfl (lv_at hl 0 rfl) ?_
                  refine lv_ldc (v := -1000001) hx hb hown (hts _ (List.mem_of_getElem? (i := 1) rfl)) dX11_copy_114 ?_
                  refine q_cVi (wf := (wX11 cI cZ cS ad)) (wc := wX11 cI cZ cS ad) (rest := []) ⟨hx, hb, hml, hown, hts⟩ hK hZ hA hP hD hS hf (fun x τ ho => kX11_tell l D cI cZ cS zz ad σ (-1000001 : Int32) x τ ho) (cwV 1 hts gX11_copy_X11_tell rfl rfl rfl ndX11_tell ⟨Nat.le_of_ble_eq_true rfl, Nat.le_of_ble_eq_true rfl⟩) [0, 1, 2, 3, 4, 5, 6, 7, 8, 9, 10, 11, 12, 13, 14, 15, 16, 17, 18, 19, 20, 21, 22, 23, 24, 25, 26, 27, 28, 29, 30, 31, 32, 33, 34, 35, 36, 37, 38, 39, 40, 41, 42, 43, 44, 45, 46, 47, 48, 49, 50, 51, 52, 53, 54, 55, 56, 57, 58, 59, 60, 61, 62, 63, 64, 65, 66, 67, 68, 69, 70, 71] rfl rfl [some 0, some 1, some 2, some 3, some 4, some 5, some 6, some 7, some 8, some 9, some 10, some 11, some 12, some 13, some 14, some 15, some 16, some 17, some 18, some 19, some 20, some 21, some 22, some 23, some 24, some 25, some 26, some 27, some 28, some 29, some 30, some 31, some 32, some 33, some 34, some 35, some 36, some 37, some 38, some 39, some 40, some 41, some 42, some 43, some 44, some 45, some 46, some 47, some 48, some 49, some 50, some 51, some 52, some 53, some 54, some 55, some 56, some 57, some 58, some 59, some 60, some 61, some 62, some 63, some 64, some 65, some 66, some 67, some 68, some 69, some 70, some 71] (by decide +kernel) (Nat.le_of_ble_eq_true rfl) (fun _ => rfl) (fun _ => rfl) (fun _ => rfl) rfl rfl rfl rfl (hl.1) rfl (Nat.le_of_ble_eq_true rfl) dX11_copy_116 ⟨Nat.zero_le _, Nat.zero_le _⟩ (fun r35 σ34 H locs hf hP hD hS => ?_)
                  obtain ⟨hi1, hi2⟩ := Prod.mk.inj (Option.some.inj hf)
                  subst hi1
                  subst hi2
                  exact hret _ _ _ _ dX11_copy_119 rfl hP hS
                refine lv_if_eq (tgt := 113) hx hb dX11_copy_94 (by decide) (fun h36 => ?_) (fun h36 => ?_)
                · have hf := (if_pos h36).symm.trans hf
                  exact Jj33  _ _ _ hP hD hS (lv_sub hl [0] rfl) hf
                · have hf := (if_neg h36).symm.trans hf
                  refine lv_aload_n hx hb dX11_copy_97 rfl (lv_at hl 0 rfl) ?_
                  refine va_get (D := D) (ci := 11) (C := RX11) (T := TX11) (N := 9) hx hb hts fwX11_copy_X11 hown hK hP 0 rfl rfl 6 (by decide) (hts _ (List.mem_of_getElem? (i := 2) rfl)) (fun _ h9 => h9) rfl dX11_copy_98 ?_
                  refine lv_iload_n hx hb dX11_copy_101 rfl (lv_at hl 3 rfl) ?_
                  refine va_aldq hx hb hK hP 43 2 rfl rfl (vp_in_iff.mpr (by decide)) dX11_copy_102 ?_
                  refine W.eq (g2 := F0 m 103 ls [.ref (ad 46)]) rfl ?_
                  refine lv_iload hx hb dX11_copy_103 (lv_at hl 4 rfl) ?_
                  refine lv_iload hx hb dX11_copy_105 (lv_at hl 5 rfl) ?_
                  refine q_cVr (wf := (wX11 cI cZ cS ad)) (wc := wX6 cI cZ cS (fun i => ad (46 + i))) (rest := []) ⟨hx, hb, hml, hown, hts⟩ hK hZ hA hP hD hS hf (fun x ho => kX6_hasRange l D cI cZ cS zz (fun i => ad (46 + i)) (q_sb σ 46) a4 a5 x ho) (cwV 2 hts gX11_copy_X6_hasRange rfl rfl rfl ndX6_hasRange ⟨Nat.le_of_ble_eq_true rfl, Nat.le_of_ble_eq_true rfl⟩) [46, 47] rfl rfl rfl rfl rfl rfl (hl.1) rfl (Nat.le_of_ble_eq_true rfl) dX11_copy_107 ⟨Nat.zero_le _, Nat.zero_le _⟩ (fun r37 H locs hf hP hD hS => ?_)
                  refine lv_if_ne (tgt := 120) hx hb dX11_copy_110 (by decide) (fun h38 => ?_) (fun h38 => ?_)
                  · have hf := (if_neg h38).symm.trans hf
                    refine lv_aload_n hx hb dX11_copy_120 rfl (lv_at hl 0 rfl) ?_
                    refine va_get (D := D) (ci := 11) (C := RX11) (T := TX11) (N := 9) hx hb hts fwX11_copy_X11 hown hK hP 0 rfl rfl 6 (by decide) (hts _ (List.mem_of_getElem? (i := 2) rfl)) (fun _ h9 => h9) rfl dX11_copy_121 ?_
                    refine lv_iload_n hx hb dX11_copy_124 rfl (lv_at hl 1 rfl) ?_
                    refine va_aldq hx hb hK hP 43 2 rfl rfl (vp_in_iff.mpr (by decide)) dX11_copy_125 ?_
                    refine W.eq (g2 := F0 m 126 ls [.ref (ad 44)]) rfl ?_
                    refine va_get (D := D) (ci := 6) (C := RX6) (T := TX6) (N := 3) hx hb hts fwX11_copy_X6 hown hK hP 44 rfl rfl 2 (by decide) (hts _ (List.mem_of_getElem? (i := 6) rfl)) (fun _ h9 => h9) rfl dX11_copy_126 ?_
                    refine lv_iload_n hx hb dX11_copy_129 rfl (lv_at hl 2 rfl) ?_
                    refine lv_aload_n hx hb dX11_copy_130 rfl (lv_at hl 0 rfl) ?_
                    refine va_get (D := D) (ci := 11) (C := RX11) (T := TX11) (N := 9) hx hb hts fwX11_copy_X11 hown hK hP 0 rfl rfl 6 (by decide) (hts _ (List.mem_of_getElem? (i := 2) rfl)) (fun _ h9 => h9) rfl dX11_copy_131 ?_
                    refine lv_iload_n hx hb dX11_copy_134 rfl (lv_at hl 3 rfl) ?_
                    refine va_aldq hx hb hK hP 43 2 rfl rfl (vp_in_iff.mpr (by decide)) dX11_copy_135 ?_
                    refine W.eq (g2 := F0 m 136 ls [.ref (ad 46), .int a2, .ref (ad 45)]) rfl ?_
                    refine va_get (D := D) (ci := 6) (C := RX6) (T := TX6) (N := 3) hx hb hts fwX11_copy_X6 hown hK hP 46 rfl rfl 2 (by decide) (hts _ (List.mem_of_getElem? (i := 6) rfl)) (fun _ h9 => h9) rfl dX11_copy_136 ?_
                    refine lv_iload hx hb dX11_copy_139 (lv_at hl 4 rfl) ?_
                    refine lv_iload hx hb dX11_copy_141 (lv_at hl 5 rfl) ?_
                    refine w_copy (D := D) (wf := (wX11 cI cZ cS ad)) (i0 := 45) (i1 := 47) hx hb (hml.trans hl.1.symm) hown (hts _ (List.mem_of_getElem? (i := 7) rfl)) (hts _ (List.mem_of_getElem? (i := 8) rfl)) (hts _ (List.mem_of_getElem? (i := 9) rfl)) (hts _ (List.mem_of_getElem? (i := 10) rfl)) hK hP hD hS 45 47 0 rfl rfl rfl hf (fun _ => rfl) (Nat.le_of_ble_eq_true rfl) (Nat.le_of_ble_eq_true rfl) dX11_copy_143 (fun σ39 H locs hf hP hD hS => ?_)
                    refine lv_iload hx hb dX11_copy_146 (lv_at hl 5 rfl) ?_
                    obtain ⟨hi1, hi2⟩ := Prod.mk.inj (Option.some.inj hf)
                    subst hi1
                    subst hi2
                    exact hret _ _ _ _ dX11_copy_148 rfl hP hS
                  · have hf := (if_pos h38).symm.trans hf
                    exact Jj33  _ _ _ hP hD hS (lv_sub hl [0] rfl) hf
              · have hf := (if_neg h31).symm.trans hf
                refine lv_aload_n hx hb dX11_copy_74 rfl (lv_at hl 0 rfl) ?_
                refine lv_ldcw (v := -1000003) hx hb hown (hts _ (List.mem_of_getElem? (i := 5) rfl)) dX11_copy_75 ?_
                refine q_cVi (wf := (wX11 cI cZ cS ad)) (wc := wX11 cI cZ cS ad) (rest := []) ⟨hx, hb, hml, hown, hts⟩ hK hZ hA hP hD hS hf (fun x τ ho => kX11_tell l D cI cZ cS zz ad σ (-1000003 : Int32) x τ ho) (cwV 1 hts gX11_copy_X11_tell rfl rfl rfl ndX11_tell ⟨Nat.le_of_ble_eq_true rfl, Nat.le_of_ble_eq_true rfl⟩) [0, 1, 2, 3, 4, 5, 6, 7, 8, 9, 10, 11, 12, 13, 14, 15, 16, 17, 18, 19, 20, 21, 22, 23, 24, 25, 26, 27, 28, 29, 30, 31, 32, 33, 34, 35, 36, 37, 38, 39, 40, 41, 42, 43, 44, 45, 46, 47, 48, 49, 50, 51, 52, 53, 54, 55, 56, 57, 58, 59, 60, 61, 62, 63, 64, 65, 66, 67, 68, 69, 70, 71] rfl rfl [some 0, some 1, some 2, some 3, some 4, some 5, some 6, some 7, some 8, some 9, some 10, some 11, some 12, some 13, some 14, some 15, some 16, some 17, some 18, some 19, some 20, some 21, some 22, some 23, some 24, some 25, some 26, some 27, some 28, some 29, some 30, some 31, some 32, some 33, some 34, some 35, some 36, some 37, some 38, some 39, some 40, some 41, some 42, some 43, some 44, some 45, some 46, some 47, some 48, some 49, some 50, some 51, some 52, some 53, some 54, some 55, some 56, some 57, some 58, some 59, some 60, some 61, some 62, some 63, some 64, some 65, some 66, some 67, some 68, some 69, some 70, some 71] (by decide +kernel) (Nat.le_of_ble_eq_true rfl) (fun _ => rfl) (fun _ => rfl) (fun _ => rfl) rfl rfl rfl rfl (hl.1) rfl (Nat.le_of_ble_eq_true rfl) dX11_copy_78 ⟨Nat.zero_le _, Nat.zero_le _⟩ (fun r41 σ40 H locs hf hP hD hS => ?_)
                obtain ⟨hi1, hi2⟩ := Prod.mk.inj (Option.some.inj hf)
                subst hi1
                subst hi2
                exact hret _ _ _ _ dX11_copy_81 rfl hP hS
            · have hf := (if_neg h30).symm.trans hf
              exact Jj10  _ _ _ hP hD hS (lv_sub hl [0] rfl) hf
          have hf := (if_neg h28).symm.trans hf
          by_cases h42 : a3 = (2 : Int32)
          · have hfh42 := (if_pos h42).symm.trans hf
            have hlh42 := hl
            subst h42
            have hf := hfh42
            have hl : lv_has ls 6 [(0, .ref (ad 0)), (1, .int (0 : Int32)), (2, .int a2), (3, .int (2 : Int32)), (4, .int a4), (5, .int a5)] := hlh42
            refine va_aldq hx hb hK hP 43 2 rfl rfl (vp_in_iff.mpr (by decide)) dX11_copy_38 ?_
            refine W.eq (g2 := F0 m 39 ls [.ref (ad 48)]) rfl ?_
            refine q_cVr (wf := (wX11 cI cZ cS ad)) (wc := wX6 cI cZ cS (fun i => ad (48 + i))) (rest := []) ⟨hx, hb, hml, hown, hts⟩ hK hZ hA hP hD hS hf (fun x ho => kX6_isMissing l D cI cZ cS zz (fun i => ad (48 + i)) (q_sb σ 48) x ho) (cwV 0 hts gX11_copy_X6_isMissing rfl rfl rfl ndX6_isMissing ⟨Nat.le_of_ble_eq_true rfl, Nat.le_of_ble_eq_true rfl⟩) [48, 49] rfl rfl rfl rfl rfl rfl (hl.1) rfl (Nat.le_of_ble_eq_true rfl) dX11_copy_39 ⟨Nat.zero_le _, Nat.zero_le _⟩ (fun r43 H locs hf hP hD hS => ?_)
            refine lv_if_eq (tgt := 53) hx hb dX11_copy_42 (by decide) (fun h44 => ?_) (fun h44 => ?_)
            · have hf := (if_pos h44).symm.trans hf
              refine lv_aload_n hx hb dX11_copy_53 rfl (lv_at hl 0 rfl) ?_
              refine va_get (D := D) (ci := 11) (C := RX11) (T := TX11) (N := 9) hx hb hts fwX11_copy_X11 hown hK hP 0 rfl rfl 6 (by decide) (hts _ (List.mem_of_getElem? (i := 2) rfl)) (fun _ h9 => h9) rfl dX11_copy_54 ?_
              refine lv_iload_n hx hb dX11_copy_57 rfl (lv_at hl 1 rfl) ?_
              refine va_aldq hx hb hK hP 43 2 rfl rfl (vp_in_iff.mpr (by decide)) dX11_copy_58 ?_
              refine W.eq (g2 := F0 m 59 ls [.ref (ad 44)]) rfl ?_
              refine va_get (D := D) (ci := 6) (C := RX6) (T := TX6) (N := 3) hx hb hts fwX11_copy_X6 hown hK hP 44 rfl rfl 0 (by decide) (hts _ (List.mem_of_getElem? (i := 4) rfl)) (fun _ h9 => h9) rfl dX11_copy_59 ?_
              refine lv_aload_n hx hb dX11_copy_62 rfl (lv_at hl 0 rfl) ?_
              refine va_get (D := D) (ci := 11) (C := RX11) (T := TX11) (N := 9) hx hb hts fwX11_copy_X11 hown hK hP 0 rfl rfl 6 (by decide) (hts _ (List.mem_of_getElem? (i := 2) rfl)) (fun _ h9 => h9) rfl dX11_copy_63 ?_
              refine lv_iload_n hx hb dX11_copy_66 rfl (lv_at hl 3 rfl) ?_
              refine va_aldq hx hb hK hP 43 2 rfl rfl (vp_in_iff.mpr (by decide)) dX11_copy_67 ?_
              refine W.eq (g2 := F0 m 68 ls [.ref (ad 48), .int (σ 44 0)]) rfl ?_
              refine va_get (D := D) (ci := 6) (C := RX6) (T := TX6) (N := 3) hx hb hts fwX11_copy_X6 hown hK hP 48 rfl rfl 0 (by decide) (hts _ (List.mem_of_getElem? (i := 4) rfl)) (fun _ h9 => h9) rfl dX11_copy_68 ?_
              refine lv_icmp_eq (tgt := 82) hx hb dX11_copy_71 (by decide) (fun h45 => ?_) (fun h45 => ?_)
              · have hf := (if_pos h45).symm.trans hf
                refine lv_aload_n hx hb dX11_copy_82 rfl (lv_at hl 0 rfl) ?_
                refine va_get (D := D) (ci := 11) (C := RX11) (T := TX11) (N := 9) hx hb hts fwX11_copy_X11 hown hK hP 0 rfl rfl 6 (by decide) (hts _ (List.mem_of_getElem? (i := 2) rfl)) (fun _ h9 => h9) rfl dX11_copy_83 ?_
                refine lv_iload_n hx hb dX11_copy_86 rfl (lv_at hl 1 rfl) ?_
                refine va_aldq hx hb hK hP 43 2 rfl rfl (vp_in_iff.mpr (by decide)) dX11_copy_87 ?_
                refine W.eq (g2 := F0 m 88 ls [.ref (ad 44)]) rfl ?_
                refine lv_iload_n hx hb dX11_copy_88 rfl (lv_at hl 2 rfl) ?_
                refine lv_iload hx hb dX11_copy_89 (lv_at hl 5 rfl) ?_
                refine q_cVr (wf := (wX11 cI cZ cS ad)) (wc := wX6 cI cZ cS (fun i => ad (44 + i))) (rest := []) ⟨hx, hb, hml, hown, hts⟩ hK hZ hA hP hD hS hf (fun x ho => kX6_hasRange l D cI cZ cS zz (fun i => ad (44 + i)) (q_sb σ 44) a2 a5 x ho) (cwV 2 hts gX11_copy_X6_hasRange rfl rfl rfl ndX6_hasRange ⟨Nat.le_of_ble_eq_true rfl, Nat.le_of_ble_eq_true rfl⟩) [44, 45] rfl rfl rfl rfl rfl rfl (hl.1) rfl (Nat.le_of_ble_eq_true rfl) dX11_copy_91 ⟨Nat.zero_le _, Nat.zero_le _⟩ (fun r46 H locs hf hP hD hS => ?_)
                refine q_lt_go hf (fun j47 ej47 hf => ?_)
                have Jj47 : ∀ (H : Heap) (locs : List Loc) (ls : Array Slot), va_P D vwCl ((wX11 cI cZ cS ad) σ) H → va_D A ((wX11 cI cZ cS ad) σ) → va_S A s.heap H locs → lv_has ls 6 [(0, .ref (ad 0))] → j47 = some (rr, σr) → W p l e rmX11_copy s m ([.ref (ad 0), .int (0 : Int32), .int a2, .int (2 : Int32), .int a4, .int a5] : List Value).toArray below meth c H locs 0 0 Q (F0 m 113 ls []) := by
                  intro  H locs ls hP hD hS hl hf
                  have hf := ej47.symm.trans hf
                  refine lv_aload_n hx hb dX11_copy_113 rfl (lv_at hl 0 rfl) ?_
                  refine lv_ldc (v := -1000001) hx hb hown (hts _ (List.mem_of_getElem? (i := 1) rfl)) dX11_copy_114 ?_
                  refine q_cVi (wf := (wX11 cI cZ cS ad)) (wc := wX11 cI cZ cS ad) (rest := []) ⟨hx, hb, hml, hown, hts⟩ hK hZ hA hP hD hS hf (fun x τ ho => kX11_tell l D cI cZ cS zz ad σ (-1000001 : Int32) x τ ho) (cwV 1 hts gX11_copy_X11_tell rfl rfl rfl ndX11_tell ⟨Nat.le_of_ble_eq_true rfl, Nat.le_of_ble_eq_true rfl⟩) [0, 1, 2, 3, 4, 5, 6, 7, 8, 9, 10, 11, 12, 13, 14, 15, 16, 17, 18, 19, 20, 21, 22, 23, 24, 25, 26, 27, 28, 29, 30, 31, 32, 33, 34, 35, 36, 37, 38, 39, 40, 41, 42, 43, 44, 45, 46, 47, 48, 49, 50, 51, 52, 53, 54, 55, 56, 57, 58, 59, 60, 61, 62, 63, 64, 65, 66, 67, 68, 69, 70, 71] rfl rfl [some 0, some 1, some 2, some 3, some 4, some 5, some 6, some 7, some 8, some 9, some 10, some 11, some 12, some 13, some 14, some 15, some 16, some 17, some 18, some 19, some 20, some 21, some 22, some 23, some 24, some 25, some 26, some 27, some 28, some 29, some 30, some 31, some 32, some 33, some 34, some 35, some 36, some 37, some 38, some 39, some 40, some 41, some 42, some 43, some 44, some 45, some 46, some 47, some 48, some 49, some 50, some 51, some 52, some 53, some 54, some 55, some 56, some 57, some 58, some 59, some 60, some 61, some 62, some 63, some 64, some 65, some 66, some 67, some 68, some 69, some 70, some 71] (by decide +kernel) (Nat.le_of_ble_eq_true rfl) (fun _ => rfl) (fun _ => rfl) (fun _ => rfl) rfl rfl rfl rfl (hl.1) rfl (Nat.le_of_ble_eq_true rfl) dX11_copy_116 ⟨Nat.zero_le _, Nat.zero_le _⟩ (fun r49 σ48 H locs hf hP hD hS => ?_)
                  obtain ⟨hi1, hi2⟩ := Prod.mk.inj (Option.some.inj hf)
                  subst hi1
                  subst hi2
                  exact hret _ _ _ _ dX11_copy_119 rfl hP hS
                refine lv_if_eq (tgt := 113) hx hb dX11_copy_94 (by decide) (fun h50 => ?_) (fun h50 => ?_)
                · have hf := (if_pos h50).symm.trans hf
                  exact Jj47  _ _ _ hP hD hS (lv_sub hl [0] rfl) hf
                · have hf := (if_neg h50).symm.trans hf
                  refine lv_aload_n hx hb dX11_copy_97 rfl (lv_at hl 0 rfl) ?_
                  refine va_get (D := D) (ci := 11) (C := RX11) (T := TX11) (N := 9) hx hb hts fwX11_copy_X11 hown hK hP 0 rfl rfl 6 (by decide) (hts _ (List.mem_of_getElem? (i := 2) rfl)) (fun _ h9 => h9) rfl dX11_copy_98 ?_
                  refine lv_iload_n hx hb dX11_copy_101 rfl (lv_at hl 3 rfl) ?_
                  refine va_aldq hx hb hK hP 43 2 rfl rfl (vp_in_iff.mpr (by decide)) dX11_copy_102 ?_
                  refine W.eq (g2 := F0 m 103 ls [.ref (ad 48)]) rfl ?_
                  refine lv_iload hx hb dX11_copy_103 (lv_at hl 4 rfl) ?_
                  refine lv_iload hx hb dX11_copy_105 (lv_at hl 5 rfl) ?_
                  refine q_cVr (wf := (wX11 cI cZ cS ad)) (wc := wX6 cI cZ cS (fun i => ad (48 + i))) (rest := []) ⟨hx, hb, hml, hown, hts⟩ hK hZ hA hP hD hS hf (fun x ho => kX6_hasRange l D cI cZ cS zz (fun i => ad (48 + i)) (q_sb σ 48) a4 a5 x ho) (cwV 2 hts gX11_copy_X6_hasRange rfl rfl rfl ndX6_hasRange ⟨Nat.le_of_ble_eq_true rfl, Nat.le_of_ble_eq_true rfl⟩) [48, 49] rfl rfl rfl rfl rfl rfl (hl.1) rfl (Nat.le_of_ble_eq_true rfl) dX11_copy_107 ⟨Nat.zero_le _, Nat.zero_le _⟩ (fun r51 H locs hf hP hD hS => ?_)
                  refine lv_if_ne (tgt := 120) hx hb dX11_copy_110 (by decide) (fun h52 => ?_) (fun h52 => ?_)
                  · have hf := (if_neg h52).symm.trans hf
                    refine lv_aload_n hx hb dX11_copy_120 rfl (lv_at hl 0 rfl) ?_
                    refine va_get (D := D) (ci := 11) (C := RX11) (T := TX11) (N := 9) hx hb hts fwX11_copy_X11 hown hK hP 0 rfl rfl 6 (by decide) (hts _ (List.mem_of_getElem? (i := 2) rfl)) (fun _ h9 => h9) rfl dX11_copy_121 ?_
                    refine lv_iload_n hx hb dX11_copy_124 rfl (lv_at hl 1 rfl) ?_
                    refine va_aldq hx hb hK hP 43 2 rfl rfl (vp_in_iff.mpr (by decide)) dX11_copy_125 ?_
                    refine W.eq (g2 := F0 m 126 ls [.ref (ad 44)]) rfl ?_
                    refine va_get (D := D) (ci := 6) (C := RX6) (T := TX6) (N := 3) hx hb hts fwX11_copy_X6 hown hK hP 44 rfl rfl 2 (by decide) (hts _ (List.mem_of_getElem? (i := 6) rfl)) (fun _ h9 => h9) rfl dX11_copy_126 ?_
                    refine lv_iload_n hx hb dX11_copy_129 rfl (lv_at hl 2 rfl) ?_
                    refine lv_aload_n hx hb dX11_copy_130 rfl (lv_at hl 0 rfl) ?_
                    refine va_get (D := D) (ci := 11) (C := RX11) (T := TX11) (N := 9) hx hb hts fwX11_copy_X11 hown hK hP 0 rfl rfl 6 (by decide) (hts _ (List.mem_of_getElem? (i := 2) rfl)) (fun _ h9 => h9) rfl dX11_copy_131 ?_
                    refine lv_iload_n hx hb dX11_copy_134 rfl (lv_at hl 3 rfl) ?_
                    refine va_aldq hx hb hK hP 43 2 rfl rfl (vp_in_iff.mpr (by decide)) dX11_copy_135 ?_
                    refine W.eq (g2 := F0 m 136 ls [.ref (ad 48), .int a2, .ref (ad 45)]) rfl ?_
                    refine va_get (D := D) (ci := 6) (C := RX6) (T := TX6) (N := 3) hx hb hts fwX11_copy_X6 hown hK hP 48 rfl rfl 2 (by decide) (hts _ (List.mem_of_getElem? (i := 6) rfl)) (fun _ h9 => h9) rfl dX11_copy_136 ?_
                    refine lv_iload hx hb dX11_copy_139 (lv_at hl 4 rfl) ?_
                    refine lv_iload hx hb dX11_copy_141 (lv_at hl 5 rfl) ?_
                    refine w_copy (D := D) (wf := (wX11 cI cZ cS ad)) (i0 := 45) (i1 := 49) hx hb (hml.trans hl.1.symm) hown (hts _ (List.mem_of_getElem? (i := 7) rfl)) (hts _ (List.mem_of_getElem? (i := 8) rfl)) (hts _ (List.mem_of_getElem? (i := 9) rfl)) (hts _ (List.mem_of_getElem? (i := 10) rfl)) hK hP hD hS 45 49 0 rfl rfl rfl hf (fun _ => rfl) (Nat.le_of_ble_eq_true rfl) (Nat.le_of_ble_eq_true rfl) dX11_copy_143 (fun σ53 H locs hf hP hD hS => ?_)
                    refine lv_iload hx hb dX11_copy_146 (lv_at hl 5 rfl) ?_
                    obtain ⟨hi1, hi2⟩ := Prod.mk.inj (Option.some.inj hf)
                    subst hi1
                    subst hi2
                    exact hret _ _ _ _ dX11_copy_148 rfl hP hS
                  · have hf := (if_pos h52).symm.trans hf
                    exact Jj47  _ _ _ hP hD hS (lv_sub hl [0] rfl) hf
              · have hf := (if_neg h45).symm.trans hf
                refine lv_aload_n hx hb dX11_copy_74 rfl (lv_at hl 0 rfl) ?_
                refine lv_ldcw (v := -1000003) hx hb hown (hts _ (List.mem_of_getElem? (i := 5) rfl)) dX11_copy_75 ?_
                refine q_cVi (wf := (wX11 cI cZ cS ad)) (wc := wX11 cI cZ cS ad) (rest := []) ⟨hx, hb, hml, hown, hts⟩ hK hZ hA hP hD hS hf (fun x τ ho => kX11_tell l D cI cZ cS zz ad σ (-1000003 : Int32) x τ ho) (cwV 1 hts gX11_copy_X11_tell rfl rfl rfl ndX11_tell ⟨Nat.le_of_ble_eq_true rfl, Nat.le_of_ble_eq_true rfl⟩) [0, 1, 2, 3, 4, 5, 6, 7, 8, 9, 10, 11, 12, 13, 14, 15, 16, 17, 18, 19, 20, 21, 22, 23, 24, 25, 26, 27, 28, 29, 30, 31, 32, 33, 34, 35, 36, 37, 38, 39, 40, 41, 42, 43, 44, 45, 46, 47, 48, 49, 50, 51, 52, 53, 54, 55, 56, 57, 58, 59, 60, 61, 62, 63, 64, 65, 66, 67, 68, 69, 70, 71] rfl rfl [some 0, some 1, some 2, some 3, some 4, some 5, some 6, some 7, some 8, some 9, some 10, some 11, some 12, some 13, some 14, some 15, some 16, some 17, some 18, some 19, some 20, some 21, some 22, some 23, some 24, some 25, some 26, some 27, some 28, some 29, some 30, some 31, some 32, some 33, some 34, some 35, some 36, some 37, some 38, some 39, some 40, some 41, some 42, some 43, some 44, some 45, some 46, some 47, some 48, some 49, some 50, some 51, some 52, some 53, some 54, some 55, some 56, some 57, some 58, some 59, some 60, some 61, some 62, some 63, some 64, some 65, some 66, some 67, some 68, some 69, some 70, some 71] (by decide +kernel) (Nat.le_of_ble_eq_true rfl) (fun _ => rfl) (fun _ => rfl) (fun _ => rfl) rfl rfl rfl rfl (hl.1) rfl (Nat.le_of_ble_eq_true rfl) dX11_copy_78 ⟨Nat.zero_le _, Nat.zero_le _⟩ (fun r55 σ54 H locs hf hP hD hS => ?_)
                obtain ⟨hi1, hi2⟩ := Prod.mk.inj (Option.some.inj hf)
                subst hi1
                subst hi2
                exact hret _ _ _ _ dX11_copy_81 rfl hP hS
            · have hf := (if_neg h44).symm.trans hf
              exact Jj10  _ _ _ hP hD hS (lv_sub hl [0] rfl) hf
          have hf := (if_neg h42).symm.trans hf
          by_cases h56 : a3 = (3 : Int32)
          · have hfh56 := (if_pos h56).symm.trans hf
            have hlh56 := hl
            subst h56
            have hf := hfh56
            have hl : lv_has ls 6 [(0, .ref (ad 0)), (1, .int (0 : Int32)), (2, .int a2), (3, .int (3 : Int32)), (4, .int a4), (5, .int a5)] := hlh56
            refine va_aldq hx hb hK hP 43 2 rfl rfl (vp_in_iff.mpr (by decide)) dX11_copy_38 ?_
            refine W.eq (g2 := F0 m 39 ls [.ref (ad 50)]) rfl ?_
            refine q_cVr (wf := (wX11 cI cZ cS ad)) (wc := wX6 cI cZ cS (fun i => ad (50 + i))) (rest := []) ⟨hx, hb, hml, hown, hts⟩ hK hZ hA hP hD hS hf (fun x ho => kX6_isMissing l D cI cZ cS zz (fun i => ad (50 + i)) (q_sb σ 50) x ho) (cwV 0 hts gX11_copy_X6_isMissing rfl rfl rfl ndX6_isMissing ⟨Nat.le_of_ble_eq_true rfl, Nat.le_of_ble_eq_true rfl⟩) [50, 51] rfl rfl rfl rfl rfl rfl (hl.1) rfl (Nat.le_of_ble_eq_true rfl) dX11_copy_39 ⟨Nat.zero_le _, Nat.zero_le _⟩ (fun r57 H locs hf hP hD hS => ?_)
            refine lv_if_eq (tgt := 53) hx hb dX11_copy_42 (by decide) (fun h58 => ?_) (fun h58 => ?_)
            · have hf := (if_pos h58).symm.trans hf
              refine lv_aload_n hx hb dX11_copy_53 rfl (lv_at hl 0 rfl) ?_
              refine va_get (D := D) (ci := 11) (C := RX11) (T := TX11) (N := 9) hx hb hts fwX11_copy_X11 hown hK hP 0 rfl rfl 6 (by decide) (hts _ (List.mem_of_getElem? (i := 2) rfl)) (fun _ h9 => h9) rfl dX11_copy_54 ?_
              refine lv_iload_n hx hb dX11_copy_57 rfl (lv_at hl 1 rfl) ?_
              refine va_aldq hx hb hK hP 43 2 rfl rfl (vp_in_iff.mpr (by decide)) dX11_copy_58 ?_
              refine W.eq (g2 := F0 m 59 ls [.ref (ad 44)]) rfl ?_
              refine va_get (D := D) (ci := 6) (C := RX6) (T := TX6) (N := 3) hx hb hts fwX11_copy_X6 hown hK hP 44 rfl rfl 0 (by decide) (hts _ (List.mem_of_getElem? (i := 4) rfl)) (fun _ h9 => h9) rfl dX11_copy_59 ?_
              refine lv_aload_n hx hb dX11_copy_62 rfl (lv_at hl 0 rfl) ?_
              refine va_get (D := D) (ci := 11) (C := RX11) (T := TX11) (N := 9) hx hb hts fwX11_copy_X11 hown hK hP 0 rfl rfl 6 (by decide) (hts _ (List.mem_of_getElem? (i := 2) rfl)) (fun _ h9 => h9) rfl dX11_copy_63 ?_
              refine lv_iload_n hx hb dX11_copy_66 rfl (lv_at hl 3 rfl) ?_
              refine va_aldq hx hb hK hP 43 2 rfl rfl (vp_in_iff.mpr (by decide)) dX11_copy_67 ?_
              refine W.eq (g2 := F0 m 68 ls [.ref (ad 50), .int (σ 44 0)]) rfl ?_
              refine va_get (D := D) (ci := 6) (C := RX6) (T := TX6) (N := 3) hx hb hts fwX11_copy_X6 hown hK hP 50 rfl rfl 0 (by decide) (hts _ (List.mem_of_getElem? (i := 4) rfl)) (fun _ h9 => h9) rfl dX11_copy_68 ?_
              refine lv_icmp_eq (tgt := 82) hx hb dX11_copy_71 (by decide) (fun h59 => ?_) (fun h59 => ?_)
              · have hf := (if_pos h59).symm.trans hf
                refine lv_aload_n hx hb dX11_copy_82 rfl (lv_at hl 0 rfl) ?_
                refine va_get (D := D) (ci := 11) (C := RX11) (T := TX11) (N := 9) hx hb hts fwX11_copy_X11 hown hK hP 0 rfl rfl 6 (by decide) (hts _ (List.mem_of_getElem? (i := 2) rfl)) (fun _ h9 => h9) rfl dX11_copy_83 ?_
                refine lv_iload_n hx hb dX11_copy_86 rfl (lv_at hl 1 rfl) ?_
                refine va_aldq hx hb hK hP 43 2 rfl rfl (vp_in_iff.mpr (by decide)) dX11_copy_87 ?_
                refine W.eq (g2 := F0 m 88 ls [.ref (ad 44)]) rfl ?_
                refine lv_iload_n hx hb dX11_copy_88 rfl (lv_at hl 2 rfl) ?_
                refine lv_iload hx hb dX11_copy_89 (lv_at hl 5 rfl) ?_
                refine q_cVr (wf := (wX11 cI cZ cS ad)) (wc := wX6 cI cZ cS (fun i => ad (44 + i))) (rest := []) ⟨hx, hb, hml, hown, hts⟩ hK hZ hA hP hD hS hf (fun x ho => kX6_hasRange l D cI cZ cS zz (fun i => ad (44 + i)) (q_sb σ 44) a2 a5 x ho) (cwV 2 hts gX11_copy_X6_hasRange rfl rfl rfl ndX6_hasRange ⟨Nat.le_of_ble_eq_true rfl, Nat.le_of_ble_eq_true rfl⟩) [44, 45] rfl rfl rfl rfl rfl rfl (hl.1) rfl (Nat.le_of_ble_eq_true rfl) dX11_copy_91 ⟨Nat.zero_le _, Nat.zero_le _⟩ (fun r60 H locs hf hP hD hS => ?_)
                refine q_lt_go hf (fun j61 ej61 hf => ?_)
                have Jj61 : ∀ (H : Heap) (locs : List Loc) (ls : Array Slot), va_P D vwCl ((wX11 cI cZ cS ad) σ) H → va_D A ((wX11 cI cZ cS ad) σ) → va_S A s.heap H locs → lv_has ls 6 [(0, .ref (ad 0))] → j61 = some (rr, σr) → W p l e rmX11_copy s m ([.ref (ad 0), .int (0 : Int32), .int a2, .int (3 : Int32), .int a4, .int a5] : List Value).toArray below meth c H locs 0 0 Q (F0 m 113 ls []) := by
                  intro  H locs ls hP hD hS hl hf
                  have hf := ej61.symm.trans hf
                  refine lv_aload_n hx hb dX11_copy_113 rfl (lv_at hl 0 rfl) ?_
                  refine lv_ldc (v := -1000001) hx hb hown (hts _ (List.mem_of_getElem? (i := 1) rfl)) dX11_copy_114 ?_
                  refine q_cVi (wf := (wX11 cI cZ cS ad)) (wc := wX11 cI cZ cS ad) (rest := []) ⟨hx, hb, hml, hown, hts⟩ hK hZ hA hP hD hS hf (fun x τ ho => kX11_tell l D cI cZ cS zz ad σ (-1000001 : Int32) x τ ho) (cwV 1 hts gX11_copy_X11_tell rfl rfl rfl ndX11_tell ⟨Nat.le_of_ble_eq_true rfl, Nat.le_of_ble_eq_true rfl⟩) [0, 1, 2, 3, 4, 5, 6, 7, 8, 9, 10, 11, 12, 13, 14, 15, 16, 17, 18, 19, 20, 21, 22, 23, 24, 25, 26, 27, 28, 29, 30, 31, 32, 33, 34, 35, 36, 37, 38, 39, 40, 41, 42, 43, 44, 45, 46, 47, 48, 49, 50, 51, 52, 53, 54, 55, 56, 57, 58, 59, 60, 61, 62, 63, 64, 65, 66, 67, 68, 69, 70, 71] rfl rfl [some 0, some 1, some 2, some 3, some 4, some 5, some 6, some 7, some 8, some 9, some 10, some 11, some 12, some 13, some 14, some 15, some 16, some 17, some 18, some 19, some 20, some 21, some 22, some 23, some 24, some 25, some 26, some 27, some 28, some 29, some 30, some 31, some 32, some 33, some 34, some 35, some 36, some 37, some 38, some 39, some 40, some 41, some 42, some 43, some 44, some 45, some 46, some 47, some 48, some 49, some 50, some 51, some 52, some 53, some 54, some 55, some 56, some 57, some 58, some 59, some 60, some 61, some 62, some 63, some 64, some 65, some 66, some 67, some 68, some 69, some 70, some 71] (by decide +kernel) (Nat.le_of_ble_eq_true rfl) (fun _ => rfl) (fun _ => rfl) (fun _ => rfl) rfl rfl rfl rfl (hl.1) rfl (Nat.le_of_ble_eq_true rfl) dX11_copy_116 ⟨Nat.zero_le _, Nat.zero_le _⟩ (fun r63 σ62 H locs hf hP hD hS => ?_)
                  obtain ⟨hi1, hi2⟩ := Prod.mk.inj (Option.some.inj hf)
                  subst hi1
                  subst hi2
                  exact hret _ _ _ _ dX11_copy_119 rfl hP hS
                refine lv_if_eq (tgt := 113) hx hb dX11_copy_94 (by decide) (fun h64 => ?_) (fun h64 => ?_)
                · have hf := (if_pos h64).symm.trans hf
                  exact Jj61  _ _ _ hP hD hS (lv_sub hl [0] rfl) hf
                · have hf := (if_neg h64).symm.trans hf
                  refine lv_aload_n hx hb dX11_copy_97 rfl (lv_at hl 0 rfl) ?_
                  refine va_get (D := D) (ci := 11) (C := RX11) (T := TX11) (N := 9) hx hb hts fwX11_copy_X11 hown hK hP 0 rfl rfl 6 (by decide) (hts _ (List.mem_of_getElem? (i := 2) rfl)) (fun _ h9 => h9) rfl dX11_copy_98 ?_
                  refine lv_iload_n hx hb dX11_copy_101 rfl (lv_at hl 3 rfl) ?_
                  refine va_aldq hx hb hK hP 43 2 rfl rfl (vp_in_iff.mpr (by decide)) dX11_copy_102 ?_
                  refine W.eq (g2 := F0 m 103 ls [.ref (ad 50)]) rfl ?_
                  refine lv_iload hx hb dX11_copy_103 (lv_at hl 4 rfl) ?_
                  refine lv_iload hx hb dX11_copy_105 (lv_at hl 5 rfl) ?_
                  refine q_cVr (wf := (wX11 cI cZ cS ad)) (wc := wX6 cI cZ cS (fun i => ad (50 + i))) (rest := []) ⟨hx, hb, hml, hown, hts⟩ hK hZ hA hP hD hS hf (fun x ho => kX6_hasRange l D cI cZ cS zz (fun i => ad (50 + i)) (q_sb σ 50) a4 a5 x ho) (cwV 2 hts gX11_copy_X6_hasRange rfl rfl rfl ndX6_hasRange ⟨Nat.le_of_ble_eq_true rfl, Nat.le_of_ble_eq_true rfl⟩) [50, 51] rfl rfl rfl rfl rfl rfl (hl.1) rfl (Nat.le_of_ble_eq_true rfl) dX11_copy_107 ⟨Nat.zero_le _, Nat.zero_le _⟩ (fun r65 H locs hf hP hD hS => ?_)
                  refine lv_if_ne (tgt := 120) hx hb dX11_copy_110 (by decide) (fun h66 => ?_) (fun h66 => ?_)
                  · have hf := (if_neg h66).symm.trans hf
                    refine lv_aload_n hx hb dX11_copy_120 rfl (lv_at hl 0 rfl) ?_
                    refine va_get (D := D) (ci := 11) (C := RX11) (T := TX11) (N := 9) hx hb hts fwX11_copy_X11 hown hK hP 0 rfl rfl 6 (by decide) (hts _ (List.mem_of_getElem? (i := 2) rfl)) (fun _ h9 => h9) rfl dX11_copy_121 ?_
                    refine lv_iload_n hx hb dX11_copy_124 rfl (lv_at hl 1 rfl) ?_
                    refine va_aldq hx hb hK hP 43 2 rfl rfl (vp_in_iff.mpr (by decide)) dX11_copy_125 ?_
                    refine W.eq (g2 := F0 m 126 ls [.ref (ad 44)]) rfl ?_
                    refine va_get (D := D) (ci := 6) (C := RX6) (T := TX6) (N := 3) hx hb hts fwX11_copy_X6 hown hK hP 44 rfl rfl 2 (by decide) (hts _ (List.mem_of_getElem? (i := 6) rfl)) (fun _ h9 => h9) rfl dX11_copy_126 ?_
                    refine lv_iload_n hx hb dX11_copy_129 rfl (lv_at hl 2 rfl) ?_
                    refine lv_aload_n hx hb dX11_copy_130 rfl (lv_at hl 0 rfl) ?_
                    refine va_get (D := D) (ci := 11) (C := RX11) (T := TX11) (N := 9) hx hb hts fwX11_copy_X11 hown hK hP 0 rfl rfl 6 (by decide) (hts _ (List.mem_of_getElem? (i := 2) rfl)) (fun _ h9 => h9) rfl dX11_copy_131 ?_
                    refine lv_iload_n hx hb dX11_copy_134 rfl (lv_at hl 3 rfl) ?_
                    refine va_aldq hx hb hK hP 43 2 rfl rfl (vp_in_iff.mpr (by decide)) dX11_copy_135 ?_
                    refine W.eq (g2 := F0 m 136 ls [.ref (ad 50), .int a2, .ref (ad 45)]) rfl ?_
                    refine va_get (D := D) (ci := 6) (C := RX6) (T := TX6) (N := 3) hx hb hts fwX11_copy_X6 hown hK hP 50 rfl rfl 2 (by decide) (hts _ (List.mem_of_getElem? (i := 6) rfl)) (fun _ h9 => h9) rfl dX11_copy_136 ?_
                    refine lv_iload hx hb dX11_copy_139 (lv_at hl 4 rfl) ?_
                    refine lv_iload hx hb dX11_copy_141 (lv_at hl 5 rfl) ?_
                    refine w_copy (D := D) (wf := (wX11 cI cZ cS ad)) (i0 := 45) (i1 := 51) hx hb (hml.trans hl.1.symm) hown (hts _ (List.mem_of_getElem? (i := 7) rfl)) (hts _ (List.mem_of_getElem? (i := 8) rfl)) (hts _ (List.mem_of_getElem? (i := 9) rfl)) (hts _ (List.mem_of_getElem? (i := 10) rfl)) hK hP hD hS 45 51 0 rfl rfl rfl hf (fun _ => rfl) (Nat.le_of_ble_eq_true rfl) (Nat.le_of_ble_eq_true rfl) dX11_copy_143 (fun σ67 H locs hf hP hD hS => ?_)
                    refine lv_iload hx hb dX11_copy_146 (lv_at hl 5 rfl) ?_
                    obtain ⟨hi1, hi2⟩ := Prod.mk.inj (Option.some.inj hf)
                    subst hi1
                    subst hi2
                    exact hret _ _ _ _ dX11_copy_148 rfl hP hS
                  · have hf := (if_pos h66).symm.trans hf
                    exact Jj61  _ _ _ hP hD hS (lv_sub hl [0] rfl) hf
              · have hf := (if_neg h59).symm.trans hf
                refine lv_aload_n hx hb dX11_copy_74 rfl (lv_at hl 0 rfl) ?_
                refine lv_ldcw (v := -1000003) hx hb hown (hts _ (List.mem_of_getElem? (i := 5) rfl)) dX11_copy_75 ?_
                refine q_cVi (wf := (wX11 cI cZ cS ad)) (wc := wX11 cI cZ cS ad) (rest := []) ⟨hx, hb, hml, hown, hts⟩ hK hZ hA hP hD hS hf (fun x τ ho => kX11_tell l D cI cZ cS zz ad σ (-1000003 : Int32) x τ ho) (cwV 1 hts gX11_copy_X11_tell rfl rfl rfl ndX11_tell ⟨Nat.le_of_ble_eq_true rfl, Nat.le_of_ble_eq_true rfl⟩) [0, 1, 2, 3, 4, 5, 6, 7, 8, 9, 10, 11, 12, 13, 14, 15, 16, 17, 18, 19, 20, 21, 22, 23, 24, 25, 26, 27, 28, 29, 30, 31, 32, 33, 34, 35, 36, 37, 38, 39, 40, 41, 42, 43, 44, 45, 46, 47, 48, 49, 50, 51, 52, 53, 54, 55, 56, 57, 58, 59, 60, 61, 62, 63, 64, 65, 66, 67, 68, 69, 70, 71] rfl rfl [some 0, some 1, some 2, some 3, some 4, some 5, some 6, some 7, some 8, some 9, some 10, some 11, some 12, some 13, some 14, some 15, some 16, some 17, some 18, some 19, some 20, some 21, some 22, some 23, some 24, some 25, some 26, some 27, some 28, some 29, some 30, some 31, some 32, some 33, some 34, some 35, some 36, some 37, some 38, some 39, some 40, some 41, some 42, some 43, some 44, some 45, some 46, some 47, some 48, some 49, some 50, some 51, some 52, some 53, some 54, some 55, some 56, some 57, some 58, some 59, some 60, some 61, some 62, some 63, some 64, some 65, some 66, some 67, some 68, some 69, some 70, some 71] (by decide +kernel) (Nat.le_of_ble_eq_true rfl) (fun _ => rfl) (fun _ => rfl) (fun _ => rfl) rfl rfl rfl rfl (hl.1) rfl (Nat.le_of_ble_eq_true rfl) dX11_copy_78 ⟨Nat.zero_le _, Nat.zero_le _⟩ (fun r69 σ68 H locs hf hP hD hS => ?_)
                obtain ⟨hi1, hi2⟩ := Prod.mk.inj (Option.some.inj hf)
                subst hi1
                subst hi2
                exact hret _ _ _ _ dX11_copy_81 rfl hP hS
            · have hf := (if_neg h58).symm.trans hf
              exact Jj10  _ _ _ hP hD hS (lv_sub hl [0] rfl) hf
          have hf := (if_neg h56).symm.trans hf
          exact q_no hf
      have hf := (if_neg h8).symm.trans hf
      by_cases h70 : a1 = (1 : Int32)
      · have hfh70 := (if_pos h70).symm.trans hf
        have hlh70 := hl
        subst h70
        have hf := hfh70
        have hl : lv_has ls 6 [(0, .ref (ad 0)), (1, .int (1 : Int32)), (2, .int a2), (3, .int a3), (4, .int a4), (5, .int a5)] := hlh70
        refine va_aldq hx hb hK hP 43 2 rfl rfl (vp_in_iff.mpr (by decide)) dX11_copy_26 ?_
        refine W.eq (g2 := F0 m 27 ls [.ref (ad 46)]) rfl ?_
        refine q_cVr (wf := (wX11 cI cZ cS ad)) (wc := wX6 cI cZ cS (fun i => ad (46 + i))) (rest := []) ⟨hx, hb, hml, hown, hts⟩ hK hZ hA hP hD hS hf (fun x ho => kX6_isMissing l D cI cZ cS zz (fun i => ad (46 + i)) (q_sb σ 46) x ho) (cwV 0 hts gX11_copy_X6_isMissing rfl rfl rfl ndX6_isMissing ⟨Nat.le_of_ble_eq_true rfl, Nat.le_of_ble_eq_true rfl⟩) [46, 47] rfl rfl rfl rfl rfl rfl (hl.1) rfl (Nat.le_of_ble_eq_true rfl) dX11_copy_27 ⟨Nat.zero_le _, Nat.zero_le _⟩ (fun r71 H locs hf hP hD hS => ?_)
        refine q_lt_go hf (fun j72 ej72 hf => ?_)
        have Jj72 : ∀ (H : Heap) (locs : List Loc) (ls : Array Slot), va_P D vwCl ((wX11 cI cZ cS ad) σ) H → va_D A ((wX11 cI cZ cS ad) σ) → va_S A s.heap H locs → lv_has ls 6 [(0, .ref (ad 0))] → j72 = some (rr, σr) → W p l e rmX11_copy s m ([.ref (ad 0), .int (1 : Int32), .int a2, .int a3, .int a4, .int a5] : List Value).toArray below meth c H locs 0 0 Q (F0 m 45 ls []) := by
          intro  H locs ls hP hD hS hl hf
          have hf := ej72.symm.trans hf
          refine lv_aload_n hx hb dX11_copy_45 rfl (lv_at hl 0 rfl) ?_
          refine lv_ldcw (v := -1000006) hx hb hown (hts _ (List.mem_of_getElem? (i := 3) rfl)) dX11_copy_46 ?_
          refine q_cVi (wf := (wX11 cI cZ cS ad)) (wc := wX11 cI cZ cS ad) (rest := []) ⟨hx, hb, hml, hown, hts⟩ hK hZ hA hP hD hS hf (fun x τ ho => kX11_tell l D cI cZ cS zz ad σ (-1000006 : Int32) x τ ho) (cwV 1 hts gX11_copy_X11_tell rfl rfl rfl ndX11_tell ⟨Nat.le_of_ble_eq_true rfl, Nat.le_of_ble_eq_true rfl⟩) [0, 1, 2, 3, 4, 5, 6, 7, 8, 9, 10, 11, 12, 13, 14, 15, 16, 17, 18, 19, 20, 21, 22, 23, 24, 25, 26, 27, 28, 29, 30, 31, 32, 33, 34, 35, 36, 37, 38, 39, 40, 41, 42, 43, 44, 45, 46, 47, 48, 49, 50, 51, 52, 53, 54, 55, 56, 57, 58, 59, 60, 61, 62, 63, 64, 65, 66, 67, 68, 69, 70, 71] rfl rfl [some 0, some 1, some 2, some 3, some 4, some 5, some 6, some 7, some 8, some 9, some 10, some 11, some 12, some 13, some 14, some 15, some 16, some 17, some 18, some 19, some 20, some 21, some 22, some 23, some 24, some 25, some 26, some 27, some 28, some 29, some 30, some 31, some 32, some 33, some 34, some 35, some 36, some 37, some 38, some 39, some 40, some 41, some 42, some 43, some 44, some 45, some 46, some 47, some 48, some 49, some 50, some 51, some 52, some 53, some 54, some 55, some 56, some 57, some 58, some 59, some 60, some 61, some 62, some 63, some 64, some 65, some 66, some 67, some 68, some 69, some 70, some 71] (by decide +kernel) (Nat.le_of_ble_eq_true rfl) (fun _ => rfl) (fun _ => rfl) (fun _ => rfl) rfl rfl rfl rfl (hl.1) rfl (Nat.le_of_ble_eq_true rfl) dX11_copy_49 ⟨Nat.zero_le _, Nat.zero_le _⟩ (fun r74 σ73 H locs hf hP hD hS => ?_)
          obtain ⟨hi1, hi2⟩ := Prod.mk.inj (Option.some.inj hf)
          subst hi1
          subst hi2
          exact hret _ _ _ _ dX11_copy_52 rfl hP hS
        refine lv_if_ne (tgt := 45) hx hb dX11_copy_30 (by decide) (fun h75 => ?_) (fun h75 => ?_)
        · have hf := (if_neg h75).symm.trans hf
          exact Jj72  _ _ _ hP hD hS (lv_sub hl [0] rfl) hf
        · have hf := (if_pos h75).symm.trans hf
          refine lv_aload_n hx hb dX11_copy_33 rfl (lv_at hl 0 rfl) ?_
          refine va_get (D := D) (ci := 11) (C := RX11) (T := TX11) (N := 9) hx hb hts fwX11_copy_X11 hown hK hP 0 rfl rfl 6 (by decide) (hts _ (List.mem_of_getElem? (i := 2) rfl)) (fun _ h9 => h9) rfl dX11_copy_34 ?_
          refine lv_iload_n hx hb dX11_copy_37 rfl (lv_at hl 3 rfl) ?_
          by_cases h76 : a3 = (0 : Int32)
          · have hfh76 := (if_pos h76).symm.trans hf
            have hlh76 := hl
            subst h76
            have hf := hfh76
            have hl : lv_has ls 6 [(0, .ref (ad 0)), (1, .int (1 : Int32)), (2, .int a2), (3, .int (0 : Int32)), (4, .int a4), (5, .int a5)] := hlh76
            refine va_aldq hx hb hK hP 43 2 rfl rfl (vp_in_iff.mpr (by decide)) dX11_copy_38 ?_
            refine W.eq (g2 := F0 m 39 ls [.ref (ad 44)]) rfl ?_
            refine q_cVr (wf := (wX11 cI cZ cS ad)) (wc := wX6 cI cZ cS (fun i => ad (44 + i))) (rest := []) ⟨hx, hb, hml, hown, hts⟩ hK hZ hA hP hD hS hf (fun x ho => kX6_isMissing l D cI cZ cS zz (fun i => ad (44 + i)) (q_sb σ 44) x ho) (cwV 0 hts gX11_copy_X6_isMissing rfl rfl rfl ndX6_isMissing ⟨Nat.le_of_ble_eq_true rfl, Nat.le_of_ble_eq_true rfl⟩) [44, 45] rfl rfl rfl rfl rfl rfl (hl.1) rfl (Nat.le_of_ble_eq_true rfl) dX11_copy_39 ⟨Nat.zero_le _, Nat.zero_le _⟩ (fun r77 H locs hf hP hD hS => ?_)
            refine lv_if_eq (tgt := 53) hx hb dX11_copy_42 (by decide) (fun h78 => ?_) (fun h78 => ?_)
            · have hf := (if_pos h78).symm.trans hf
              refine lv_aload_n hx hb dX11_copy_53 rfl (lv_at hl 0 rfl) ?_
              refine va_get (D := D) (ci := 11) (C := RX11) (T := TX11) (N := 9) hx hb hts fwX11_copy_X11 hown hK hP 0 rfl rfl 6 (by decide) (hts _ (List.mem_of_getElem? (i := 2) rfl)) (fun _ h9 => h9) rfl dX11_copy_54 ?_
              refine lv_iload_n hx hb dX11_copy_57 rfl (lv_at hl 1 rfl) ?_
              refine va_aldq hx hb hK hP 43 2 rfl rfl (vp_in_iff.mpr (by decide)) dX11_copy_58 ?_
              refine W.eq (g2 := F0 m 59 ls [.ref (ad 46)]) rfl ?_
              refine va_get (D := D) (ci := 6) (C := RX6) (T := TX6) (N := 3) hx hb hts fwX11_copy_X6 hown hK hP 46 rfl rfl 0 (by decide) (hts _ (List.mem_of_getElem? (i := 4) rfl)) (fun _ h9 => h9) rfl dX11_copy_59 ?_
              refine lv_aload_n hx hb dX11_copy_62 rfl (lv_at hl 0 rfl) ?_
              refine va_get (D := D) (ci := 11) (C := RX11) (T := TX11) (N := 9) hx hb hts fwX11_copy_X11 hown hK hP 0 rfl rfl 6 (by decide) (hts _ (List.mem_of_getElem? (i := 2) rfl)) (fun _ h9 => h9) rfl dX11_copy_63 ?_
              refine lv_iload_n hx hb dX11_copy_66 rfl (lv_at hl 3 rfl) ?_
              refine va_aldq hx hb hK hP 43 2 rfl rfl (vp_in_iff.mpr (by decide)) dX11_copy_67 ?_
              refine W.eq (g2 := F0 m 68 ls [.ref (ad 44), .int (σ 46 0)]) rfl ?_
              refine va_get (D := D) (ci := 6) (C := RX6) (T := TX6) (N := 3) hx hb hts fwX11_copy_X6 hown hK hP 44 rfl rfl 0 (by decide) (hts _ (List.mem_of_getElem? (i := 4) rfl)) (fun _ h9 => h9) rfl dX11_copy_68 ?_
              refine lv_icmp_eq (tgt := 82) hx hb dX11_copy_71 (by decide) (fun h79 => ?_) (fun h79 => ?_)
              · have hf := (if_pos h79).symm.trans hf
                refine lv_aload_n hx hb dX11_copy_82 rfl (lv_at hl 0 rfl) ?_
                refine va_get (D := D) (ci := 11) (C := RX11) (T := TX11) (N := 9) hx hb hts fwX11_copy_X11 hown hK hP 0 rfl rfl 6 (by decide) (hts _ (List.mem_of_getElem? (i := 2) rfl)) (fun _ h9 => h9) rfl dX11_copy_83 ?_
                refine lv_iload_n hx hb dX11_copy_86 rfl (lv_at hl 1 rfl) ?_
                refine va_aldq hx hb hK hP 43 2 rfl rfl (vp_in_iff.mpr (by decide)) dX11_copy_87 ?_
                refine W.eq (g2 := F0 m 88 ls [.ref (ad 46)]) rfl ?_
                refine lv_iload_n hx hb dX11_copy_88 rfl (lv_at hl 2 rfl) ?_
                refine lv_iload hx hb dX11_copy_89 (lv_at hl 5 rfl) ?_
                refine q_cVr (wf := (wX11 cI cZ cS ad)) (wc := wX6 cI cZ cS (fun i => ad (46 + i))) (rest := []) ⟨hx, hb, hml, hown, hts⟩ hK hZ hA hP hD hS hf (fun x ho => kX6_hasRange l D cI cZ cS zz (fun i => ad (46 + i)) (q_sb σ 46) a2 a5 x ho) (cwV 2 hts gX11_copy_X6_hasRange rfl rfl rfl ndX6_hasRange ⟨Nat.le_of_ble_eq_true rfl, Nat.le_of_ble_eq_true rfl⟩) [46, 47] rfl rfl rfl rfl rfl rfl (hl.1) rfl (Nat.le_of_ble_eq_true rfl) dX11_copy_91 ⟨Nat.zero_le _, Nat.zero_le _⟩ (fun r80 H locs hf hP hD hS => ?_)
                refine q_lt_go hf (fun j81 ej81 hf => ?_)
                have Jj81 : ∀ (H : Heap) (locs : List Loc) (ls : Array Slot), va_P D vwCl ((wX11 cI cZ cS ad) σ) H → va_D A ((wX11 cI cZ cS ad) σ) → va_S A s.heap H locs → lv_has ls 6 [(0, .ref (ad 0))] → j81 = some (rr, σr) → W p l e rmX11_copy s m ([.ref (ad 0), .int (1 : Int32), .int a2, .int (0 : Int32), .int a4, .int a5] : List Value).toArray below meth c H locs 0 0 Q (F0 m 113 ls []) := by
                  intro  H locs ls hP hD hS hl hf
                  have hf := ej81.symm.trans hf
                  refine lv_aload_n hx hb dX11_copy_113 rfl (lv_at hl 0 rfl) ?_
                  refine lv_ldc (v := -1000001) hx hb hown (hts _ (List.mem_of_getElem? (i := 1) rfl)) dX11_copy_114 ?_
                  refine q_cVi (wf := (wX11 cI cZ cS ad)) (wc := wX11 cI cZ cS ad) (rest := []) ⟨hx, hb, hml, hown, hts⟩ hK hZ hA hP hD hS hf (fun x τ ho => kX11_tell l D cI cZ cS zz ad σ (-1000001 : Int32) x τ ho) (cwV 1 hts gX11_copy_X11_tell rfl rfl rfl ndX11_tell ⟨Nat.le_of_ble_eq_true rfl, Nat.le_of_ble_eq_true rfl⟩) [0, 1, 2, 3, 4, 5, 6, 7, 8, 9, 10, 11, 12, 13, 14, 15, 16, 17, 18, 19, 20, 21, 22, 23, 24, 25, 26, 27, 28, 29, 30, 31, 32, 33, 34, 35, 36, 37, 38, 39, 40, 41, 42, 43, 44, 45, 46, 47, 48, 49, 50, 51, 52, 53, 54, 55, 56, 57, 58, 59, 60, 61, 62, 63, 64, 65, 66, 67, 68, 69, 70, 71] rfl rfl [some 0, some 1, some 2, some 3, some 4, some 5, some 6, some 7, some 8, some 9, some 10, some 11, some 12, some 13, some 14, some 15, some 16, some 17, some 18, some 19, some 20, some 21, some 22, some 23, some 24, some 25, some 26, some 27, some 28, some 29, some 30, some 31, some 32, some 33, some 34, some 35, some 36, some 37, some 38, some 39, some 40, some 41, some 42, some 43, some 44, some 45, some 46, some 47, some 48, some 49, some 50, some 51, some 52, some 53, some 54, some 55, some 56, some 57, some 58, some 59, some 60, some 61, some 62, some 63, some 64, some 65, some 66, some 67, some 68, some 69, some 70, some 71] (by decide +kernel) (Nat.le_of_ble_eq_true rfl) (fun _ => rfl) (fun _ => rfl) (fun _ => rfl) rfl rfl rfl rfl (hl.1) rfl (Nat.le_of_ble_eq_true rfl) dX11_copy_116 ⟨Nat.zero_le _, Nat.zero_le _⟩ (fun r83 σ82 H locs hf hP hD hS => ?_)
                  obtain ⟨hi1, hi2⟩ := Prod.mk.inj (Option.some.inj hf)
                  subst hi1
                  subst hi2
                  exact hret _ _ _ _ dX11_copy_119 rfl hP hS
                refine lv_if_eq (tgt := 113) hx hb dX11_copy_94 (by decide) (fun h84 => ?_) (fun h84 => ?_)
                · have hf := (if_pos h84).symm.trans hf
                  exact Jj81  _ _ _ hP hD hS (lv_sub hl [0] rfl) hf
                · have hf := (if_neg h84).symm.trans hf
                  refine lv_aload_n hx hb dX11_copy_97 rfl (lv_at hl 0 rfl) ?_
                  refine va_get (D := D) (ci := 11) (C := RX11) (T := TX11) (N := 9) hx hb hts fwX11_copy_X11 hown hK hP 0 rfl rfl 6 (by decide) (hts _ (List.mem_of_getElem? (i := 2) rfl)) (fun _ h9 => h9) rfl dX11_copy_98 ?_
                  refine lv_iload_n hx hb dX11_copy_101 rfl (lv_at hl 3 rfl) ?_
                  refine va_aldq hx hb hK hP 43 2 rfl rfl (vp_in_iff.mpr (by decide)) dX11_copy_102 ?_
                  refine W.eq (g2 := F0 m 103 ls [.ref (ad 44)]) rfl ?_
                  refine lv_iload hx hb dX11_copy_103 (lv_at hl 4 rfl) ?_
                  refine lv_iload hx hb dX11_copy_105 (lv_at hl 5 rfl) ?_
                  refine q_cVr (wf := (wX11 cI cZ cS ad)) (wc := wX6 cI cZ cS (fun i => ad (44 + i))) (rest := []) ⟨hx, hb, hml, hown, hts⟩ hK hZ hA hP hD hS hf (fun x ho => kX6_hasRange l D cI cZ cS zz (fun i => ad (44 + i)) (q_sb σ 44) a4 a5 x ho) (cwV 2 hts gX11_copy_X6_hasRange rfl rfl rfl ndX6_hasRange ⟨Nat.le_of_ble_eq_true rfl, Nat.le_of_ble_eq_true rfl⟩) [44, 45] rfl rfl rfl rfl rfl rfl (hl.1) rfl (Nat.le_of_ble_eq_true rfl) dX11_copy_107 ⟨Nat.zero_le _, Nat.zero_le _⟩ (fun r85 H locs hf hP hD hS => ?_)
                  refine lv_if_ne (tgt := 120) hx hb dX11_copy_110 (by decide) (fun h86 => ?_) (fun h86 => ?_)
                  · have hf := (if_neg h86).symm.trans hf
                    refine lv_aload_n hx hb dX11_copy_120 rfl (lv_at hl 0 rfl) ?_
                    refine va_get (D := D) (ci := 11) (C := RX11) (T := TX11) (N := 9) hx hb hts fwX11_copy_X11 hown hK hP 0 rfl rfl 6 (by decide) (hts _ (List.mem_of_getElem? (i := 2) rfl)) (fun _ h9 => h9) rfl dX11_copy_121 ?_
                    refine lv_iload_n hx hb dX11_copy_124 rfl (lv_at hl 1 rfl) ?_
                    refine va_aldq hx hb hK hP 43 2 rfl rfl (vp_in_iff.mpr (by decide)) dX11_copy_125 ?_
                    refine W.eq (g2 := F0 m 126 ls [.ref (ad 46)]) rfl ?_
                    refine va_get (D := D) (ci := 6) (C := RX6) (T := TX6) (N := 3) hx hb hts fwX11_copy_X6 hown hK hP 46 rfl rfl 2 (by decide) (hts _ (List.mem_of_getElem? (i := 6) rfl)) (fun _ h9 => h9) rfl dX11_copy_126 ?_
                    refine lv_iload_n hx hb dX11_copy_129 rfl (lv_at hl 2 rfl) ?_
                    refine lv_aload_n hx hb dX11_copy_130 rfl (lv_at hl 0 rfl) ?_
                    refine va_get (D := D) (ci := 11) (C := RX11) (T := TX11) (N := 9) hx hb hts fwX11_copy_X11 hown hK hP 0 rfl rfl 6 (by decide) (hts _ (List.mem_of_getElem? (i := 2) rfl)) (fun _ h9 => h9) rfl dX11_copy_131 ?_
                    refine lv_iload_n hx hb dX11_copy_134 rfl (lv_at hl 3 rfl) ?_
                    refine va_aldq hx hb hK hP 43 2 rfl rfl (vp_in_iff.mpr (by decide)) dX11_copy_135 ?_
                    refine W.eq (g2 := F0 m 136 ls [.ref (ad 44), .int a2, .ref (ad 47)]) rfl ?_
                    refine va_get (D := D) (ci := 6) (C := RX6) (T := TX6) (N := 3) hx hb hts fwX11_copy_X6 hown hK hP 44 rfl rfl 2 (by decide) (hts _ (List.mem_of_getElem? (i := 6) rfl)) (fun _ h9 => h9) rfl dX11_copy_136 ?_
                    refine lv_iload hx hb dX11_copy_139 (lv_at hl 4 rfl) ?_
                    refine lv_iload hx hb dX11_copy_141 (lv_at hl 5 rfl) ?_
                    refine w_copy (D := D) (wf := (wX11 cI cZ cS ad)) (i0 := 47) (i1 := 45) hx hb (hml.trans hl.1.symm) hown (hts _ (List.mem_of_getElem? (i := 7) rfl)) (hts _ (List.mem_of_getElem? (i := 8) rfl)) (hts _ (List.mem_of_getElem? (i := 9) rfl)) (hts _ (List.mem_of_getElem? (i := 10) rfl)) hK hP hD hS 47 45 0 rfl rfl rfl hf (fun _ => rfl) (Nat.le_of_ble_eq_true rfl) (Nat.le_of_ble_eq_true rfl) dX11_copy_143 (fun σ87 H locs hf hP hD hS => ?_)
                    refine lv_iload hx hb dX11_copy_146 (lv_at hl 5 rfl) ?_
                    obtain ⟨hi1, hi2⟩ := Prod.mk.inj (Option.some.inj hf)
                    subst hi1
                    subst hi2
                    exact hret _ _ _ _ dX11_copy_148 rfl hP hS
                  · have hf := (if_pos h86).symm.trans hf
                    exact Jj81  _ _ _ hP hD hS (lv_sub hl [0] rfl) hf
              · have hf := (if_neg h79).symm.trans hf
                refine lv_aload_n hx hb dX11_copy_74 rfl (lv_at hl 0 rfl) ?_
                refine lv_ldcw (v := -1000003) hx hb hown (hts _ (List.mem_of_getElem? (i := 5) rfl)) dX11_copy_75 ?_
                refine q_cVi (wf := (wX11 cI cZ cS ad)) (wc := wX11 cI cZ cS ad) (rest := []) ⟨hx, hb, hml, hown, hts⟩ hK hZ hA hP hD hS hf (fun x τ ho => kX11_tell l D cI cZ cS zz ad σ (-1000003 : Int32) x τ ho) (cwV 1 hts gX11_copy_X11_tell rfl rfl rfl ndX11_tell ⟨Nat.le_of_ble_eq_true rfl, Nat.le_of_ble_eq_true rfl⟩) [0, 1, 2, 3, 4, 5, 6, 7, 8, 9, 10, 11, 12, 13, 14, 15, 16, 17, 18, 19, 20, 21, 22, 23, 24, 25, 26, 27, 28, 29, 30, 31, 32, 33, 34, 35, 36, 37, 38, 39, 40, 41, 42, 43, 44, 45, 46, 47, 48, 49, 50, 51, 52, 53, 54, 55, 56, 57, 58, 59, 60, 61, 62, 63, 64, 65, 66, 67, 68, 69, 70, 71] rfl rfl [some 0, some 1, some 2, some 3, some 4, some 5, some 6, some 7, some 8, some 9, some 10, some 11, some 12, some 13, some 14, some 15, some 16, some 17, some 18, some 19, some 20, some 21, some 22, some 23, some 24, some 25, some 26, some 27, some 28, some 29, some 30, some 31, some 32, some 33, some 34, some 35, some 36, some 37, some 38, some 39, some 40, some 41, some 42, some 43, some 44, some 45, some 46, some 47, some 48, some 49, some 50, some 51, some 52, some 53, some 54, some 55, some 56, some 57, some 58, some 59, some 60, some 61, some 62, some 63, some 64, some 65, some 66, some 67, some 68, some 69, some 70, some 71] (by decide +kernel) (Nat.le_of_ble_eq_true rfl) (fun _ => rfl) (fun _ => rfl) (fun _ => rfl) rfl rfl rfl rfl (hl.1) rfl (Nat.le_of_ble_eq_true rfl) dX11_copy_78 ⟨Nat.zero_le _, Nat.zero_le _⟩ (fun r89 σ88 H locs hf hP hD hS => ?_)
                obtain ⟨hi1, hi2⟩ := Prod.mk.inj (Option.some.inj hf)
                subst hi1
                subst hi2
                exact hret _ _ _ _ dX11_copy_81 rfl hP hS
            · have hf := (if_neg h78).symm.trans hf
              exact Jj72  _ _ _ hP hD hS (lv_sub hl [0] rfl) hf
          have hf := (if_neg h76).symm.trans hf
          by_cases h90 : a3 = (1 : Int32)
          · have hfh90 := (if_pos h90).symm.trans hf
            have hlh90 := hl
            subst h90
            have hf := hfh90
            have hl : lv_has ls 6 [(0, .ref (ad 0)), (1, .int (1 : Int32)), (2, .int a2), (3, .int (1 : Int32)), (4, .int a4), (5, .int a5)] := hlh90
            refine va_aldq hx hb hK hP 43 2 rfl rfl (vp_in_iff.mpr (by decide)) dX11_copy_38 ?_
            refine W.eq (g2 := F0 m 39 ls [.ref (ad 46)]) rfl ?_
            refine q_cVr (wf := (wX11 cI cZ cS ad)) (wc := wX6 cI cZ cS (fun i => ad (46 + i))) (rest := []) ⟨hx, hb, hml, hown, hts⟩ hK hZ hA hP hD hS hf (fun x ho => kX6_isMissing l D cI cZ cS zz (fun i => ad (46 + i)) (q_sb σ 46) x ho) (cwV 0 hts gX11_copy_X6_isMissing rfl rfl rfl ndX6_isMissing ⟨Nat.le_of_ble_eq_true rfl, Nat.le_of_ble_eq_true rfl⟩) [46, 47] rfl rfl rfl rfl rfl rfl (hl.1) rfl (Nat.le_of_ble_eq_true rfl) dX11_copy_39 ⟨Nat.zero_le _, Nat.zero_le _⟩ (fun r91 H locs hf hP hD hS => ?_)
            refine lv_if_eq (tgt := 53) hx hb dX11_copy_42 (by decide) (fun h92 => ?_) (fun h92 => ?_)
            · have hf := (if_pos h92).symm.trans hf
              refine lv_aload_n hx hb dX11_copy_53 rfl (lv_at hl 0 rfl) ?_
              refine va_get (D := D) (ci := 11) (C := RX11) (T := TX11) (N := 9) hx hb hts fwX11_copy_X11 hown hK hP 0 rfl rfl 6 (by decide) (hts _ (List.mem_of_getElem? (i := 2) rfl)) (fun _ h9 => h9) rfl dX11_copy_54 ?_
              refine lv_iload_n hx hb dX11_copy_57 rfl (lv_at hl 1 rfl) ?_
              refine va_aldq hx hb hK hP 43 2 rfl rfl (vp_in_iff.mpr (by decide)) dX11_copy_58 ?_
              refine W.eq (g2 := F0 m 59 ls [.ref (ad 46)]) rfl ?_
              refine va_get (D := D) (ci := 6) (C := RX6) (T := TX6) (N := 3) hx hb hts fwX11_copy_X6 hown hK hP 46 rfl rfl 0 (by decide) (hts _ (List.mem_of_getElem? (i := 4) rfl)) (fun _ h9 => h9) rfl dX11_copy_59 ?_
              refine lv_aload_n hx hb dX11_copy_62 rfl (lv_at hl 0 rfl) ?_
              refine va_get (D := D) (ci := 11) (C := RX11) (T := TX11) (N := 9) hx hb hts fwX11_copy_X11 hown hK hP 0 rfl rfl 6 (by decide) (hts _ (List.mem_of_getElem? (i := 2) rfl)) (fun _ h9 => h9) rfl dX11_copy_63 ?_
              refine lv_iload_n hx hb dX11_copy_66 rfl (lv_at hl 3 rfl) ?_
              refine va_aldq hx hb hK hP 43 2 rfl rfl (vp_in_iff.mpr (by decide)) dX11_copy_67 ?_
              refine W.eq (g2 := F0 m 68 ls [.ref (ad 46), .int (σ 46 0)]) rfl ?_
              refine va_get (D := D) (ci := 6) (C := RX6) (T := TX6) (N := 3) hx hb hts fwX11_copy_X6 hown hK hP 46 rfl rfl 0 (by decide) (hts _ (List.mem_of_getElem? (i := 4) rfl)) (fun _ h9 => h9) rfl dX11_copy_68 ?_
              refine lv_icmp_eq (tgt := 82) hx hb dX11_copy_71 (by decide) (fun h93 => ?_) (fun h93 => ?_)
              · have hf := (if_pos h93).symm.trans hf
                refine lv_aload_n hx hb dX11_copy_82 rfl (lv_at hl 0 rfl) ?_
                refine va_get (D := D) (ci := 11) (C := RX11) (T := TX11) (N := 9) hx hb hts fwX11_copy_X11 hown hK hP 0 rfl rfl 6 (by decide) (hts _ (List.mem_of_getElem? (i := 2) rfl)) (fun _ h9 => h9) rfl dX11_copy_83 ?_
                refine lv_iload_n hx hb dX11_copy_86 rfl (lv_at hl 1 rfl) ?_
                refine va_aldq hx hb hK hP 43 2 rfl rfl (vp_in_iff.mpr (by decide)) dX11_copy_87 ?_
                refine W.eq (g2 := F0 m 88 ls [.ref (ad 46)]) rfl ?_
                refine lv_iload_n hx hb dX11_copy_88 rfl (lv_at hl 2 rfl) ?_
                refine lv_iload hx hb dX11_copy_89 (lv_at hl 5 rfl) ?_
                refine q_cVr (wf := (wX11 cI cZ cS ad)) (wc := wX6 cI cZ cS (fun i => ad (46 + i))) (rest := []) ⟨hx, hb, hml, hown, hts⟩ hK hZ hA hP hD hS hf (fun x ho => kX6_hasRange l D cI cZ cS zz (fun i => ad (46 + i)) (q_sb σ 46) a2 a5 x ho) (cwV 2 hts gX11_copy_X6_hasRange rfl rfl rfl ndX6_hasRange ⟨Nat.le_of_ble_eq_true rfl, Nat.le_of_ble_eq_true rfl⟩) [46, 47] rfl rfl rfl rfl rfl rfl (hl.1) rfl (Nat.le_of_ble_eq_true rfl) dX11_copy_91 ⟨Nat.zero_le _, Nat.zero_le _⟩ (fun r94 H locs hf hP hD hS => ?_)
                refine q_lt_go hf (fun j95 ej95 hf => ?_)
                have Jj95 : ∀ (H : Heap) (locs : List Loc) (ls : Array Slot), va_P D vwCl ((wX11 cI cZ cS ad) σ) H → va_D A ((wX11 cI cZ cS ad) σ) → va_S A s.heap H locs → lv_has ls 6 [(0, .ref (ad 0))] → j95 = some (rr, σr) → W p l e rmX11_copy s m ([.ref (ad 0), .int (1 : Int32), .int a2, .int (1 : Int32), .int a4, .int a5] : List Value).toArray below meth c H locs 0 0 Q (F0 m 113 ls []) := by
                  intro  H locs ls hP hD hS hl hf
                  have hf := ej95.symm.trans hf
                  refine lv_aload_n hx hb dX11_copy_113 rfl (lv_at hl 0 rfl) ?_
                  refine lv_ldc (v := -1000001) hx hb hown (hts _ (List.mem_of_getElem? (i := 1) rfl)) dX11_copy_114 ?_
                  refine q_cVi (wf := (wX11 cI cZ cS ad)) (wc := wX11 cI cZ cS ad) (rest := []) ⟨hx, hb, hml, hown, hts⟩ hK hZ hA hP hD hS hf (fun x τ ho => kX11_tell l D cI cZ cS zz ad σ (-1000001 : Int32) x τ ho) (cwV 1 hts gX11_copy_X11_tell rfl rfl rfl ndX11_tell ⟨Nat.le_of_ble_eq_true rfl, Nat.le_of_ble_eq_true rfl⟩) [0, 1, 2, 3, 4, 5, 6, 7, 8, 9, 10, 11, 12, 13, 14, 15, 16, 17, 18, 19, 20, 21, 22, 23, 24, 25, 26, 27, 28, 29, 30, 31, 32, 33, 34, 35, 36, 37, 38, 39, 40, 41, 42, 43, 44, 45, 46, 47, 48, 49, 50, 51, 52, 53, 54, 55, 56, 57, 58, 59, 60, 61, 62, 63, 64, 65, 66, 67, 68, 69, 70, 71] rfl rfl [some 0, some 1, some 2, some 3, some 4, some 5, some 6, some 7, some 8, some 9, some 10, some 11, some 12, some 13, some 14, some 15, some 16, some 17, some 18, some 19, some 20, some 21, some 22, some 23, some 24, some 25, some 26, some 27, some 28, some 29, some 30, some 31, some 32, some 33, some 34, some 35, some 36, some 37, some 38, some 39, some 40, some 41, some 42, some 43, some 44, some 45, some 46, some 47, some 48, some 49, some 50, some 51, some 52, some 53, some 54, some 55, some 56, some 57, some 58, some 59, some 60, some 61, some 62, some 63, some 64, some 65, some 66, some 67, some 68, some 69, some 70, some 71] (by decide +kernel) (Nat.le_of_ble_eq_true rfl) (fun _ => rfl) (fun _ => rfl) (fun _ => rfl) rfl rfl rfl rfl (hl.1) rfl (Nat.le_of_ble_eq_true rfl) dX11_copy_116 ⟨Nat.zero_le _, Nat.zero_le _⟩ (fun r97 σ96 H locs hf hP hD hS => ?_)
                  obtain ⟨hi1, hi2⟩ := Prod.mk.inj (Option.some.inj hf)
                  subst hi1
                  subst hi2
                  exact hret _ _ _ _ dX11_copy_119 rfl hP hS
                refine lv_if_eq (tgt := 113) hx hb dX11_copy_94 (by decide) (fun h98 => ?_) (fun h98 => ?_)
                · have hf := (if_pos h98).symm.trans hf
                  exact Jj95  _ _ _ hP hD hS (lv_sub hl [0] rfl) hf
                · have hf := (if_neg h98).symm.trans hf
                  refine lv_aload_n hx hb dX11_copy_97 rfl (lv_at hl 0 rfl) ?_
                  refine va_get (D := D) (ci := 11) (C := RX11) (T := TX11) (N := 9) hx hb hts fwX11_copy_X11 hown hK hP 0 rfl rfl 6 (by decide) (hts _ (List.mem_of_getElem? (i := 2) rfl)) (fun _ h9 => h9) rfl dX11_copy_98 ?_
                  refine lv_iload_n hx hb dX11_copy_101 rfl (lv_at hl 3 rfl) ?_
                  refine va_aldq hx hb hK hP 43 2 rfl rfl (vp_in_iff.mpr (by decide)) dX11_copy_102 ?_
                  refine W.eq (g2 := F0 m 103 ls [.ref (ad 46)]) rfl ?_
                  refine lv_iload hx hb dX11_copy_103 (lv_at hl 4 rfl) ?_
                  refine lv_iload hx hb dX11_copy_105 (lv_at hl 5 rfl) ?_
                  refine q_cVr (wf := (wX11 cI cZ cS ad)) (wc := wX6 cI cZ cS (fun i => ad (46 + i))) (rest := []) ⟨hx, hb, hml, hown, hts⟩ hK hZ hA hP hD hS hf (fun x ho => kX6_hasRange l D cI cZ cS zz (fun i => ad (46 + i)) (q_sb σ 46) a4 a5 x ho) (cwV 2 hts gX11_copy_X6_hasRange rfl rfl rfl ndX6_hasRange ⟨Nat.le_of_ble_eq_true rfl, Nat.le_of_ble_eq_true rfl⟩) [46, 47] rfl rfl rfl rfl rfl rfl (hl.1) rfl (Nat.le_of_ble_eq_true rfl) dX11_copy_107 ⟨Nat.zero_le _, Nat.zero_le _⟩ (fun r99 H locs hf hP hD hS => ?_)
                  refine lv_if_ne (tgt := 120) hx hb dX11_copy_110 (by decide) (fun h100 => ?_) (fun h100 => ?_)
                  · have hf := (if_neg h100).symm.trans hf
                    refine lv_aload_n hx hb dX11_copy_120 rfl (lv_at hl 0 rfl) ?_
                    refine va_get (D := D) (ci := 11) (C := RX11) (T := TX11) (N := 9) hx hb hts fwX11_copy_X11 hown hK hP 0 rfl rfl 6 (by decide) (hts _ (List.mem_of_getElem? (i := 2) rfl)) (fun _ h9 => h9) rfl dX11_copy_121 ?_
                    refine lv_iload_n hx hb dX11_copy_124 rfl (lv_at hl 1 rfl) ?_
                    refine va_aldq hx hb hK hP 43 2 rfl rfl (vp_in_iff.mpr (by decide)) dX11_copy_125 ?_
                    refine W.eq (g2 := F0 m 126 ls [.ref (ad 46)]) rfl ?_
                    refine va_get (D := D) (ci := 6) (C := RX6) (T := TX6) (N := 3) hx hb hts fwX11_copy_X6 hown hK hP 46 rfl rfl 2 (by decide) (hts _ (List.mem_of_getElem? (i := 6) rfl)) (fun _ h9 => h9) rfl dX11_copy_126 ?_
                    refine lv_iload_n hx hb dX11_copy_129 rfl (lv_at hl 2 rfl) ?_
                    refine lv_aload_n hx hb dX11_copy_130 rfl (lv_at hl 0 rfl) ?_
                    refine va_get (D := D) (ci := 11) (C := RX11) (T := TX11) (N := 9) hx hb hts fwX11_copy_X11 hown hK hP 0 rfl rfl 6 (by decide) (hts _ (List.mem_of_getElem? (i := 2) rfl)) (fun _ h9 => h9) rfl dX11_copy_131 ?_
                    refine lv_iload_n hx hb dX11_copy_134 rfl (lv_at hl 3 rfl) ?_
                    refine va_aldq hx hb hK hP 43 2 rfl rfl (vp_in_iff.mpr (by decide)) dX11_copy_135 ?_
                    refine W.eq (g2 := F0 m 136 ls [.ref (ad 46), .int a2, .ref (ad 47)]) rfl ?_
                    refine va_get (D := D) (ci := 6) (C := RX6) (T := TX6) (N := 3) hx hb hts fwX11_copy_X6 hown hK hP 46 rfl rfl 2 (by decide) (hts _ (List.mem_of_getElem? (i := 6) rfl)) (fun _ h9 => h9) rfl dX11_copy_136 ?_
                    refine lv_iload hx hb dX11_copy_139 (lv_at hl 4 rfl) ?_
                    refine lv_iload hx hb dX11_copy_141 (lv_at hl 5 rfl) ?_
                    refine w_copy (D := D) (wf := (wX11 cI cZ cS ad)) (i0 := 47) (i1 := 47) hx hb (hml.trans hl.1.symm) hown (hts _ (List.mem_of_getElem? (i := 7) rfl)) (hts _ (List.mem_of_getElem? (i := 8) rfl)) (hts _ (List.mem_of_getElem? (i := 9) rfl)) (hts _ (List.mem_of_getElem? (i := 10) rfl)) hK hP hD hS 47 47 0 rfl rfl rfl hf (fun _ => rfl) (Nat.le_of_ble_eq_true rfl) (Nat.le_of_ble_eq_true rfl) dX11_copy_143 (fun σ101 H locs hf hP hD hS => ?_)
                    refine lv_iload hx hb dX11_copy_146 (lv_at hl 5 rfl) ?_
                    obtain ⟨hi1, hi2⟩ := Prod.mk.inj (Option.some.inj hf)
                    subst hi1
                    subst hi2
                    exact hret _ _ _ _ dX11_copy_148 rfl hP hS
                  · have hf := (if_pos h100).symm.trans hf
                    exact Jj95  _ _ _ hP hD hS (lv_sub hl [0] rfl) hf
              · have hf := (if_neg h93).symm.trans hf
                refine lv_aload_n hx hb dX11_copy_74 rfl (lv_at hl 0 rfl) ?_
                refine lv_ldcw (v := -1000003) hx hb hown (hts _ (List.mem_of_getElem? (i := 5) rfl)) dX11_copy_75 ?_
                refine q_cVi (wf := (wX11 cI cZ cS ad)) (wc := wX11 cI cZ cS ad) (rest := []) ⟨hx, hb, hml, hown, hts⟩ hK hZ hA hP hD hS hf (fun x τ ho => kX11_tell l D cI cZ cS zz ad σ (-1000003 : Int32) x τ ho) (cwV 1 hts gX11_copy_X11_tell rfl rfl rfl ndX11_tell ⟨Nat.le_of_ble_eq_true rfl, Nat.le_of_ble_eq_true rfl⟩) [0, 1, 2, 3, 4, 5, 6, 7, 8, 9, 10, 11, 12, 13, 14, 15, 16, 17, 18, 19, 20, 21, 22, 23, 24, 25, 26, 27, 28, 29, 30, 31, 32, 33, 34, 35, 36, 37, 38, 39, 40, 41, 42, 43, 44, 45, 46, 47, 48, 49, 50, 51, 52, 53, 54, 55, 56, 57, 58, 59, 60, 61, 62, 63, 64, 65, 66, 67, 68, 69, 70, 71] rfl rfl [some 0, some 1, some 2, some 3, some 4, some 5, some 6, some 7, some 8, some 9, some 10, some 11, some 12, some 13, some 14, some 15, some 16, some 17, some 18, some 19, some 20, some 21, some 22, some 23, some 24, some 25, some 26, some 27, some 28, some 29, some 30, some 31, some 32, some 33, some 34, some 35, some 36, some 37, some 38, some 39, some 40, some 41, some 42, some 43, some 44, some 45, some 46, some 47, some 48, some 49, some 50, some 51, some 52, some 53, some 54, some 55, some 56, some 57, some 58, some 59, some 60, some 61, some 62, some 63, some 64, some 65, some 66, some 67, some 68, some 69, some 70, some 71] (by decide +kernel) (Nat.le_of_ble_eq_true rfl) (fun _ => rfl) (fun _ => rfl) (fun _ => rfl) rfl rfl rfl rfl (hl.1) rfl (Nat.le_of_ble_eq_true rfl) dX11_copy_78 ⟨Nat.zero_le _, Nat.zero_le _⟩ (fun r103 σ102 H locs hf hP hD hS => ?_)
                obtain ⟨hi1, hi2⟩ := Prod.mk.inj (Option.some.inj hf)
                subst hi1
                subst hi2
                exact hret _ _ _ _ dX11_copy_81 rfl hP hS
            · have hf := (if_neg h92).symm.trans hf
              exact Jj72  _ _ _ hP hD hS (lv_sub hl [0] rfl) hf
          have hf := (if_neg h90).symm.trans hf
          by_cases h104 : a3 = (2 : Int32)
          · have hfh104 := (if_pos h104).symm.trans hf
            have hlh104 := hl
            subst h104
            have hf := hfh104
            have hl : lv_has ls 6 [(0, .ref (ad 0)), (1, .int (1 : Int32)), (2, .int a2), (3, .int (2 : Int32)), (4, .int a4), (5, .int a5)] := hlh104
            refine va_aldq hx hb hK hP 43 2 rfl rfl (vp_in_iff.mpr (by decide)) dX11_copy_38 ?_
            refine W.eq (g2 := F0 m 39 ls [.ref (ad 48)]) rfl ?_
            refine q_cVr (wf := (wX11 cI cZ cS ad)) (wc := wX6 cI cZ cS (fun i => ad (48 + i))) (rest := []) ⟨hx, hb, hml, hown, hts⟩ hK hZ hA hP hD hS hf (fun x ho => kX6_isMissing l D cI cZ cS zz (fun i => ad (48 + i)) (q_sb σ 48) x ho) (cwV 0 hts gX11_copy_X6_isMissing rfl rfl rfl ndX6_isMissing ⟨Nat.le_of_ble_eq_true rfl, Nat.le_of_ble_eq_true rfl⟩) [48, 49] rfl rfl rfl rfl rfl rfl (hl.1) rfl (Nat.le_of_ble_eq_true rfl) dX11_copy_39 ⟨Nat.zero_le _, Nat.zero_le _⟩ (fun r105 H locs hf hP hD hS => ?_)
            refine lv_if_eq (tgt := 53) hx hb dX11_copy_42 (by decide) (fun h106 => ?_) (fun h106 => ?_)
            · have hf := (if_pos h106).symm.trans hf
              refine lv_aload_n hx hb dX11_copy_53 rfl (lv_at hl 0 rfl) ?_
              refine va_get (D := D) (ci := 11) (C := RX11) (T := TX11) (N := 9) hx hb hts fwX11_copy_X11 hown hK hP 0 rfl rfl 6 (by decide) (hts _ (List.mem_of_getElem? (i := 2) rfl)) (fun _ h9 => h9) rfl dX11_copy_54 ?_
              refine lv_iload_n hx hb dX11_copy_57 rfl (lv_at hl 1 rfl) ?_
              refine va_aldq hx hb hK hP 43 2 rfl rfl (vp_in_iff.mpr (by decide)) dX11_copy_58 ?_
              refine W.eq (g2 := F0 m 59 ls [.ref (ad 46)]) rfl ?_
              refine va_get (D := D) (ci := 6) (C := RX6) (T := TX6) (N := 3) hx hb hts fwX11_copy_X6 hown hK hP 46 rfl rfl 0 (by decide) (hts _ (List.mem_of_getElem? (i := 4) rfl)) (fun _ h9 => h9) rfl dX11_copy_59 ?_
              refine lv_aload_n hx hb dX11_copy_62 rfl (lv_at hl 0 rfl) ?_
              refine va_get (D := D) (ci := 11) (C := RX11) (T := TX11) (N := 9) hx hb hts fwX11_copy_X11 hown hK hP 0 rfl rfl 6 (by decide) (hts _ (List.mem_of_getElem? (i := 2) rfl)) (fun _ h9 => h9) rfl dX11_copy_63 ?_
              refine lv_iload_n hx hb dX11_copy_66 rfl (lv_at hl 3 rfl) ?_
              refine va_aldq hx hb hK hP 43 2 rfl rfl (vp_in_iff.mpr (by decide)) dX11_copy_67 ?_
              refine W.eq (g2 := F0 m 68 ls [.ref (ad 48), .int (σ 46 0)]) rfl ?_
              refine va_get (D := D) (ci := 6) (C := RX6) (T := TX6) (N := 3) hx hb hts fwX11_copy_X6 hown hK hP 48 rfl rfl 0 (by decide) (hts _ (List.mem_of_getElem? (i := 4) rfl)) (fun _ h9 => h9) rfl dX11_copy_68 ?_
              refine lv_icmp_eq (tgt := 82) hx hb dX11_copy_71 (by decide) (fun h107 => ?_) (fun h107 => ?_)
              · have hf := (if_pos h107).symm.trans hf
                refine lv_aload_n hx hb dX11_copy_82 rfl (lv_at hl 0 rfl) ?_
                refine va_get (D := D) (ci := 11) (C := RX11) (T := TX11) (N := 9) hx hb hts fwX11_copy_X11 hown hK hP 0 rfl rfl 6 (by decide) (hts _ (List.mem_of_getElem? (i := 2) rfl)) (fun _ h9 => h9) rfl dX11_copy_83 ?_
                refine lv_iload_n hx hb dX11_copy_86 rfl (lv_at hl 1 rfl) ?_
                refine va_aldq hx hb hK hP 43 2 rfl rfl (vp_in_iff.mpr (by decide)) dX11_copy_87 ?_
                refine W.eq (g2 := F0 m 88 ls [.ref (ad 46)]) rfl ?_
                refine lv_iload_n hx hb dX11_copy_88 rfl (lv_at hl 2 rfl) ?_
                refine lv_iload hx hb dX11_copy_89 (lv_at hl 5 rfl) ?_
                refine q_cVr (wf := (wX11 cI cZ cS ad)) (wc := wX6 cI cZ cS (fun i => ad (46 + i))) (rest := []) ⟨hx, hb, hml, hown, hts⟩ hK hZ hA hP hD hS hf (fun x ho => kX6_hasRange l D cI cZ cS zz (fun i => ad (46 + i)) (q_sb σ 46) a2 a5 x ho) (cwV 2 hts gX11_copy_X6_hasRange rfl rfl rfl ndX6_hasRange ⟨Nat.le_of_ble_eq_true rfl, Nat.le_of_ble_eq_true rfl⟩) [46, 47] rfl rfl rfl rfl rfl rfl (hl.1) rfl (Nat.le_of_ble_eq_true rfl) dX11_copy_91 ⟨Nat.zero_le _, Nat.zero_le _⟩ (fun r108 H locs hf hP hD hS => ?_)
                refine q_lt_go hf (fun j109 ej109 hf => ?_)
                have Jj109 : ∀ (H : Heap) (locs : List Loc) (ls : Array Slot), va_P D vwCl ((wX11 cI cZ cS ad) σ) H → va_D A ((wX11 cI cZ cS ad) σ) → va_S A s.heap H locs → lv_has ls 6 [(0, .ref (ad 0))] → j109 = some (rr, σr) → W p l e rmX11_copy s m ([.ref (ad 0), .int (1 : Int32), .int a2, .int (2 : Int32), .int a4, .int a5] : List Value).toArray below meth c H locs 0 0 Q (F0 m 113 ls []) := by
                  intro  H locs ls hP hD hS hl hf
                  have hf := ej109.symm.trans hf
                  refine lv_aload_n hx hb dX11_copy_113 rfl (lv_at hl 0 rfl) ?_
                  refine lv_ldc (v := -1000001) hx hb hown (hts _ (List.mem_of_getElem? (i := 1) rfl)) dX11_copy_114 ?_
                  refine q_cVi (wf := (wX11 cI cZ cS ad)) (wc := wX11 cI cZ cS ad) (rest := []) ⟨hx, hb, hml, hown, hts⟩ hK hZ hA hP hD hS hf (fun x τ ho => kX11_tell l D cI cZ cS zz ad σ (-1000001 : Int32) x τ ho) (cwV 1 hts gX11_copy_X11_tell rfl rfl rfl ndX11_tell ⟨Nat.le_of_ble_eq_true rfl, Nat.le_of_ble_eq_true rfl⟩) [0, 1, 2, 3, 4, 5, 6, 7, 8, 9, 10, 11, 12, 13, 14, 15, 16, 17, 18, 19, 20, 21, 22, 23, 24, 25, 26, 27, 28, 29, 30, 31, 32, 33, 34, 35, 36, 37, 38, 39, 40, 41, 42, 43, 44, 45, 46, 47, 48, 49, 50, 51, 52, 53, 54, 55, 56, 57, 58, 59, 60, 61, 62, 63, 64, 65, 66, 67, 68, 69, 70, 71] rfl rfl [some 0, some 1, some 2, some 3, some 4, some 5, some 6, some 7, some 8, some 9, some 10, some 11, some 12, some 13, some 14, some 15, some 16, some 17, some 18, some 19, some 20, some 21, some 22, some 23, some 24, some 25, some 26, some 27, some 28, some 29, some 30, some 31, some 32, some 33, some 34, some 35, some 36, some 37, some 38, some 39, some 40, some 41, some 42, some 43, some 44, some 45, some 46, some 47, some 48, some 49, some 50, some 51, some 52, some 53, some 54, some 55, some 56, some 57, some 58, some 59, some 60, some 61, some 62, some 63, some 64, some 65, some 66, some 67, some 68, some 69, some 70, some 71] (by decide +kernel) (Nat.le_of_ble_eq_true rfl) (fun _ => rfl) (fun _ => rfl) (fun _ => rfl) rfl rfl rfl rfl (hl.1) rfl (Nat.le_of_ble_eq_true rfl) dX11_copy_116 ⟨Nat.zero_le _, Nat.zero_le _⟩ (fun r111 σ110 H locs hf hP hD hS => ?_)
                  obtain ⟨hi1, hi2⟩ := Prod.mk.inj (Option.some.inj hf)
                  subst hi1
                  subst hi2
                  exact hret _ _ _ _ dX11_copy_119 rfl hP hS
                refine lv_if_eq (tgt := 113) hx hb dX11_copy_94 (by decide) (fun h112 => ?_) (fun h112 => ?_)
                · have hf := (if_pos h112).symm.trans hf
                  exact Jj109  _ _ _ hP hD hS (lv_sub hl [0] rfl) hf
                · have hf := (if_neg h112).symm.trans hf
                  refine lv_aload_n hx hb dX11_copy_97 rfl (lv_at hl 0 rfl) ?_
                  refine va_get (D := D) (ci := 11) (C := RX11) (T := TX11) (N := 9) hx hb hts fwX11_copy_X11 hown hK hP 0 rfl rfl 6 (by decide) (hts _ (List.mem_of_getElem? (i := 2) rfl)) (fun _ h9 => h9) rfl dX11_copy_98 ?_
                  refine lv_iload_n hx hb dX11_copy_101 rfl (lv_at hl 3 rfl) ?_
                  refine va_aldq hx hb hK hP 43 2 rfl rfl (vp_in_iff.mpr (by decide)) dX11_copy_102 ?_
                  refine W.eq (g2 := F0 m 103 ls [.ref (ad 48)]) rfl ?_
                  refine lv_iload hx hb dX11_copy_103 (lv_at hl 4 rfl) ?_
                  refine lv_iload hx hb dX11_copy_105 (lv_at hl 5 rfl) ?_
                  refine q_cVr (wf := (wX11 cI cZ cS ad)) (wc := wX6 cI cZ cS (fun i => ad (48 + i))) (rest := []) ⟨hx, hb, hml, hown, hts⟩ hK hZ hA hP hD hS hf (fun x ho => kX6_hasRange l D cI cZ cS zz (fun i => ad (48 + i)) (q_sb σ 48) a4 a5 x ho) (cwV 2 hts gX11_copy_X6_hasRange rfl rfl rfl ndX6_hasRange ⟨Nat.le_of_ble_eq_true rfl, Nat.le_of_ble_eq_true rfl⟩) [48, 49] rfl rfl rfl rfl rfl rfl (hl.1) rfl (Nat.le_of_ble_eq_true rfl) dX11_copy_107 ⟨Nat.zero_le _, Nat.zero_le _⟩ (fun r113 H locs hf hP hD hS => ?_)
                  refine lv_if_ne (tgt := 120) hx hb dX11_copy_110 (by decide) (fun h114 => ?_) (fun h114 => ?_)
                  · have hf := (if_neg h114).symm.trans hf
                    refine lv_aload_n hx hb dX11_copy_120 rfl (lv_at hl 0 rfl) ?_
                    refine va_get (D := D) (ci := 11) (C := RX11) (T := TX11) (N := 9) hx hb hts fwX11_copy_X11 hown hK hP 0 rfl rfl 6 (by decide) (hts _ (List.mem_of_getElem? (i := 2) rfl)) (fun _ h9 => h9) rfl dX11_copy_121 ?_
                    refine lv_iload_n hx hb dX11_copy_124 rfl (lv_at hl 1 rfl) ?_
                    refine va_aldq hx hb hK hP 43 2 rfl rfl (vp_in_iff.mpr (by decide)) dX11_copy_125 ?_
                    refine W.eq (g2 := F0 m 126 ls [.ref (ad 46)]) rfl ?_
                    refine va_get (D := D) (ci := 6) (C := RX6) (T := TX6) (N := 3) hx hb hts fwX11_copy_X6 hown hK hP 46 rfl rfl 2 (by decide) (hts _ (List.mem_of_getElem? (i := 6) rfl)) (fun _ h9 => h9) rfl dX11_copy_126 ?_
                    refine lv_iload_n hx hb dX11_copy_129 rfl (lv_at hl 2 rfl) ?_
                    refine lv_aload_n hx hb dX11_copy_130 rfl (lv_at hl 0 rfl) ?_
                    refine va_get (D := D) (ci := 11) (C := RX11) (T := TX11) (N := 9) hx hb hts fwX11_copy_X11 hown hK hP 0 rfl rfl 6 (by decide) (hts _ (List.mem_of_getElem? (i := 2) rfl)) (fun _ h9 => h9) rfl dX11_copy_131 ?_
                    refine lv_iload_n hx hb dX11_copy_134 rfl (lv_at hl 3 rfl) ?_
                    refine va_aldq hx hb hK hP 43 2 rfl rfl (vp_in_iff.mpr (by decide)) dX11_copy_135 ?_
                    refine W.eq (g2 := F0 m 136 ls [.ref (ad 48), .int a2, .ref (ad 47)]) rfl ?_
                    refine va_get (D := D) (ci := 6) (C := RX6) (T := TX6) (N := 3) hx hb hts fwX11_copy_X6 hown hK hP 48 rfl rfl 2 (by decide) (hts _ (List.mem_of_getElem? (i := 6) rfl)) (fun _ h9 => h9) rfl dX11_copy_136 ?_
                    refine lv_iload hx hb dX11_copy_139 (lv_at hl 4 rfl) ?_
                    refine lv_iload hx hb dX11_copy_141 (lv_at hl 5 rfl) ?_
                    refine w_copy (D := D) (wf := (wX11 cI cZ cS ad)) (i0 := 47) (i1 := 49) hx hb (hml.trans hl.1.symm) hown (hts _ (List.mem_of_getElem? (i := 7) rfl)) (hts _ (List.mem_of_getElem? (i := 8) rfl)) (hts _ (List.mem_of_getElem? (i := 9) rfl)) (hts _ (List.mem_of_getElem? (i := 10) rfl)) hK hP hD hS 47 49 0 rfl rfl rfl hf (fun _ => rfl) (Nat.le_of_ble_eq_true rfl) (Nat.le_of_ble_eq_true rfl) dX11_copy_143 (fun σ115 H locs hf hP hD hS => ?_)
                    refine lv_iload hx hb dX11_copy_146 (lv_at hl 5 rfl) ?_
                    obtain ⟨hi1, hi2⟩ := Prod.mk.inj (Option.some.inj hf)
                    subst hi1
                    subst hi2
                    exact hret _ _ _ _ dX11_copy_148 rfl hP hS
                  · have hf := (if_pos h114).symm.trans hf
                    exact Jj109  _ _ _ hP hD hS (lv_sub hl [0] rfl) hf
              · have hf := (if_neg h107).symm.trans hf
                refine lv_aload_n hx hb dX11_copy_74 rfl (lv_at hl 0 rfl) ?_
                refine lv_ldcw (v := -1000003) hx hb hown (hts _ (List.mem_of_getElem? (i := 5) rfl)) dX11_copy_75 ?_
                refine q_cVi (wf := (wX11 cI cZ cS ad)) (wc := wX11 cI cZ cS ad) (rest := []) ⟨hx, hb, hml, hown, hts⟩ hK hZ hA hP hD hS hf (fun x τ ho => kX11_tell l D cI cZ cS zz ad σ (-1000003 : Int32) x τ ho) (cwV 1 hts gX11_copy_X11_tell rfl rfl rfl ndX11_tell ⟨Nat.le_of_ble_eq_true rfl, Nat.le_of_ble_eq_true rfl⟩) [0, 1, 2, 3, 4, 5, 6, 7, 8, 9, 10, 11, 12, 13, 14, 15, 16, 17, 18, 19, 20, 21, 22, 23, 24, 25, 26, 27, 28, 29, 30, 31, 32, 33, 34, 35, 36, 37, 38, 39, 40, 41, 42, 43, 44, 45, 46, 47, 48, 49, 50, 51, 52, 53, 54, 55, 56, 57, 58, 59, 60, 61, 62, 63, 64, 65, 66, 67, 68, 69, 70, 71] rfl rfl [some 0, some 1, some 2, some 3, some 4, some 5, some 6, some 7, some 8, some 9, some 10, some 11, some 12, some 13, some 14, some 15, some 16, some 17, some 18, some 19, some 20, some 21, some 22, some 23, some 24, some 25, some 26, some 27, some 28, some 29, some 30, some 31, some 32, some 33, some 34, some 35, some 36, some 37, some 38, some 39, some 40, some 41, some 42, some 43, some 44, some 45, some 46, some 47, some 48, some 49, some 50, some 51, some 52, some 53, some 54, some 55, some 56, some 57, some 58, some 59, some 60, some 61, some 62, some 63, some 64, some 65, some 66, some 67, some 68, some 69, some 70, some 71] (by decide +kernel) (Nat.le_of_ble_eq_true rfl) (fun _ => rfl) (fun _ => rfl) (fun _ => rfl) rfl rfl rfl rfl (hl.1) rfl (Nat.le_of_ble_eq_true rfl) dX11_copy_78 ⟨Nat.zero_le _, Nat.zero_le _⟩ (fun r117 σ116 H locs hf hP hD hS => ?_)
                obtain ⟨hi1, hi2⟩ := Prod.mk.inj (Option.some.inj hf)
                subst hi1
                subst hi2
                exact hret _ _ _ _ dX11_copy_81 rfl hP hS
            · have hf := (if_neg h106).symm.trans hf
              exact Jj72  _ _ _ hP hD hS (lv_sub hl [0] rfl) hf
          have hf := (if_neg h104).symm.trans hf
          by_cases h118 : a3 = (3 : Int32)
          · have hfh118 := (if_pos h118).symm.trans hf
            have hlh118 := hl
            subst h118
            have hf := hfh118
            have hl : lv_has ls 6 [(0, .ref (ad 0)), (1, .int (1 : Int32)), (2, .int a2), (3, .int (3 : Int32)), (4, .int a4), (5, .int a5)] := hlh118
            refine va_aldq hx hb hK hP 43 2 rfl rfl (vp_in_iff.mpr (by decide)) dX11_copy_38 ?_
            refine W.eq (g2 := F0 m 39 ls [.ref (ad 50)]) rfl ?_
            refine q_cVr (wf := (wX11 cI cZ cS ad)) (wc := wX6 cI cZ cS (fun i => ad (50 + i))) (rest := []) ⟨hx, hb, hml, hown, hts⟩ hK hZ hA hP hD hS hf (fun x ho => kX6_isMissing l D cI cZ cS zz (fun i => ad (50 + i)) (q_sb σ 50) x ho) (cwV 0 hts gX11_copy_X6_isMissing rfl rfl rfl ndX6_isMissing ⟨Nat.le_of_ble_eq_true rfl, Nat.le_of_ble_eq_true rfl⟩) [50, 51] rfl rfl rfl rfl rfl rfl (hl.1) rfl (Nat.le_of_ble_eq_true rfl) dX11_copy_39 ⟨Nat.zero_le _, Nat.zero_le _⟩ (fun r119 H locs hf hP hD hS => ?_)
            refine lv_if_eq (tgt := 53) hx hb dX11_copy_42 (by decide) (fun h120 => ?_) (fun h120 => ?_)
            · have hf := (if_pos h120).symm.trans hf
              refine lv_aload_n hx hb dX11_copy_53 rfl (lv_at hl 0 rfl) ?_
              refine va_get (D := D) (ci := 11) (C := RX11) (T := TX11) (N := 9) hx hb hts fwX11_copy_X11 hown hK hP 0 rfl rfl 6 (by decide) (hts _ (List.mem_of_getElem? (i := 2) rfl)) (fun _ h9 => h9) rfl dX11_copy_54 ?_
              refine lv_iload_n hx hb dX11_copy_57 rfl (lv_at hl 1 rfl) ?_
              refine va_aldq hx hb hK hP 43 2 rfl rfl (vp_in_iff.mpr (by decide)) dX11_copy_58 ?_
              refine W.eq (g2 := F0 m 59 ls [.ref (ad 46)]) rfl ?_
              refine va_get (D := D) (ci := 6) (C := RX6) (T := TX6) (N := 3) hx hb hts fwX11_copy_X6 hown hK hP 46 rfl rfl 0 (by decide) (hts _ (List.mem_of_getElem? (i := 4) rfl)) (fun _ h9 => h9) rfl dX11_copy_59 ?_
              refine lv_aload_n hx hb dX11_copy_62 rfl (lv_at hl 0 rfl) ?_
              refine va_get (D := D) (ci := 11) (C := RX11) (T := TX11) (N := 9) hx hb hts fwX11_copy_X11 hown hK hP 0 rfl rfl 6 (by decide) (hts _ (List.mem_of_getElem? (i := 2) rfl)) (fun _ h9 => h9) rfl dX11_copy_63 ?_
              refine lv_iload_n hx hb dX11_copy_66 rfl (lv_at hl 3 rfl) ?_
              refine va_aldq hx hb hK hP 43 2 rfl rfl (vp_in_iff.mpr (by decide)) dX11_copy_67 ?_
              refine W.eq (g2 := F0 m 68 ls [.ref (ad 50), .int (σ 46 0)]) rfl ?_
              refine va_get (D := D) (ci := 6) (C := RX6) (T := TX6) (N := 3) hx hb hts fwX11_copy_X6 hown hK hP 50 rfl rfl 0 (by decide) (hts _ (List.mem_of_getElem? (i := 4) rfl)) (fun _ h9 => h9) rfl dX11_copy_68 ?_
              refine lv_icmp_eq (tgt := 82) hx hb dX11_copy_71 (by decide) (fun h121 => ?_) (fun h121 => ?_)
              · have hf := (if_pos h121).symm.trans hf
                refine lv_aload_n hx hb dX11_copy_82 rfl (lv_at hl 0 rfl) ?_
                refine va_get (D := D) (ci := 11) (C := RX11) (T := TX11) (N := 9) hx hb hts fwX11_copy_X11 hown hK hP 0 rfl rfl 6 (by decide) (hts _ (List.mem_of_getElem? (i := 2) rfl)) (fun _ h9 => h9) rfl dX11_copy_83 ?_
                refine lv_iload_n hx hb dX11_copy_86 rfl (lv_at hl 1 rfl) ?_
                refine va_aldq hx hb hK hP 43 2 rfl rfl (vp_in_iff.mpr (by decide)) dX11_copy_87 ?_
                refine W.eq (g2 := F0 m 88 ls [.ref (ad 46)]) rfl ?_
                refine lv_iload_n hx hb dX11_copy_88 rfl (lv_at hl 2 rfl) ?_
                refine lv_iload hx hb dX11_copy_89 (lv_at hl 5 rfl) ?_
                refine q_cVr (wf := (wX11 cI cZ cS ad)) (wc := wX6 cI cZ cS (fun i => ad (46 + i))) (rest := []) ⟨hx, hb, hml, hown, hts⟩ hK hZ hA hP hD hS hf (fun x ho => kX6_hasRange l D cI cZ cS zz (fun i => ad (46 + i)) (q_sb σ 46) a2 a5 x ho) (cwV 2 hts gX11_copy_X6_hasRange rfl rfl rfl ndX6_hasRange ⟨Nat.le_of_ble_eq_true rfl, Nat.le_of_ble_eq_true rfl⟩) [46, 47] rfl rfl rfl rfl rfl rfl (hl.1) rfl (Nat.le_of_ble_eq_true rfl) dX11_copy_91 ⟨Nat.zero_le _, Nat.zero_le _⟩ (fun r122 H locs hf hP hD hS => ?_)
                refine q_lt_go hf (fun j123 ej123 hf => ?_)
                have Jj123 : ∀ (H : Heap) (locs : List Loc) (ls : Array Slot), va_P D vwCl ((wX11 cI cZ cS ad) σ) H → va_D A ((wX11 cI cZ cS ad) σ) → va_S A s.heap H locs → lv_has ls 6 [(0, .ref (ad 0))] → j123 = some (rr, σr) → W p l e rmX11_copy s m ([.ref (ad 0), .int (1 : Int32), .int a2, .int (3 : Int32), .int a4, .int a5] : List Value).toArray below meth c H locs 0 0 Q (F0 m 113 ls []) := by
                  intro  H locs ls hP hD hS hl hf
                  have hf := ej123.symm.trans hf
                  refine lv_aload_n hx hb dX11_copy_113 rfl (lv_at hl 0 rfl) ?_
                  refine lv_ldc (v := -1000001) hx hb hown (hts _ (List.mem_of_getElem? (i := 1) rfl)) dX11_copy_114 ?_
                  refine q_cVi (wf := (wX11 cI cZ cS ad)) (wc := wX11 cI cZ cS ad) (rest := []) ⟨hx, hb, hml, hown, hts⟩ hK hZ hA hP hD hS hf (fun x τ ho => kX11_tell l D cI cZ cS zz ad σ (-1000001 : Int32) x τ ho) (cwV 1 hts gX11_copy_X11_tell rfl rfl rfl ndX11_tell ⟨Nat.le_of_ble_eq_true rfl, Nat.le_of_ble_eq_true rfl⟩) [0, 1, 2, 3, 4, 5, 6, 7, 8, 9, 10, 11, 12, 13, 14, 15, 16, 17, 18, 19, 20, 21, 22, 23, 24, 25, 26, 27, 28, 29, 30, 31, 32, 33, 34, 35, 36, 37, 38, 39, 40, 41, 42, 43, 44, 45, 46, 47, 48, 49, 50, 51, 52, 53, 54, 55, 56, 57, 58, 59, 60, 61, 62, 63, 64, 65, 66, 67, 68, 69, 70, 71] rfl rfl [some 0, some 1, some 2, some 3, some 4, some 5, some 6, some 7, some 8, some 9, some 10, some 11, some 12, some 13, some 14, some 15, some 16, some 17, some 18, some 19, some 20, some 21, some 22, some 23, some 24, some 25, some 26, some 27, some 28, some 29, some 30, some 31, some 32, some 33, some 34, some 35, some 36, some 37, some 38, some 39, some 40, some 41, some 42, some 43, some 44, some 45, some 46, some 47, some 48, some 49, some 50, some 51, some 52, some 53, some 54, some 55, some 56, some 57, some 58, some 59, some 60, some 61, some 62, some 63, some 64, some 65, some 66, some 67, some 68, some 69, some 70, some 71] (by decide +kernel) (Nat.le_of_ble_eq_true rfl) (fun _ => rfl) (fun _ => rfl) (fun _ => rfl) rfl rfl rfl rfl (hl.1) rfl (Nat.le_of_ble_eq_true rfl) dX11_copy_116 ⟨Nat.zero_le _, Nat.zero_le _⟩ (fun r125 σ124 H locs hf hP hD hS => ?_)
                  obtain ⟨hi1, hi2⟩ := Prod.mk.inj (Option.some.inj hf)
                  subst hi1
                  subst hi2
                  exact hret _ _ _ _ dX11_copy_119 rfl hP hS
                refine lv_if_eq (tgt := 113) hx hb dX11_copy_94 (by decide) (fun h126 => ?_) (fun h126 => ?_)
                · have hf := (if_pos h126).symm.trans hf
                  exact Jj123  _ _ _ hP hD hS (lv_sub hl [0] rfl) hf
                · have hf := (if_neg h126).symm.trans hf
                  refine lv_aload_n hx hb dX11_copy_97 rfl (lv_at hl 0 rfl) ?_
                  refine va_get (D := D) (ci := 11) (C := RX11) (T := TX11) (N := 9) hx hb hts fwX11_copy_X11 hown hK hP 0 rfl rfl 6 (by decide) (hts _ (List.mem_of_getElem? (i := 2) rfl)) (fun _ h9 => h9) rfl dX11_copy_98 ?_
                  refine lv_iload_n hx hb dX11_copy_101 rfl (lv_at hl 3 rfl) ?_
                  refine va_aldq hx hb hK hP 43 2 rfl rfl (vp_in_iff.mpr (by decide)) dX11_copy_102 ?_
                  refine W.eq (g2 := F0 m 103 ls [.ref (ad 50)]) rfl ?_
                  refine lv_iload hx hb dX11_copy_103 (lv_at hl 4 rfl) ?_
                  refine lv_iload hx hb dX11_copy_105 (lv_at hl 5 rfl) ?_
                  refine q_cVr (wf := (wX11 cI cZ cS ad)) (wc := wX6 cI cZ cS (fun i => ad (50 + i))) (rest := []) ⟨hx, hb, hml, hown, hts⟩ hK hZ hA hP hD hS hf (fun x ho => kX6_hasRange l D cI cZ cS zz (fun i => ad (50 + i)) (q_sb σ 50) a4 a5 x ho) (cwV 2 hts gX11_copy_X6_hasRange rfl rfl rfl ndX6_hasRange ⟨Nat.le_of_ble_eq_true rfl, Nat.le_of_ble_eq_true rfl⟩) [50, 51] rfl rfl rfl rfl rfl rfl (hl.1) rfl (Nat.le_of_ble_eq_true rfl) dX11_copy_107 ⟨Nat.zero_le _, Nat.zero_le _⟩ (fun r127 H locs hf hP hD hS => ?_)
                  refine lv_if_ne (tgt := 120) hx hb dX11_copy_110 (by decide) (fun h128 => ?_) (fun h128 => ?_)
                  · have hf := (if_neg h128).symm.trans hf
                    refine lv_aload_n hx hb dX11_copy_120 rfl (lv_at hl 0 rfl) ?_
                    refine va_get (D := D) (ci := 11) (C := RX11) (T := TX11) (N := 9) hx hb hts fwX11_copy_X11 hown hK hP 0 rfl rfl 6 (by decide) (hts _ (List.mem_of_getElem? (i := 2) rfl)) (fun _ h9 => h9) rfl dX11_copy_121 ?_
                    refine lv_iload_n hx hb dX11_copy_124 rfl (lv_at hl 1 rfl) ?_
                    refine va_aldq hx hb hK hP 43 2 rfl rfl (vp_in_iff.mpr (by decide)) dX11_copy_125 ?_
                    refine W.eq (g2 := F0 m 126 ls [.ref (ad 46)]) rfl ?_
                    refine va_get (D := D) (ci := 6) (C := RX6) (T := TX6) (N := 3) hx hb hts fwX11_copy_X6 hown hK hP 46 rfl rfl 2 (by decide) (hts _ (List.mem_of_getElem? (i := 6) rfl)) (fun _ h9 => h9) rfl dX11_copy_126 ?_
                    refine lv_iload_n hx hb dX11_copy_129 rfl (lv_at hl 2 rfl) ?_
                    refine lv_aload_n hx hb dX11_copy_130 rfl (lv_at hl 0 rfl) ?_
                    refine va_get (D := D) (ci := 11) (C := RX11) (T := TX11) (N := 9) hx hb hts fwX11_copy_X11 hown hK hP 0 rfl rfl 6 (by decide) (hts _ (List.mem_of_getElem? (i := 2) rfl)) (fun _ h9 => h9) rfl dX11_copy_131 ?_
                    refine lv_iload_n hx hb dX11_copy_134 rfl (lv_at hl 3 rfl) ?_
                    refine va_aldq hx hb hK hP 43 2 rfl rfl (vp_in_iff.mpr (by decide)) dX11_copy_135 ?_
                    refine W.eq (g2 := F0 m 136 ls [.ref (ad 50), .int a2, .ref (ad 47)]) rfl ?_
                    refine va_get (D := D) (ci := 6) (C := RX6) (T := TX6) (N := 3) hx hb hts fwX11_copy_X6 hown hK hP 50 rfl rfl 2 (by decide) (hts _ (List.mem_of_getElem? (i := 6) rfl)) (fun _ h9 => h9) rfl dX11_copy_136 ?_
                    refine lv_iload hx hb dX11_copy_139 (lv_at hl 4 rfl) ?_
                    refine lv_iload hx hb dX11_copy_141 (lv_at hl 5 rfl) ?_
                    refine w_copy (D := D) (wf := (wX11 cI cZ cS ad)) (i0 := 47) (i1 := 51) hx hb (hml.trans hl.1.symm) hown (hts _ (List.mem_of_getElem? (i := 7) rfl)) (hts _ (List.mem_of_getElem? (i := 8) rfl)) (hts _ (List.mem_of_getElem? (i := 9) rfl)) (hts _ (List.mem_of_getElem? (i := 10) rfl)) hK hP hD hS 47 51 0 rfl rfl rfl hf (fun _ => rfl) (Nat.le_of_ble_eq_true rfl) (Nat.le_of_ble_eq_true rfl) dX11_copy_143 (fun σ129 H locs hf hP hD hS => ?_)
                    refine lv_iload hx hb dX11_copy_146 (lv_at hl 5 rfl) ?_
                    obtain ⟨hi1, hi2⟩ := Prod.mk.inj (Option.some.inj hf)
                    subst hi1
                    subst hi2
                    exact hret _ _ _ _ dX11_copy_148 rfl hP hS
                  · have hf := (if_pos h128).symm.trans hf
                    exact Jj123  _ _ _ hP hD hS (lv_sub hl [0] rfl) hf
              · have hf := (if_neg h121).symm.trans hf
                refine lv_aload_n hx hb dX11_copy_74 rfl (lv_at hl 0 rfl) ?_
                refine lv_ldcw (v := -1000003) hx hb hown (hts _ (List.mem_of_getElem? (i := 5) rfl)) dX11_copy_75 ?_
                refine q_cVi (wf := (wX11 cI cZ cS ad)) (wc := wX11 cI cZ cS ad) (rest := []) ⟨hx, hb, hml, hown, hts⟩ hK hZ hA hP hD hS hf (fun x τ ho => kX11_tell l D cI cZ cS zz ad σ (-1000003 : Int32) x τ ho) (cwV 1 hts gX11_copy_X11_tell rfl rfl rfl ndX11_tell ⟨Nat.le_of_ble_eq_true rfl, Nat.le_of_ble_eq_true rfl⟩) [0, 1, 2, 3, 4, 5, 6, 7, 8, 9, 10, 11, 12, 13, 14, 15, 16, 17, 18, 19, 20, 21, 22, 23, 24, 25, 26, 27, 28, 29, 30, 31, 32, 33, 34, 35, 36, 37, 38, 39, 40, 41, 42, 43, 44, 45, 46, 47, 48, 49, 50, 51, 52, 53, 54, 55, 56, 57, 58, 59, 60, 61, 62, 63, 64, 65, 66, 67, 68, 69, 70, 71] rfl rfl [some 0, some 1, some 2, some 3, some 4, some 5, some 6, some 7, some 8, some 9, some 10, some 11, some 12, some 13, some 14, some 15, some 16, some 17, some 18, some 19, some 20, some 21, some 22, some 23, some 24, some 25, some 26, some 27, some 28, some 29, some 30, some 31, some 32, some 33, some 34, some 35, some 36, some 37, some 38, some 39, some 40, some 41, some 42, some 43, some 44, some 45, some 46, some 47, some 48, some 49, some 50, some 51, some 52, some 53, some 54, some 55, some 56, some 57, some 58, some 59, some 60, some 61, some 62, some 63, some 64, some 65, some 66, some 67, some 68, some 69, some 70, some 71] (by decide +kernel) (Nat.le_of_ble_eq_true rfl) (fun _ => rfl) (fun _ => rfl) (fun _ => rfl) rfl rfl rfl rfl (hl.1) rfl (Nat.le_of_ble_eq_true rfl) dX11_copy_78 ⟨Nat.zero_le _, Nat.zero_le _⟩ (fun r131 σ130 H locs hf hP hD hS => ?_)
                obtain ⟨hi1, hi2⟩ := Prod.mk.inj (Option.some.inj hf)
                subst hi1
                subst hi2
                exact hret _ _ _ _ dX11_copy_81 rfl hP hS
            · have hf := (if_neg h120).symm.trans hf
              exact Jj72  _ _ _ hP hD hS (lv_sub hl [0] rfl) hf
          have hf := (if_neg h118).symm.trans hf
          exact q_no hf
      have hf := (if_neg h70).symm.trans hf
      by_cases h132 : a1 = (2 : Int32)
      · have hfh132 := (if_pos h132).symm.trans hf
        have hlh132 := hl
        subst h132
        have hf := hfh132
        have hl : lv_has ls 6 [(0, .ref (ad 0)), (1, .int (2 : Int32)), (2, .int a2), (3, .int a3), (4, .int a4), (5, .int a5)] := hlh132
        refine va_aldq hx hb hK hP 43 2 rfl rfl (vp_in_iff.mpr (by decide)) dX11_copy_26 ?_
        refine W.eq (g2 := F0 m 27 ls [.ref (ad 48)]) rfl ?_
        refine q_cVr (wf := (wX11 cI cZ cS ad)) (wc := wX6 cI cZ cS (fun i => ad (48 + i))) (rest := []) ⟨hx, hb, hml, hown, hts⟩ hK hZ hA hP hD hS hf (fun x ho => kX6_isMissing l D cI cZ cS zz (fun i => ad (48 + i)) (q_sb σ 48) x ho) (cwV 0 hts gX11_copy_X6_isMissing rfl rfl rfl ndX6_isMissing ⟨Nat.le_of_ble_eq_true rfl, Nat.le_of_ble_eq_true rfl⟩) [48, 49] rfl rfl rfl rfl rfl rfl (hl.1) rfl (Nat.le_of_ble_eq_true rfl) dX11_copy_27 ⟨Nat.zero_le _, Nat.zero_le _⟩ (fun r133 H locs hf hP hD hS => ?_)
        refine q_lt_go hf (fun j134 ej134 hf => ?_)
        have Jj134 : ∀ (H : Heap) (locs : List Loc) (ls : Array Slot), va_P D vwCl ((wX11 cI cZ cS ad) σ) H → va_D A ((wX11 cI cZ cS ad) σ) → va_S A s.heap H locs → lv_has ls 6 [(0, .ref (ad 0))] → j134 = some (rr, σr) → W p l e rmX11_copy s m ([.ref (ad 0), .int (2 : Int32), .int a2, .int a3, .int a4, .int a5] : List Value).toArray below meth c H locs 0 0 Q (F0 m 45 ls []) := by
          intro  H locs ls hP hD hS hl hf
          have hf := ej134.symm.trans hf
          refine lv_aload_n hx hb dX11_copy_45 rfl (lv_at hl 0 rfl) ?_
          refine lv_ldcw (v := -1000006) hx hb hown (hts _ (List.mem_of_getElem? (i := 3) rfl)) dX11_copy_46 ?_
          refine q_cVi (wf := (wX11 cI cZ cS ad)) (wc := wX11 cI cZ cS ad) (rest := []) ⟨hx, hb, hml, hown, hts⟩ hK hZ hA hP hD hS hf (fun x τ ho => kX11_tell l D cI cZ cS zz ad σ (-1000006 : Int32) x τ ho) (cwV 1 hts gX11_copy_X11_tell rfl rfl rfl ndX11_tell ⟨Nat.le_of_ble_eq_true rfl, Nat.le_of_ble_eq_true rfl⟩) [0, 1, 2, 3, 4, 5, 6, 7, 8, 9, 10, 11, 12, 13, 14, 15, 16, 17, 18, 19, 20, 21, 22, 23, 24, 25, 26, 27, 28, 29, 30, 31, 32, 33, 34, 35, 36, 37, 38, 39, 40, 41, 42, 43, 44, 45, 46, 47, 48, 49, 50, 51, 52, 53, 54, 55, 56, 57, 58, 59, 60, 61, 62, 63, 64, 65, 66, 67, 68, 69, 70, 71] rfl rfl [some 0, some 1, some 2, some 3, some 4, some 5, some 6, some 7, some 8, some 9, some 10, some 11, some 12, some 13, some 14, some 15, some 16, some 17, some 18, some 19, some 20, some 21, some 22, some 23, some 24, some 25, some 26, some 27, some 28, some 29, some 30, some 31, some 32, some 33, some 34, some 35, some 36, some 37, some 38, some 39, some 40, some 41, some 42, some 43, some 44, some 45, some 46, some 47, some 48, some 49, some 50, some 51, some 52, some 53, some 54, some 55, some 56, some 57, some 58, some 59, some 60, some 61, some 62, some 63, some 64, some 65, some 66, some 67, some 68, some 69, some 70, some 71] (by decide +kernel) (Nat.le_of_ble_eq_true rfl) (fun _ => rfl) (fun _ => rfl) (fun _ => rfl) rfl rfl rfl rfl (hl.1) rfl (Nat.le_of_ble_eq_true rfl) dX11_copy_49 ⟨Nat.zero_le _, Nat.zero_le _⟩ (fun r136 σ135 H locs hf hP hD hS => ?_)
          obtain ⟨hi1, hi2⟩ := Prod.mk.inj (Option.some.inj hf)
          subst hi1
          subst hi2
          exact hret _ _ _ _ dX11_copy_52 rfl hP hS
        refine lv_if_ne (tgt := 45) hx hb dX11_copy_30 (by decide) (fun h137 => ?_) (fun h137 => ?_)
        · have hf := (if_neg h137).symm.trans hf
          exact Jj134  _ _ _ hP hD hS (lv_sub hl [0] rfl) hf
        · have hf := (if_pos h137).symm.trans hf
          refine lv_aload_n hx hb dX11_copy_33 rfl (lv_at hl 0 rfl) ?_
          refine va_get (D := D) (ci := 11) (C := RX11) (T := TX11) (N := 9) hx hb hts fwX11_copy_X11 hown hK hP 0 rfl rfl 6 (by decide) (hts _ (List.mem_of_getElem? (i := 2) rfl)) (fun _ h9 => h9) rfl dX11_copy_34 ?_
          refine lv_iload_n hx hb dX11_copy_37 rfl (lv_at hl 3 rfl) ?_
          by_cases h138 : a3 = (0 : Int32)
          · have hfh138 := (if_pos h138).symm.trans hf
            have hlh138 := hl
            subst h138
            have hf := hfh138
            have hl : lv_has ls 6 [(0, .ref (ad 0)), (1, .int (2 : Int32)), (2, .int a2), (3, .int (0 : Int32)), (4, .int a4), (5, .int a5)] := hlh138
            refine va_aldq hx hb hK hP 43 2 rfl rfl (vp_in_iff.mpr (by decide)) dX11_copy_38 ?_
            refine W.eq (g2 := F0 m 39 ls [.ref (ad 44)]) rfl ?_
            refine q_cVr (wf := (wX11 cI cZ cS ad)) (wc := wX6 cI cZ cS (fun i => ad (44 + i))) (rest := []) ⟨hx, hb, hml, hown, hts⟩ hK hZ hA hP hD hS hf (fun x ho => kX6_isMissing l D cI cZ cS zz (fun i => ad (44 + i)) (q_sb σ 44) x ho) (cwV 0 hts gX11_copy_X6_isMissing rfl rfl rfl ndX6_isMissing ⟨Nat.le_of_ble_eq_true rfl, Nat.le_of_ble_eq_true rfl⟩) [44, 45] rfl rfl rfl rfl rfl rfl (hl.1) rfl (Nat.le_of_ble_eq_true rfl) dX11_copy_39 ⟨Nat.zero_le _, Nat.zero_le _⟩ (fun r139 H locs hf hP hD hS => ?_)
            refine lv_if_eq (tgt := 53) hx hb dX11_copy_42 (by decide) (fun h140 => ?_) (fun h140 => ?_)
            · have hf := (if_pos h140).symm.trans hf
              refine lv_aload_n hx hb dX11_copy_53 rfl (lv_at hl 0 rfl) ?_
              refine va_get (D := D) (ci := 11) (C := RX11) (T := TX11) (N := 9) hx hb hts fwX11_copy_X11 hown hK hP 0 rfl rfl 6 (by decide) (hts _ (List.mem_of_getElem? (i := 2) rfl)) (fun _ h9 => h9) rfl dX11_copy_54 ?_
              refine lv_iload_n hx hb dX11_copy_57 rfl (lv_at hl 1 rfl) ?_
              refine va_aldq hx hb hK hP 43 2 rfl rfl (vp_in_iff.mpr (by decide)) dX11_copy_58 ?_
              refine W.eq (g2 := F0 m 59 ls [.ref (ad 48)]) rfl ?_
              refine va_get (D := D) (ci := 6) (C := RX6) (T := TX6) (N := 3) hx hb hts fwX11_copy_X6 hown hK hP 48 rfl rfl 0 (by decide) (hts _ (List.mem_of_getElem? (i := 4) rfl)) (fun _ h9 => h9) rfl dX11_copy_59 ?_
              refine lv_aload_n hx hb dX11_copy_62 rfl (lv_at hl 0 rfl) ?_
              refine va_get (D := D) (ci := 11) (C := RX11) (T := TX11) (N := 9) hx hb hts fwX11_copy_X11 hown hK hP 0 rfl rfl 6 (by decide) (hts _ (List.mem_of_getElem? (i := 2) rfl)) (fun _ h9 => h9) rfl dX11_copy_63 ?_
              refine lv_iload_n hx hb dX11_copy_66 rfl (lv_at hl 3 rfl) ?_
              refine va_aldq hx hb hK hP 43 2 rfl rfl (vp_in_iff.mpr (by decide)) dX11_copy_67 ?_
              refine W.eq (g2 := F0 m 68 ls [.ref (ad 44), .int (σ 48 0)]) rfl ?_
              refine va_get (D := D) (ci := 6) (C := RX6) (T := TX6) (N := 3) hx hb hts fwX11_copy_X6 hown hK hP 44 rfl rfl 0 (by decide) (hts _ (List.mem_of_getElem? (i := 4) rfl)) (fun _ h9 => h9) rfl dX11_copy_68 ?_
              refine lv_icmp_eq (tgt := 82) hx hb dX11_copy_71 (by decide) (fun h141 => ?_) (fun h141 => ?_)
              · have hf := (if_pos h141).symm.trans hf
                refine lv_aload_n hx hb dX11_copy_82 rfl (lv_at hl 0 rfl) ?_
                refine va_get (D := D) (ci := 11) (C := RX11) (T := TX11) (N := 9) hx hb hts fwX11_copy_X11 hown hK hP 0 rfl rfl 6 (by decide) (hts _ (List.mem_of_getElem? (i := 2) rfl)) (fun _ h9 => h9) rfl dX11_copy_83 ?_
                refine lv_iload_n hx hb dX11_copy_86 rfl (lv_at hl 1 rfl) ?_
                refine va_aldq hx hb hK hP 43 2 rfl rfl (vp_in_iff.mpr (by decide)) dX11_copy_87 ?_
                refine W.eq (g2 := F0 m 88 ls [.ref (ad 48)]) rfl ?_
                refine lv_iload_n hx hb dX11_copy_88 rfl (lv_at hl 2 rfl) ?_
                refine lv_iload hx hb dX11_copy_89 (lv_at hl 5 rfl) ?_
                refine q_cVr (wf := (wX11 cI cZ cS ad)) (wc := wX6 cI cZ cS (fun i => ad (48 + i))) (rest := []) ⟨hx, hb, hml, hown, hts⟩ hK hZ hA hP hD hS hf (fun x ho => kX6_hasRange l D cI cZ cS zz (fun i => ad (48 + i)) (q_sb σ 48) a2 a5 x ho) (cwV 2 hts gX11_copy_X6_hasRange rfl rfl rfl ndX6_hasRange ⟨Nat.le_of_ble_eq_true rfl, Nat.le_of_ble_eq_true rfl⟩) [48, 49] rfl rfl rfl rfl rfl rfl (hl.1) rfl (Nat.le_of_ble_eq_true rfl) dX11_copy_91 ⟨Nat.zero_le _, Nat.zero_le _⟩ (fun r142 H locs hf hP hD hS => ?_)
                refine q_lt_go hf (fun j143 ej143 hf => ?_)
                have Jj143 : ∀ (H : Heap) (locs : List Loc) (ls : Array Slot), va_P D vwCl ((wX11 cI cZ cS ad) σ) H → va_D A ((wX11 cI cZ cS ad) σ) → va_S A s.heap H locs → lv_has ls 6 [(0, .ref (ad 0))] → j143 = some (rr, σr) → W p l e rmX11_copy s m ([.ref (ad 0), .int (2 : Int32), .int a2, .int (0 : Int32), .int a4, .int a5] : List Value).toArray below meth c H locs 0 0 Q (F0 m 113 ls []) := by
                  intro  H locs ls hP hD hS hl hf
                  have hf := ej143.symm.trans hf
                  refine lv_aload_n hx hb dX11_copy_113 rfl (lv_at hl 0 rfl) ?_
                  refine lv_ldc (v := -1000001) hx hb hown (hts _ (List.mem_of_getElem? (i := 1) rfl)) dX11_copy_114 ?_
                  refine q_cVi (wf := (wX11 cI cZ cS ad)) (wc := wX11 cI cZ cS ad) (rest := []) ⟨hx, hb, hml, hown, hts⟩ hK hZ hA hP hD hS hf (fun x τ ho => kX11_tell l D cI cZ cS zz ad σ (-1000001 : Int32) x τ ho) (cwV 1 hts gX11_copy_X11_tell rfl rfl rfl ndX11_tell ⟨Nat.le_of_ble_eq_true rfl, Nat.le_of_ble_eq_true rfl⟩) [0, 1, 2, 3, 4, 5, 6, 7, 8, 9, 10, 11, 12, 13, 14, 15, 16, 17, 18, 19, 20, 21, 22, 23, 24, 25, 26, 27, 28, 29, 30, 31, 32, 33, 34, 35, 36, 37, 38, 39, 40, 41, 42, 43, 44, 45, 46, 47, 48, 49, 50, 51, 52, 53, 54, 55, 56, 57, 58, 59, 60, 61, 62, 63, 64, 65, 66, 67, 68, 69, 70, 71] rfl rfl [some 0, some 1, some 2, some 3, some 4, some 5, some 6, some 7, some 8, some 9, some 10, some 11, some 12, some 13, some 14, some 15, some 16, some 17, some 18, some 19, some 20, some 21, some 22, some 23, some 24, some 25, some 26, some 27, some 28, some 29, some 30, some 31, some 32, some 33, some 34, some 35, some 36, some 37, some 38, some 39, some 40, some 41, some 42, some 43, some 44, some 45, some 46, some 47, some 48, some 49, some 50, some 51, some 52, some 53, some 54, some 55, some 56, some 57, some 58, some 59, some 60, some 61, some 62, some 63, some 64, some 65, some 66, some 67, some 68, some 69, some 70, some 71] (by decide +kernel) (Nat.le_of_ble_eq_true rfl) (fun _ => rfl) (fun _ => rfl) (fun _ => rfl) rfl rfl rfl rfl (hl.1) rfl (Nat.le_of_ble_eq_true rfl) dX11_copy_116 ⟨Nat.zero_le _, Nat.zero_le _⟩ (fun r145 σ144 H locs hf hP hD hS => ?_)
                  obtain ⟨hi1, hi2⟩ := Prod.mk.inj (Option.some.inj hf)
                  subst hi1
                  subst hi2
                  exact hret _ _ _ _ dX11_copy_119 rfl hP hS
                refine lv_if_eq (tgt := 113) hx hb dX11_copy_94 (by decide) (fun h146 => ?_) (fun h146 => ?_)
                · have hf := (if_pos h146).symm.trans hf
                  exact Jj143  _ _ _ hP hD hS (lv_sub hl [0] rfl) hf
                · have hf := (if_neg h146).symm.trans hf
                  refine lv_aload_n hx hb dX11_copy_97 rfl (lv_at hl 0 rfl) ?_
                  refine va_get (D := D) (ci := 11) (C := RX11) (T := TX11) (N := 9) hx hb hts fwX11_copy_X11 hown hK hP 0 rfl rfl 6 (by decide) (hts _ (List.mem_of_getElem? (i := 2) rfl)) (fun _ h9 => h9) rfl dX11_copy_98 ?_
                  refine lv_iload_n hx hb dX11_copy_101 rfl (lv_at hl 3 rfl) ?_
                  refine va_aldq hx hb hK hP 43 2 rfl rfl (vp_in_iff.mpr (by decide)) dX11_copy_102 ?_
                  refine W.eq (g2 := F0 m 103 ls [.ref (ad 44)]) rfl ?_
                  refine lv_iload hx hb dX11_copy_103 (lv_at hl 4 rfl) ?_
                  refine lv_iload hx hb dX11_copy_105 (lv_at hl 5 rfl) ?_
                  refine q_cVr (wf := (wX11 cI cZ cS ad)) (wc := wX6 cI cZ cS (fun i => ad (44 + i))) (rest := []) ⟨hx, hb, hml, hown, hts⟩ hK hZ hA hP hD hS hf (fun x ho => kX6_hasRange l D cI cZ cS zz (fun i => ad (44 + i)) (q_sb σ 44) a4 a5 x ho) (cwV 2 hts gX11_copy_X6_hasRange rfl rfl rfl ndX6_hasRange ⟨Nat.le_of_ble_eq_true rfl, Nat.le_of_ble_eq_true rfl⟩) [44, 45] rfl rfl rfl rfl rfl rfl (hl.1) rfl (Nat.le_of_ble_eq_true rfl) dX11_copy_107 ⟨Nat.zero_le _, Nat.zero_le _⟩ (fun r147 H locs hf hP hD hS => ?_)
                  refine lv_if_ne (tgt := 120) hx hb dX11_copy_110 (by decide) (fun h148 => ?_) (fun h148 => ?_)
                  · have hf := (if_neg h148).symm.trans hf
                    refine lv_aload_n hx hb dX11_copy_120 rfl (lv_at hl 0 rfl) ?_
                    refine va_get (D := D) (ci := 11) (C := RX11) (T := TX11) (N := 9) hx hb hts fwX11_copy_X11 hown hK hP 0 rfl rfl 6 (by decide) (hts _ (List.mem_of_getElem? (i := 2) rfl)) (fun _ h9 => h9) rfl dX11_copy_121 ?_
                    refine lv_iload_n hx hb dX11_copy_124 rfl (lv_at hl 1 rfl) ?_
                    refine va_aldq hx hb hK hP 43 2 rfl rfl (vp_in_iff.mpr (by decide)) dX11_copy_125 ?_
                    refine W.eq (g2 := F0 m 126 ls [.ref (ad 48)]) rfl ?_
                    refine va_get (D := D) (ci := 6) (C := RX6) (T := TX6) (N := 3) hx hb hts fwX11_copy_X6 hown hK hP 48 rfl rfl 2 (by decide) (hts _ (List.mem_of_getElem? (i := 6) rfl)) (fun _ h9 => h9) rfl dX11_copy_126 ?_
                    refine lv_iload_n hx hb dX11_copy_129 rfl (lv_at hl 2 rfl) ?_
                    refine lv_aload_n hx hb dX11_copy_130 rfl (lv_at hl 0 rfl) ?_
                    refine va_get (D := D) (ci := 11) (C := RX11) (T := TX11) (N := 9) hx hb hts fwX11_copy_X11 hown hK hP 0 rfl rfl 6 (by decide) (hts _ (List.mem_of_getElem? (i := 2) rfl)) (fun _ h9 => h9) rfl dX11_copy_131 ?_
                    refine lv_iload_n hx hb dX11_copy_134 rfl (lv_at hl 3 rfl) ?_
                    refine va_aldq hx hb hK hP 43 2 rfl rfl (vp_in_iff.mpr (by decide)) dX11_copy_135 ?_
                    refine W.eq (g2 := F0 m 136 ls [.ref (ad 44), .int a2, .ref (ad 49)]) rfl ?_
                    refine va_get (D := D) (ci := 6) (C := RX6) (T := TX6) (N := 3) hx hb hts fwX11_copy_X6 hown hK hP 44 rfl rfl 2 (by decide) (hts _ (List.mem_of_getElem? (i := 6) rfl)) (fun _ h9 => h9) rfl dX11_copy_136 ?_
                    refine lv_iload hx hb dX11_copy_139 (lv_at hl 4 rfl) ?_
                    refine lv_iload hx hb dX11_copy_141 (lv_at hl 5 rfl) ?_
                    refine w_copy (D := D) (wf := (wX11 cI cZ cS ad)) (i0 := 49) (i1 := 45) hx hb (hml.trans hl.1.symm) hown (hts _ (List.mem_of_getElem? (i := 7) rfl)) (hts _ (List.mem_of_getElem? (i := 8) rfl)) (hts _ (List.mem_of_getElem? (i := 9) rfl)) (hts _ (List.mem_of_getElem? (i := 10) rfl)) hK hP hD hS 49 45 0 rfl rfl rfl hf (fun _ => rfl) (Nat.le_of_ble_eq_true rfl) (Nat.le_of_ble_eq_true rfl) dX11_copy_143 (fun σ149 H locs hf hP hD hS => ?_)
                    refine lv_iload hx hb dX11_copy_146 (lv_at hl 5 rfl) ?_
                    obtain ⟨hi1, hi2⟩ := Prod.mk.inj (Option.some.inj hf)
                    subst hi1
                    subst hi2
                    exact hret _ _ _ _ dX11_copy_148 rfl hP hS
                  · have hf := (if_pos h148).symm.trans hf
                    exact Jj143  _ _ _ hP hD hS (lv_sub hl [0] rfl) hf
              · have hf := (if_neg h141).symm.trans hf
                refine lv_aload_n hx hb dX11_copy_74 rfl (lv_at hl 0 rfl) ?_
                refine lv_ldcw (v := -1000003) hx hb hown (hts _ (List.mem_of_getElem? (i := 5) rfl)) dX11_copy_75 ?_
                refine q_cVi (wf := (wX11 cI cZ cS ad)) (wc := wX11 cI cZ cS ad) (rest := []) ⟨hx, hb, hml, hown, hts⟩ hK hZ hA hP hD hS hf (fun x τ ho => kX11_tell l D cI cZ cS zz ad σ (-1000003 : Int32) x τ ho) (cwV 1 hts gX11_copy_X11_tell rfl rfl rfl ndX11_tell ⟨Nat.le_of_ble_eq_true rfl, Nat.le_of_ble_eq_true rfl⟩) [0, 1, 2, 3, 4, 5, 6, 7, 8, 9, 10, 11, 12, 13, 14, 15, 16, 17, 18, 19, 20, 21, 22, 23, 24, 25, 26, 27, 28, 29, 30, 31, 32, 33, 34, 35, 36, 37, 38, 39, 40, 41, 42, 43, 44, 45, 46, 47, 48, 49, 50, 51, 52, 53, 54, 55, 56, 57, 58, 59, 60, 61, 62, 63, 64, 65, 66, 67, 68, 69, 70, 71] rfl rfl [some 0, some 1, some 2, some 3, some 4, some 5, some 6, some 7, some 8, some 9, some 10, some 11, some 12, some 13, some 14, some 15, some 16, some 17, some 18, some 19, some 20, some 21, some 22, some 23, some 24, some 25, some 26, some 27, some 28, some 29, some 30, some 31, some 32, some 33, some 34, some 35, some 36, some 37, some 38, some 39, some 40, some 41, some 42, some 43, some 44, some 45, some 46, some 47, some 48, some 49, some 50, some 51, some 52, some 53, some 54, some 55, some 56, some 57, some 58, some 59, some 60, some 61, some 62, some 63, some 64, some 65, some 66, some 67, some 68, some 69, some 70, some 71] (by decide +kernel) (Nat.le_of_ble_eq_true rfl) (fun _ => rfl) (fun _ => rfl) (fun _ => rfl) rfl rfl rfl rfl (hl.1) rfl (Nat.le_of_ble_eq_true rfl) dX11_copy_78 ⟨Nat.zero_le _, Nat.zero_le _⟩ (fun r151 σ150 H locs hf hP hD hS => ?_)
                obtain ⟨hi1, hi2⟩ := Prod.mk.inj (Option.some.inj hf)
                subst hi1
                subst hi2
                exact hret _ _ _ _ dX11_copy_81 rfl hP hS
            · have hf := (if_neg h140).symm.trans hf
              exact Jj134  _ _ _ hP hD hS (lv_sub hl [0] rfl) hf
          have hf := (if_neg h138).symm.trans hf
          by_cases h152 : a3 = (1 : Int32)
          · have hfh152 := (if_pos h152).symm.trans hf
            have hlh152 := hl
            subst h152
            have hf := hfh152
            have hl : lv_has ls 6 [(0, .ref (ad 0)), (1, .int (2 : Int32)), (2, .int a2), (3, .int (1 : Int32)), (4, .int a4), (5, .int a5)] := hlh152
            refine va_aldq hx hb hK hP 43 2 rfl rfl (vp_in_iff.mpr (by decide)) dX11_copy_38 ?_
            refine W.eq (g2 := F0 m 39 ls [.ref (ad 46)]) rfl ?_
            refine q_cVr (wf := (wX11 cI cZ cS ad)) (wc := wX6 cI cZ cS (fun i => ad (46 + i))) (rest := []) ⟨hx, hb, hml, hown, hts⟩ hK hZ hA hP hD hS hf (fun x ho => kX6_isMissing l D cI cZ cS zz (fun i => ad (46 + i)) (q_sb σ 46) x ho) (cwV 0 hts gX11_copy_X6_isMissing rfl rfl rfl ndX6_isMissing ⟨Nat.le_of_ble_eq_true rfl, Nat.le_of_ble_eq_true rfl⟩) [46, 47] rfl rfl rfl rfl rfl rfl (hl.1) rfl (Nat.le_of_ble_eq_true rfl) dX11_copy_39 ⟨Nat.zero_le _, Nat.zero_le _⟩ (fun r153 H locs hf hP hD hS => ?_)
            refine lv_if_eq (tgt := 53) hx hb dX11_copy_42 (by decide) (fun h154 => ?_) (fun h154 => ?_)
            · have hf := (if_pos h154).symm.trans hf
              refine lv_aload_n hx hb dX11_copy_53 rfl (lv_at hl 0 rfl) ?_
              refine va_get (D := D) (ci := 11) (C := RX11) (T := TX11) (N := 9) hx hb hts fwX11_copy_X11 hown hK hP 0 rfl rfl 6 (by decide) (hts _ (List.mem_of_getElem? (i := 2) rfl)) (fun _ h9 => h9) rfl dX11_copy_54 ?_
              refine lv_iload_n hx hb dX11_copy_57 rfl (lv_at hl 1 rfl) ?_
              refine va_aldq hx hb hK hP 43 2 rfl rfl (vp_in_iff.mpr (by decide)) dX11_copy_58 ?_
              refine W.eq (g2 := F0 m 59 ls [.ref (ad 48)]) rfl ?_
              refine va_get (D := D) (ci := 6) (C := RX6) (T := TX6) (N := 3) hx hb hts fwX11_copy_X6 hown hK hP 48 rfl rfl 0 (by decide) (hts _ (List.mem_of_getElem? (i := 4) rfl)) (fun _ h9 => h9) rfl dX11_copy_59 ?_
              refine lv_aload_n hx hb dX11_copy_62 rfl (lv_at hl 0 rfl) ?_
              refine va_get (D := D) (ci := 11) (C := RX11) (T := TX11) (N := 9) hx hb hts fwX11_copy_X11 hown hK hP 0 rfl rfl 6 (by decide) (hts _ (List.mem_of_getElem? (i := 2) rfl)) (fun _ h9 => h9) rfl dX11_copy_63 ?_
              refine lv_iload_n hx hb dX11_copy_66 rfl (lv_at hl 3 rfl) ?_
              refine va_aldq hx hb hK hP 43 2 rfl rfl (vp_in_iff.mpr (by decide)) dX11_copy_67 ?_
              refine W.eq (g2 := F0 m 68 ls [.ref (ad 46), .int (σ 48 0)]) rfl ?_
              refine va_get (D := D) (ci := 6) (C := RX6) (T := TX6) (N := 3) hx hb hts fwX11_copy_X6 hown hK hP 46 rfl rfl 0 (by decide) (hts _ (List.mem_of_getElem? (i := 4) rfl)) (fun _ h9 => h9) rfl dX11_copy_68 ?_
              refine lv_icmp_eq (tgt := 82) hx hb dX11_copy_71 (by decide) (fun h155 => ?_) (fun h155 => ?_)
              · have hf := (if_pos h155).symm.trans hf
                refine lv_aload_n hx hb dX11_copy_82 rfl (lv_at hl 0 rfl) ?_
                refine va_get (D := D) (ci := 11) (C := RX11) (T := TX11) (N := 9) hx hb hts fwX11_copy_X11 hown hK hP 0 rfl rfl 6 (by decide) (hts _ (List.mem_of_getElem? (i := 2) rfl)) (fun _ h9 => h9) rfl dX11_copy_83 ?_
                refine lv_iload_n hx hb dX11_copy_86 rfl (lv_at hl 1 rfl) ?_
                refine va_aldq hx hb hK hP 43 2 rfl rfl (vp_in_iff.mpr (by decide)) dX11_copy_87 ?_
                refine W.eq (g2 := F0 m 88 ls [.ref (ad 48)]) rfl ?_
                refine lv_iload_n hx hb dX11_copy_88 rfl (lv_at hl 2 rfl) ?_
                refine lv_iload hx hb dX11_copy_89 (lv_at hl 5 rfl) ?_
                refine q_cVr (wf := (wX11 cI cZ cS ad)) (wc := wX6 cI cZ cS (fun i => ad (48 + i))) (rest := []) ⟨hx, hb, hml, hown, hts⟩ hK hZ hA hP hD hS hf (fun x ho => kX6_hasRange l D cI cZ cS zz (fun i => ad (48 + i)) (q_sb σ 48) a2 a5 x ho) (cwV 2 hts gX11_copy_X6_hasRange rfl rfl rfl ndX6_hasRange ⟨Nat.le_of_ble_eq_true rfl, Nat.le_of_ble_eq_true rfl⟩) [48, 49] rfl rfl rfl rfl rfl rfl (hl.1) rfl (Nat.le_of_ble_eq_true rfl) dX11_copy_91 ⟨Nat.zero_le _, Nat.zero_le _⟩ (fun r156 H locs hf hP hD hS => ?_)
                refine q_lt_go hf (fun j157 ej157 hf => ?_)
                have Jj157 : ∀ (H : Heap) (locs : List Loc) (ls : Array Slot), va_P D vwCl ((wX11 cI cZ cS ad) σ) H → va_D A ((wX11 cI cZ cS ad) σ) → va_S A s.heap H locs → lv_has ls 6 [(0, .ref (ad 0))] → j157 = some (rr, σr) → W p l e rmX11_copy s m ([.ref (ad 0), .int (2 : Int32), .int a2, .int (1 : Int32), .int a4, .int a5] : List Value).toArray below meth c H locs 0 0 Q (F0 m 113 ls []) := by
                  intro  H locs ls hP hD hS hl hf
                  have hf := ej157.symm.trans hf
                  refine lv_aload_n hx hb dX11_copy_113 rfl (lv_at hl 0 rfl) ?_
                  refine lv_ldc (v := -1000001) hx hb hown (hts _ (List.mem_of_getElem? (i := 1) rfl)) dX11_copy_114 ?_
                  refine q_cVi (wf := (wX11 cI cZ cS ad)) (wc := wX11 cI cZ cS ad) (rest := []) ⟨hx, hb, hml, hown, hts⟩ hK hZ hA hP hD hS hf (fun x τ ho => kX11_tell l D cI cZ cS zz ad σ (-1000001 : Int32) x τ ho) (cwV 1 hts gX11_copy_X11_tell rfl rfl rfl ndX11_tell ⟨Nat.le_of_ble_eq_true rfl, Nat.le_of_ble_eq_true rfl⟩) [0, 1, 2, 3, 4, 5, 6, 7, 8, 9, 10, 11, 12, 13, 14, 15, 16, 17, 18, 19, 20, 21, 22, 23, 24, 25, 26, 27, 28, 29, 30, 31, 32, 33, 34, 35, 36, 37, 38, 39, 40, 41, 42, 43, 44, 45, 46, 47, 48, 49, 50, 51, 52, 53, 54, 55, 56, 57, 58, 59, 60, 61, 62, 63, 64, 65, 66, 67, 68, 69, 70, 71] rfl rfl [some 0, some 1, some 2, some 3, some 4, some 5, some 6, some 7, some 8, some 9, some 10, some 11, some 12, some 13, some 14, some 15, some 16, some 17, some 18, some 19, some 20, some 21, some 22, some 23, some 24, some 25, some 26, some 27, some 28, some 29, some 30, some 31, some 32, some 33, some 34, some 35, some 36, some 37, some 38, some 39, some 40, some 41, some 42, some 43, some 44, some 45, some 46, some 47, some 48, some 49, some 50, some 51, some 52, some 53, some 54, some 55, some 56, some 57, some 58, some 59, some 60, some 61, some 62, some 63, some 64, some 65, some 66, some 67, some 68, some 69, some 70, some 71] (by decide +kernel) (Nat.le_of_ble_eq_true rfl) (fun _ => rfl) (fun _ => rfl) (fun _ => rfl) rfl rfl rfl rfl (hl.1) rfl (Nat.le_of_ble_eq_true rfl) dX11_copy_116 ⟨Nat.zero_le _, Nat.zero_le _⟩ (fun r159 σ158 H locs hf hP hD hS => ?_)
                  obtain ⟨hi1, hi2⟩ := Prod.mk.inj (Option.some.inj hf)
                  subst hi1
                  subst hi2
                  exact hret _ _ _ _ dX11_copy_119 rfl hP hS
                refine lv_if_eq (tgt := 113) hx hb dX11_copy_94 (by decide) (fun h160 => ?_) (fun h160 => ?_)
                · have hf := (if_pos h160).symm.trans hf
                  exact Jj157  _ _ _ hP hD hS (lv_sub hl [0] rfl) hf
                · have hf := (if_neg h160).symm.trans hf
                  refine lv_aload_n hx hb dX11_copy_97 rfl (lv_at hl 0 rfl) ?_
                  refine va_get (D := D) (ci := 11) (C := RX11) (T := TX11) (N := 9) hx hb hts fwX11_copy_X11 hown hK hP 0 rfl rfl 6 (by decide) (hts _ (List.mem_of_getElem? (i := 2) rfl)) (fun _ h9 => h9) rfl dX11_copy_98 ?_
                  refine lv_iload_n hx hb dX11_copy_101 rfl (lv_at hl 3 rfl) ?_
                  refine va_aldq hx hb hK hP 43 2 rfl rfl (vp_in_iff.mpr (by decide)) dX11_copy_102 ?_
                  refine W.eq (g2 := F0 m 103 ls [.ref (ad 46)]) rfl ?_
                  refine lv_iload hx hb dX11_copy_103 (lv_at hl 4 rfl) ?_
                  refine lv_iload hx hb dX11_copy_105 (lv_at hl 5 rfl) ?_
                  refine q_cVr (wf := (wX11 cI cZ cS ad)) (wc := wX6 cI cZ cS (fun i => ad (46 + i))) (rest := []) ⟨hx, hb, hml, hown, hts⟩ hK hZ hA hP hD hS hf (fun x ho => kX6_hasRange l D cI cZ cS zz (fun i => ad (46 + i)) (q_sb σ 46) a4 a5 x ho) (cwV 2 hts gX11_copy_X6_hasRange rfl rfl rfl ndX6_hasRange ⟨Nat.le_of_ble_eq_true rfl, Nat.le_of_ble_eq_true rfl⟩) [46, 47] rfl rfl rfl rfl rfl rfl (hl.1) rfl (Nat.le_of_ble_eq_true rfl) dX11_copy_107 ⟨Nat.zero_le _, Nat.zero_le _⟩ (fun r161 H locs hf hP hD hS => ?_)
                  refine lv_if_ne (tgt := 120) hx hb dX11_copy_110 (by decide) (fun h162 => ?_) (fun h162 => ?_)
                  · have hf := (if_neg h162).symm.trans hf
                    refine lv_aload_n hx hb dX11_copy_120 rfl (lv_at hl 0 rfl) ?_
                    refine va_get (D := D) (ci := 11) (C := RX11) (T := TX11) (N := 9) hx hb hts fwX11_copy_X11 hown hK hP 0 rfl rfl 6 (by decide) (hts _ (List.mem_of_getElem? (i := 2) rfl)) (fun _ h9 => h9) rfl dX11_copy_121 ?_
                    refine lv_iload_n hx hb dX11_copy_124 rfl (lv_at hl 1 rfl) ?_
                    refine va_aldq hx hb hK hP 43 2 rfl rfl (vp_in_iff.mpr (by decide)) dX11_copy_125 ?_
                    refine W.eq (g2 := F0 m 126 ls [.ref (ad 48)]) rfl ?_
                    refine va_get (D := D) (ci := 6) (C := RX6) (T := TX6) (N := 3) hx hb hts fwX11_copy_X6 hown hK hP 48 rfl rfl 2 (by decide) (hts _ (List.mem_of_getElem? (i := 6) rfl)) (fun _ h9 => h9) rfl dX11_copy_126 ?_
                    refine lv_iload_n hx hb dX11_copy_129 rfl (lv_at hl 2 rfl) ?_
                    refine lv_aload_n hx hb dX11_copy_130 rfl (lv_at hl 0 rfl) ?_
                    refine va_get (D := D) (ci := 11) (C := RX11) (T := TX11) (N := 9) hx hb hts fwX11_copy_X11 hown hK hP 0 rfl rfl 6 (by decide) (hts _ (List.mem_of_getElem? (i := 2) rfl)) (fun _ h9 => h9) rfl dX11_copy_131 ?_
                    refine lv_iload_n hx hb dX11_copy_134 rfl (lv_at hl 3 rfl) ?_
                    refine va_aldq hx hb hK hP 43 2 rfl rfl (vp_in_iff.mpr (by decide)) dX11_copy_135 ?_
                    refine W.eq (g2 := F0 m 136 ls [.ref (ad 46), .int a2, .ref (ad 49)]) rfl ?_
                    refine va_get (D := D) (ci := 6) (C := RX6) (T := TX6) (N := 3) hx hb hts fwX11_copy_X6 hown hK hP 46 rfl rfl 2 (by decide) (hts _ (List.mem_of_getElem? (i := 6) rfl)) (fun _ h9 => h9) rfl dX11_copy_136 ?_
                    refine lv_iload hx hb dX11_copy_139 (lv_at hl 4 rfl) ?_
                    refine lv_iload hx hb dX11_copy_141 (lv_at hl 5 rfl) ?_
                    refine w_copy (D := D) (wf := (wX11 cI cZ cS ad)) (i0 := 49) (i1 := 47) hx hb (hml.trans hl.1.symm) hown (hts _ (List.mem_of_getElem? (i := 7) rfl)) (hts _ (List.mem_of_getElem? (i := 8) rfl)) (hts _ (List.mem_of_getElem? (i := 9) rfl)) (hts _ (List.mem_of_getElem? (i := 10) rfl)) hK hP hD hS 49 47 0 rfl rfl rfl hf (fun _ => rfl) (Nat.le_of_ble_eq_true rfl) (Nat.le_of_ble_eq_true rfl) dX11_copy_143 (fun σ163 H locs hf hP hD hS => ?_)
                    refine lv_iload hx hb dX11_copy_146 (lv_at hl 5 rfl) ?_
                    obtain ⟨hi1, hi2⟩ := Prod.mk.inj (Option.some.inj hf)
                    subst hi1
                    subst hi2
                    exact hret _ _ _ _ dX11_copy_148 rfl hP hS
                  · have hf := (if_pos h162).symm.trans hf
                    exact Jj157  _ _ _ hP hD hS (lv_sub hl [0] rfl) hf
              · have hf := (if_neg h155).symm.trans hf
                refine lv_aload_n hx hb dX11_copy_74 rfl (lv_at hl 0 rfl) ?_
                refine lv_ldcw (v := -1000003) hx hb hown (hts _ (List.mem_of_getElem? (i := 5) rfl)) dX11_copy_75 ?_
                refine q_cVi (wf := (wX11 cI cZ cS ad)) (wc := wX11 cI cZ cS ad) (rest := []) ⟨hx, hb, hml, hown, hts⟩ hK hZ hA hP hD hS hf (fun x τ ho => kX11_tell l D cI cZ cS zz ad σ (-1000003 : Int32) x τ ho) (cwV 1 hts gX11_copy_X11_tell rfl rfl rfl ndX11_tell ⟨Nat.le_of_ble_eq_true rfl, Nat.le_of_ble_eq_true rfl⟩) [0, 1, 2, 3, 4, 5, 6, 7, 8, 9, 10, 11, 12, 13, 14, 15, 16, 17, 18, 19, 20, 21, 22, 23, 24, 25, 26, 27, 28, 29, 30, 31, 32, 33, 34, 35, 36, 37, 38, 39, 40, 41, 42, 43, 44, 45, 46, 47, 48, 49, 50, 51, 52, 53, 54, 55, 56, 57, 58, 59, 60, 61, 62, 63, 64, 65, 66, 67, 68, 69, 70, 71] rfl rfl [some 0, some 1, some 2, some 3, some 4, some 5, some 6, some 7, some 8, some 9, some 10, some 11, some 12, some 13, some 14, some 15, some 16, some 17, some 18, some 19, some 20, some 21, some 22, some 23, some 24, some 25, some 26, some 27, some 28, some 29, some 30, some 31, some 32, some 33, some 34, some 35, some 36, some 37, some 38, some 39, some 40, some 41, some 42, some 43, some 44, some 45, some 46, some 47, some 48, some 49, some 50, some 51, some 52, some 53, some 54, some 55, some 56, some 57, some 58, some 59, some 60, some 61, some 62, some 63, some 64, some 65, some 66, some 67, some 68, some 69, some 70, some 71] (by decide +kernel) (Nat.le_of_ble_eq_true rfl) (fun _ => rfl) (fun _ => rfl) (fun _ => rfl) rfl rfl rfl rfl (hl.1) rfl (Nat.le_of_ble_eq_true rfl) dX11_copy_78 ⟨Nat.zero_le _, Nat.zero_le _⟩ (fun r165 σ164 H locs hf hP hD hS => ?_)
                obtain ⟨hi1, hi2⟩ := Prod.mk.inj (Option.some.inj hf)
                subst hi1
                subst hi2
                exact hret _ _ _ _ dX11_copy_81 rfl hP hS
            · have hf := (if_neg h154).symm.trans hf
              exact Jj134  _ _ _ hP hD hS (lv_sub hl [0] rfl) hf
          have hf := (if_neg h152).symm.trans hf
          by_cases h166 : a3 = (2 : Int32)
          · have hfh166 := (if_pos h166).symm.trans hf
            have hlh166 := hl
            subst h166
            have hf := hfh166
            have hl : lv_has ls 6 [(0, .ref (ad 0)), (1, .int (2 : Int32)), (2, .int a2), (3, .int (2 : Int32)), (4, .int a4), (5, .int a5)] := hlh166
            refine va_aldq hx hb hK hP 43 2 rfl rfl (vp_in_iff.mpr (by decide)) dX11_copy_38 ?_
            refine W.eq (g2 := F0 m 39 ls [.ref (ad 48)]) rfl ?_
            refine q_cVr (wf := (wX11 cI cZ cS ad)) (wc := wX6 cI cZ cS (fun i => ad (48 + i))) (rest := []) ⟨hx, hb, hml, hown, hts⟩ hK hZ hA hP hD hS hf (fun x ho => kX6_isMissing l D cI cZ cS zz (fun i => ad (48 + i)) (q_sb σ 48) x ho) (cwV 0 hts gX11_copy_X6_isMissing rfl rfl rfl ndX6_isMissing ⟨Nat.le_of_ble_eq_true rfl, Nat.le_of_ble_eq_true rfl⟩) [48, 49] rfl rfl rfl rfl rfl rfl (hl.1) rfl (Nat.le_of_ble_eq_true rfl) dX11_copy_39 ⟨Nat.zero_le _, Nat.zero_le _⟩ (fun r167 H locs hf hP hD hS => ?_)
            refine lv_if_eq (tgt := 53) hx hb dX11_copy_42 (by decide) (fun h168 => ?_) (fun h168 => ?_)
            · have hf := (if_pos h168).symm.trans hf
              refine lv_aload_n hx hb dX11_copy_53 rfl (lv_at hl 0 rfl) ?_
              refine va_get (D := D) (ci := 11) (C := RX11) (T := TX11) (N := 9) hx hb hts fwX11_copy_X11 hown hK hP 0 rfl rfl 6 (by decide) (hts _ (List.mem_of_getElem? (i := 2) rfl)) (fun _ h9 => h9) rfl dX11_copy_54 ?_
              refine lv_iload_n hx hb dX11_copy_57 rfl (lv_at hl 1 rfl) ?_
              refine va_aldq hx hb hK hP 43 2 rfl rfl (vp_in_iff.mpr (by decide)) dX11_copy_58 ?_
              refine W.eq (g2 := F0 m 59 ls [.ref (ad 48)]) rfl ?_
              refine va_get (D := D) (ci := 6) (C := RX6) (T := TX6) (N := 3) hx hb hts fwX11_copy_X6 hown hK hP 48 rfl rfl 0 (by decide) (hts _ (List.mem_of_getElem? (i := 4) rfl)) (fun _ h9 => h9) rfl dX11_copy_59 ?_
              refine lv_aload_n hx hb dX11_copy_62 rfl (lv_at hl 0 rfl) ?_
              refine va_get (D := D) (ci := 11) (C := RX11) (T := TX11) (N := 9) hx hb hts fwX11_copy_X11 hown hK hP 0 rfl rfl 6 (by decide) (hts _ (List.mem_of_getElem? (i := 2) rfl)) (fun _ h9 => h9) rfl dX11_copy_63 ?_
              refine lv_iload_n hx hb dX11_copy_66 rfl (lv_at hl 3 rfl) ?_
              refine va_aldq hx hb hK hP 43 2 rfl rfl (vp_in_iff.mpr (by decide)) dX11_copy_67 ?_
              refine W.eq (g2 := F0 m 68 ls [.ref (ad 48), .int (σ 48 0)]) rfl ?_
              refine va_get (D := D) (ci := 6) (C := RX6) (T := TX6) (N := 3) hx hb hts fwX11_copy_X6 hown hK hP 48 rfl rfl 0 (by decide) (hts _ (List.mem_of_getElem? (i := 4) rfl)) (fun _ h9 => h9) rfl dX11_copy_68 ?_
              refine lv_icmp_eq (tgt := 82) hx hb dX11_copy_71 (by decide) (fun h169 => ?_) (fun h169 => ?_)
              · have hf := (if_pos h169).symm.trans hf
                refine lv_aload_n hx hb dX11_copy_82 rfl (lv_at hl 0 rfl) ?_
                refine va_get (D := D) (ci := 11) (C := RX11) (T := TX11) (N := 9) hx hb hts fwX11_copy_X11 hown hK hP 0 rfl rfl 6 (by decide) (hts _ (List.mem_of_getElem? (i := 2) rfl)) (fun _ h9 => h9) rfl dX11_copy_83 ?_
                refine lv_iload_n hx hb dX11_copy_86 rfl (lv_at hl 1 rfl) ?_
                refine va_aldq hx hb hK hP 43 2 rfl rfl (vp_in_iff.mpr (by decide)) dX11_copy_87 ?_
                refine W.eq (g2 := F0 m 88 ls [.ref (ad 48)]) rfl ?_
                refine lv_iload_n hx hb dX11_copy_88 rfl (lv_at hl 2 rfl) ?_
                refine lv_iload hx hb dX11_copy_89 (lv_at hl 5 rfl) ?_
                refine q_cVr (wf := (wX11 cI cZ cS ad)) (wc := wX6 cI cZ cS (fun i => ad (48 + i))) (rest := []) ⟨hx, hb, hml, hown, hts⟩ hK hZ hA hP hD hS hf (fun x ho => kX6_hasRange l D cI cZ cS zz (fun i => ad (48 + i)) (q_sb σ 48) a2 a5 x ho) (cwV 2 hts gX11_copy_X6_hasRange rfl rfl rfl ndX6_hasRange ⟨Nat.le_of_ble_eq_true rfl, Nat.le_of_ble_eq_true rfl⟩) [48, 49] rfl rfl rfl rfl rfl rfl (hl.1) rfl (Nat.le_of_ble_eq_true rfl) dX11_copy_91 ⟨Nat.zero_le _, Nat.zero_le _⟩ (fun r170 H locs hf hP hD hS => ?_)
                refine q_lt_go hf (fun j171 ej171 hf => ?_)
                have Jj171 : ∀ (H : Heap) (locs : List Loc) (ls : Array Slot), va_P D vwCl ((wX11 cI cZ cS ad) σ) H → va_D A ((wX11 cI cZ cS ad) σ) → va_S A s.heap H locs → lv_has ls 6 [(0, .ref (ad 0))] → j171 = some (rr, σr) → W p l e rmX11_copy s m ([.ref (ad 0), .int (2 : Int32), .int a2, .int (2 : Int32), .int a4, .int a5] : List Value).toArray below meth c H locs 0 0 Q (F0 m 113 ls []) := by
                  intro  H locs ls hP hD hS hl hf
                  have hf := ej171.symm.trans hf
                  refine lv_aload_n hx hb dX11_copy_113 rfl (lv_at hl 0 rfl) ?_
                  refine lv_ldc (v := -1000001) hx hb hown (hts _ (List.mem_of_getElem? (i := 1) rfl)) dX11_copy_114 ?_
                  refine q_cVi (wf := (wX11 cI cZ cS ad)) (wc := wX11 cI cZ cS ad) (rest := []) ⟨hx, hb, hml, hown, hts⟩ hK hZ hA hP hD hS hf (fun x τ ho => kX11_tell l D cI cZ cS zz ad σ (-1000001 : Int32) x τ ho) (cwV 1 hts gX11_copy_X11_tell rfl rfl rfl ndX11_tell ⟨Nat.le_of_ble_eq_true rfl, Nat.le_of_ble_eq_true rfl⟩) [0, 1, 2, 3, 4, 5, 6, 7, 8, 9, 10, 11, 12, 13, 14, 15, 16, 17, 18, 19, 20, 21, 22, 23, 24, 25, 26, 27, 28, 29, 30, 31, 32, 33, 34, 35, 36, 37, 38, 39, 40, 41, 42, 43, 44, 45, 46, 47, 48, 49, 50, 51, 52, 53, 54, 55, 56, 57, 58, 59, 60, 61, 62, 63, 64, 65, 66, 67, 68, 69, 70, 71] rfl rfl [some 0, some 1, some 2, some 3, some 4, some 5, some 6, some 7, some 8, some 9, some 10, some 11, some 12, some 13, some 14, some 15, some 16, some 17, some 18, some 19, some 20, some 21, some 22, some 23, some 24, some 25, some 26, some 27, some 28, some 29, some 30, some 31, some 32, some 33, some 34, some 35, some 36, some 37, some 38, some 39, some 40, some 41, some 42, some 43, some 44, some 45, some 46, some 47, some 48, some 49, some 50, some 51, some 52, some 53, some 54, some 55, some 56, some 57, some 58, some 59, some 60, some 61, some 62, some 63, some 64, some 65, some 66, some 67, some 68, some 69, some 70, some 71] (by decide +kernel) (Nat.le_of_ble_eq_true rfl) (fun _ => rfl) (fun _ => rfl) (fun _ => rfl) rfl rfl rfl rfl (hl.1) rfl (Nat.le_of_ble_eq_true rfl) dX11_copy_116 ⟨Nat.zero_le _, Nat.zero_le _⟩ (fun r173 σ172 H locs hf hP hD hS => ?_)
                  obtain ⟨hi1, hi2⟩ := Prod.mk.inj (Option.some.inj hf)
                  subst hi1
                  subst hi2
                  exact hret _ _ _ _ dX11_copy_119 rfl hP hS
                refine lv_if_eq (tgt := 113) hx hb dX11_copy_94 (by decide) (fun h174 => ?_) (fun h174 => ?_)
                · have hf := (if_pos h174).symm.trans hf
                  exact Jj171  _ _ _ hP hD hS (lv_sub hl [0] rfl) hf
                · have hf := (if_neg h174).symm.trans hf
                  refine lv_aload_n hx hb dX11_copy_97 rfl (lv_at hl 0 rfl) ?_
                  refine va_get (D := D) (ci := 11) (C := RX11) (T := TX11) (N := 9) hx hb hts fwX11_copy_X11 hown hK hP 0 rfl rfl 6 (by decide) (hts _ (List.mem_of_getElem? (i := 2) rfl)) (fun _ h9 => h9) rfl dX11_copy_98 ?_
                  refine lv_iload_n hx hb dX11_copy_101 rfl (lv_at hl 3 rfl) ?_
                  refine va_aldq hx hb hK hP 43 2 rfl rfl (vp_in_iff.mpr (by decide)) dX11_copy_102 ?_
                  refine W.eq (g2 := F0 m 103 ls [.ref (ad 48)]) rfl ?_
                  refine lv_iload hx hb dX11_copy_103 (lv_at hl 4 rfl) ?_
                  refine lv_iload hx hb dX11_copy_105 (lv_at hl 5 rfl) ?_
                  refine q_cVr (wf := (wX11 cI cZ cS ad)) (wc := wX6 cI cZ cS (fun i => ad (48 + i))) (rest := []) ⟨hx, hb, hml, hown, hts⟩ hK hZ hA hP hD hS hf (fun x ho => kX6_hasRange l D cI cZ cS zz (fun i => ad (48 + i)) (q_sb σ 48) a4 a5 x ho) (cwV 2 hts gX11_copy_X6_hasRange rfl rfl rfl ndX6_hasRange ⟨Nat.le_of_ble_eq_true rfl, Nat.le_of_ble_eq_true rfl⟩) [48, 49] rfl rfl rfl rfl rfl rfl (hl.1) rfl (Nat.le_of_ble_eq_true rfl) dX11_copy_107 ⟨Nat.zero_le _, Nat.zero_le _⟩ (fun r175 H locs hf hP hD hS => ?_)
                  refine lv_if_ne (tgt := 120) hx hb dX11_copy_110 (by decide) (fun h176 => ?_) (fun h176 => ?_)
                  · have hf := (if_neg h176).symm.trans hf
                    refine lv_aload_n hx hb dX11_copy_120 rfl (lv_at hl 0 rfl) ?_
                    refine va_get (D := D) (ci := 11) (C := RX11) (T := TX11) (N := 9) hx hb hts fwX11_copy_X11 hown hK hP 0 rfl rfl 6 (by decide) (hts _ (List.mem_of_getElem? (i := 2) rfl)) (fun _ h9 => h9) rfl dX11_copy_121 ?_
                    refine lv_iload_n hx hb dX11_copy_124 rfl (lv_at hl 1 rfl) ?_
                    refine va_aldq hx hb hK hP 43 2 rfl rfl (vp_in_iff.mpr (by decide)) dX11_copy_125 ?_
                    refine W.eq (g2 := F0 m 126 ls [.ref (ad 48)]) rfl ?_
                    refine va_get (D := D) (ci := 6) (C := RX6) (T := TX6) (N := 3) hx hb hts fwX11_copy_X6 hown hK hP 48 rfl rfl 2 (by decide) (hts _ (List.mem_of_getElem? (i := 6) rfl)) (fun _ h9 => h9) rfl dX11_copy_126 ?_
                    refine lv_iload_n hx hb dX11_copy_129 rfl (lv_at hl 2 rfl) ?_
                    refine lv_aload_n hx hb dX11_copy_130 rfl (lv_at hl 0 rfl) ?_
                    refine va_get (D := D) (ci := 11) (C := RX11) (T := TX11) (N := 9) hx hb hts fwX11_copy_X11 hown hK hP 0 rfl rfl 6 (by decide) (hts _ (List.mem_of_getElem? (i := 2) rfl)) (fun _ h9 => h9) rfl dX11_copy_131 ?_
                    refine lv_iload_n hx hb dX11_copy_134 rfl (lv_at hl 3 rfl) ?_
                    refine va_aldq hx hb hK hP 43 2 rfl rfl (vp_in_iff.mpr (by decide)) dX11_copy_135 ?_
                    refine W.eq (g2 := F0 m 136 ls [.ref (ad 48), .int a2, .ref (ad 49)]) rfl ?_
                    refine va_get (D := D) (ci := 6) (C := RX6) (T := TX6) (N := 3) hx hb hts fwX11_copy_X6 hown hK hP 48 rfl rfl 2 (by decide) (hts _ (List.mem_of_getElem? (i := 6) rfl)) (fun _ h9 => h9) rfl dX11_copy_136 ?_
                    refine lv_iload hx hb dX11_copy_139 (lv_at hl 4 rfl) ?_
                    refine lv_iload hx hb dX11_copy_141 (lv_at hl 5 rfl) ?_
                    refine w_copy (D := D) (wf := (wX11 cI cZ cS ad)) (i0 := 49) (i1 := 49) hx hb (hml.trans hl.1.symm) hown (hts _ (List.mem_of_getElem? (i := 7) rfl)) (hts _ (List.mem_of_getElem? (i := 8) rfl)) (hts _ (List.mem_of_getElem? (i := 9) rfl)) (hts _ (List.mem_of_getElem? (i := 10) rfl)) hK hP hD hS 49 49 0 rfl rfl rfl hf (fun _ => rfl) (Nat.le_of_ble_eq_true rfl) (Nat.le_of_ble_eq_true rfl) dX11_copy_143 (fun σ177 H locs hf hP hD hS => ?_)
                    refine lv_iload hx hb dX11_copy_146 (lv_at hl 5 rfl) ?_
                    obtain ⟨hi1, hi2⟩ := Prod.mk.inj (Option.some.inj hf)
                    subst hi1
                    subst hi2
                    exact hret _ _ _ _ dX11_copy_148 rfl hP hS
                  · have hf := (if_pos h176).symm.trans hf
                    exact Jj171  _ _ _ hP hD hS (lv_sub hl [0] rfl) hf
              · have hf := (if_neg h169).symm.trans hf
                refine lv_aload_n hx hb dX11_copy_74 rfl (lv_at hl 0 rfl) ?_
                refine lv_ldcw (v := -1000003) hx hb hown (hts _ (List.mem_of_getElem? (i := 5) rfl)) dX11_copy_75 ?_
                refine q_cVi (wf := (wX11 cI cZ cS ad)) (wc := wX11 cI cZ cS ad) (rest := []) ⟨hx, hb, hml, hown, hts⟩ hK hZ hA hP hD hS hf (fun x τ ho => kX11_tell l D cI cZ cS zz ad σ (-1000003 : Int32) x τ ho) (cwV 1 hts gX11_copy_X11_tell rfl rfl rfl ndX11_tell ⟨Nat.le_of_ble_eq_true rfl, Nat.le_of_ble_eq_true rfl⟩) [0, 1, 2, 3, 4, 5, 6, 7, 8, 9, 10, 11, 12, 13, 14, 15, 16, 17, 18, 19, 20, 21, 22, 23, 24, 25, 26, 27, 28, 29, 30, 31, 32, 33, 34, 35, 36, 37, 38, 39, 40, 41, 42, 43, 44, 45, 46, 47, 48, 49, 50, 51, 52, 53, 54, 55, 56, 57, 58, 59, 60, 61, 62, 63, 64, 65, 66, 67, 68, 69, 70, 71] rfl rfl [some 0, some 1, some 2, some 3, some 4, some 5, some 6, some 7, some 8, some 9, some 10, some 11, some 12, some 13, some 14, some 15, some 16, some 17, some 18, some 19, some 20, some 21, some 22, some 23, some 24, some 25, some 26, some 27, some 28, some 29, some 30, some 31, some 32, some 33, some 34, some 35, some 36, some 37, some 38, some 39, some 40, some 41, some 42, some 43, some 44, some 45, some 46, some 47, some 48, some 49, some 50, some 51, some 52, some 53, some 54, some 55, some 56, some 57, some 58, some 59, some 60, some 61, some 62, some 63, some 64, some 65, some 66, some 67, some 68, some 69, some 70, some 71] (by decide +kernel) (Nat.le_of_ble_eq_true rfl) (fun _ => rfl) (fun _ => rfl) (fun _ => rfl) rfl rfl rfl rfl (hl.1) rfl (Nat.le_of_ble_eq_true rfl) dX11_copy_78 ⟨Nat.zero_le _, Nat.zero_le _⟩ (fun r179 σ178 H locs hf hP hD hS => ?_)
                obtain ⟨hi1, hi2⟩ := Prod.mk.inj (Option.some.inj hf)
                subst hi1
                subst hi2
                exact hret _ _ _ _ dX11_copy_81 rfl hP hS
            · have hf := (if_neg h168).symm.trans hf
              exact Jj134  _ _ _ hP hD hS (lv_sub hl [0] rfl) hf
          have hf := (if_neg h166).symm.trans hf
          by_cases h180 : a3 = (3 : Int32)
          · have hfh180 := (if_pos h180).symm.trans hf
            have hlh180 := hl
            subst h180
            have hf := hfh180
            have hl : lv_has ls 6 [(0, .ref (ad 0)), (1, .int (2 : Int32)), (2, .int a2), (3, .int (3 : Int32)), (4, .int a4), (5, .int a5)] := hlh180
            refine va_aldq hx hb hK hP 43 2 rfl rfl (vp_in_iff.mpr (by decide)) dX11_copy_38 ?_
            refine W.eq (g2 := F0 m 39 ls [.ref (ad 50)]) rfl ?_
            refine q_cVr (wf := (wX11 cI cZ cS ad)) (wc := wX6 cI cZ cS (fun i => ad (50 + i))) (rest := []) ⟨hx, hb, hml, hown, hts⟩ hK hZ hA hP hD hS hf (fun x ho => kX6_isMissing l D cI cZ cS zz (fun i => ad (50 + i)) (q_sb σ 50) x ho) (cwV 0 hts gX11_copy_X6_isMissing rfl rfl rfl ndX6_isMissing ⟨Nat.le_of_ble_eq_true rfl, Nat.le_of_ble_eq_true rfl⟩) [50, 51] rfl rfl rfl rfl rfl rfl (hl.1) rfl (Nat.le_of_ble_eq_true rfl) dX11_copy_39 ⟨Nat.zero_le _, Nat.zero_le _⟩ (fun r181 H locs hf hP hD hS => ?_)
            refine lv_if_eq (tgt := 53) hx hb dX11_copy_42 (by decide) (fun h182 => ?_) (fun h182 => ?_)
            · have hf := (if_pos h182).symm.trans hf
              refine lv_aload_n hx hb dX11_copy_53 rfl (lv_at hl 0 rfl) ?_
              refine va_get (D := D) (ci := 11) (C := RX11) (T := TX11) (N := 9) hx hb hts fwX11_copy_X11 hown hK hP 0 rfl rfl 6 (by decide) (hts _ (List.mem_of_getElem? (i := 2) rfl)) (fun _ h9 => h9) rfl dX11_copy_54 ?_
              refine lv_iload_n hx hb dX11_copy_57 rfl (lv_at hl 1 rfl) ?_
              refine va_aldq hx hb hK hP 43 2 rfl rfl (vp_in_iff.mpr (by decide)) dX11_copy_58 ?_
              refine W.eq (g2 := F0 m 59 ls [.ref (ad 48)]) rfl ?_
              refine va_get (D := D) (ci := 6) (C := RX6) (T := TX6) (N := 3) hx hb hts fwX11_copy_X6 hown hK hP 48 rfl rfl 0 (by decide) (hts _ (List.mem_of_getElem? (i := 4) rfl)) (fun _ h9 => h9) rfl dX11_copy_59 ?_
              refine lv_aload_n hx hb dX11_copy_62 rfl (lv_at hl 0 rfl) ?_
              refine va_get (D := D) (ci := 11) (C := RX11) (T := TX11) (N := 9) hx hb hts fwX11_copy_X11 hown hK hP 0 rfl rfl 6 (by decide) (hts _ (List.mem_of_getElem? (i := 2) rfl)) (fun _ h9 => h9) rfl dX11_copy_63 ?_
              refine lv_iload_n hx hb dX11_copy_66 rfl (lv_at hl 3 rfl) ?_
              refine va_aldq hx hb hK hP 43 2 rfl rfl (vp_in_iff.mpr (by decide)) dX11_copy_67 ?_
              refine W.eq (g2 := F0 m 68 ls [.ref (ad 50), .int (σ 48 0)]) rfl ?_
              refine va_get (D := D) (ci := 6) (C := RX6) (T := TX6) (N := 3) hx hb hts fwX11_copy_X6 hown hK hP 50 rfl rfl 0 (by decide) (hts _ (List.mem_of_getElem? (i := 4) rfl)) (fun _ h9 => h9) rfl dX11_copy_68 ?_
              refine lv_icmp_eq (tgt := 82) hx hb dX11_copy_71 (by decide) (fun h183 => ?_) (fun h183 => ?_)
              · have hf := (if_pos h183).symm.trans hf
                refine lv_aload_n hx hb dX11_copy_82 rfl (lv_at hl 0 rfl) ?_
                refine va_get (D := D) (ci := 11) (C := RX11) (T := TX11) (N := 9) hx hb hts fwX11_copy_X11 hown hK hP 0 rfl rfl 6 (by decide) (hts _ (List.mem_of_getElem? (i := 2) rfl)) (fun _ h9 => h9) rfl dX11_copy_83 ?_
                refine lv_iload_n hx hb dX11_copy_86 rfl (lv_at hl 1 rfl) ?_
                refine va_aldq hx hb hK hP 43 2 rfl rfl (vp_in_iff.mpr (by decide)) dX11_copy_87 ?_
                refine W.eq (g2 := F0 m 88 ls [.ref (ad 48)]) rfl ?_
                refine lv_iload_n hx hb dX11_copy_88 rfl (lv_at hl 2 rfl) ?_
                refine lv_iload hx hb dX11_copy_89 (lv_at hl 5 rfl) ?_
                refine q_cVr (wf := (wX11 cI cZ cS ad)) (wc := wX6 cI cZ cS (fun i => ad (48 + i))) (rest := []) ⟨hx, hb, hml, hown, hts⟩ hK hZ hA hP hD hS hf (fun x ho => kX6_hasRange l D cI cZ cS zz (fun i => ad (48 + i)) (q_sb σ 48) a2 a5 x ho) (cwV 2 hts gX11_copy_X6_hasRange rfl rfl rfl ndX6_hasRange ⟨Nat.le_of_ble_eq_true rfl, Nat.le_of_ble_eq_true rfl⟩) [48, 49] rfl rfl rfl rfl rfl rfl (hl.1) rfl (Nat.le_of_ble_eq_true rfl) dX11_copy_91 ⟨Nat.zero_le _, Nat.zero_le _⟩ (fun r184 H locs hf hP hD hS => ?_)
                refine q_lt_go hf (fun j185 ej185 hf => ?_)
                have Jj185 : ∀ (H : Heap) (locs : List Loc) (ls : Array Slot), va_P D vwCl ((wX11 cI cZ cS ad) σ) H → va_D A ((wX11 cI cZ cS ad) σ) → va_S A s.heap H locs → lv_has ls 6 [(0, .ref (ad 0))] → j185 = some (rr, σr) → W p l e rmX11_copy s m ([.ref (ad 0), .int (2 : Int32), .int a2, .int (3 : Int32), .int a4, .int a5] : List Value).toArray below meth c H locs 0 0 Q (F0 m 113 ls []) := by
                  intro  H locs ls hP hD hS hl hf
                  have hf := ej185.symm.trans hf
                  refine lv_aload_n hx hb dX11_copy_113 rfl (lv_at hl 0 rfl) ?_
                  refine lv_ldc (v := -1000001) hx hb hown (hts _ (List.mem_of_getElem? (i := 1) rfl)) dX11_copy_114 ?_
                  refine q_cVi (wf := (wX11 cI cZ cS ad)) (wc := wX11 cI cZ cS ad) (rest := []) ⟨hx, hb, hml, hown, hts⟩ hK hZ hA hP hD hS hf (fun x τ ho => kX11_tell l D cI cZ cS zz ad σ (-1000001 : Int32) x τ ho) (cwV 1 hts gX11_copy_X11_tell rfl rfl rfl ndX11_tell ⟨Nat.le_of_ble_eq_true rfl, Nat.le_of_ble_eq_true rfl⟩) [0, 1, 2, 3, 4, 5, 6, 7, 8, 9, 10, 11, 12, 13, 14, 15, 16, 17, 18, 19, 20, 21, 22, 23, 24, 25, 26, 27, 28, 29, 30, 31, 32, 33, 34, 35, 36, 37, 38, 39, 40, 41, 42, 43, 44, 45, 46, 47, 48, 49, 50, 51, 52, 53, 54, 55, 56, 57, 58, 59, 60, 61, 62, 63, 64, 65, 66, 67, 68, 69, 70, 71] rfl rfl [some 0, some 1, some 2, some 3, some 4, some 5, some 6, some 7, some 8, some 9, some 10, some 11, some 12, some 13, some 14, some 15, some 16, some 17, some 18, some 19, some 20, some 21, some 22, some 23, some 24, some 25, some 26, some 27, some 28, some 29, some 30, some 31, some 32, some 33, some 34, some 35, some 36, some 37, some 38, some 39, some 40, some 41, some 42, some 43, some 44, some 45, some 46, some 47, some 48, some 49, some 50, some 51, some 52, some 53, some 54, some 55, some 56, some 57, some 58, some 59, some 60, some 61, some 62, some 63, some 64, some 65, some 66, some 67, some 68, some 69, some 70, some 71] (by decide +kernel) (Nat.le_of_ble_eq_true rfl) (fun _ => rfl) (fun _ => rfl) (fun _ => rfl) rfl rfl rfl rfl (hl.1) rfl (Nat.le_of_ble_eq_true rfl) dX11_copy_116 ⟨Nat.zero_le _, Nat.zero_le _⟩ (fun r187 σ186 H locs hf hP hD hS => ?_)
                  obtain ⟨hi1, hi2⟩ := Prod.mk.inj (Option.some.inj hf)
                  subst hi1
                  subst hi2
                  exact hret _ _ _ _ dX11_copy_119 rfl hP hS
                refine lv_if_eq (tgt := 113) hx hb dX11_copy_94 (by decide) (fun h188 => ?_) (fun h188 => ?_)
                · have hf := (if_pos h188).symm.trans hf
                  exact Jj185  _ _ _ hP hD hS (lv_sub hl [0] rfl) hf
                · have hf := (if_neg h188).symm.trans hf
                  refine lv_aload_n hx hb dX11_copy_97 rfl (lv_at hl 0 rfl) ?_
                  refine va_get (D := D) (ci := 11) (C := RX11) (T := TX11) (N := 9) hx hb hts fwX11_copy_X11 hown hK hP 0 rfl rfl 6 (by decide) (hts _ (List.mem_of_getElem? (i := 2) rfl)) (fun _ h9 => h9) rfl dX11_copy_98 ?_
                  refine lv_iload_n hx hb dX11_copy_101 rfl (lv_at hl 3 rfl) ?_
                  refine va_aldq hx hb hK hP 43 2 rfl rfl (vp_in_iff.mpr (by decide)) dX11_copy_102 ?_
                  refine W.eq (g2 := F0 m 103 ls [.ref (ad 50)]) rfl ?_
                  refine lv_iload hx hb dX11_copy_103 (lv_at hl 4 rfl) ?_
                  refine lv_iload hx hb dX11_copy_105 (lv_at hl 5 rfl) ?_
                  refine q_cVr (wf := (wX11 cI cZ cS ad)) (wc := wX6 cI cZ cS (fun i => ad (50 + i))) (rest := []) ⟨hx, hb, hml, hown, hts⟩ hK hZ hA hP hD hS hf (fun x ho => kX6_hasRange l D cI cZ cS zz (fun i => ad (50 + i)) (q_sb σ 50) a4 a5 x ho) (cwV 2 hts gX11_copy_X6_hasRange rfl rfl rfl ndX6_hasRange ⟨Nat.le_of_ble_eq_true rfl, Nat.le_of_ble_eq_true rfl⟩) [50, 51] rfl rfl rfl rfl rfl rfl (hl.1) rfl (Nat.le_of_ble_eq_true rfl) dX11_copy_107 ⟨Nat.zero_le _, Nat.zero_le _⟩ (fun r189 H locs hf hP hD hS => ?_)
                  refine lv_if_ne (tgt := 120) hx hb dX11_copy_110 (by decide) (fun h190 => ?_) (fun h190 => ?_)
                  · have hf := (if_neg h190).symm.trans hf
                    refine lv_aload_n hx hb dX11_copy_120 rfl (lv_at hl 0 rfl) ?_
                    refine va_get (D := D) (ci := 11) (C := RX11) (T := TX11) (N := 9) hx hb hts fwX11_copy_X11 hown hK hP 0 rfl rfl 6 (by decide) (hts _ (List.mem_of_getElem? (i := 2) rfl)) (fun _ h9 => h9) rfl dX11_copy_121 ?_
                    refine lv_iload_n hx hb dX11_copy_124 rfl (lv_at hl 1 rfl) ?_
                    refine va_aldq hx hb hK hP 43 2 rfl rfl (vp_in_iff.mpr (by decide)) dX11_copy_125 ?_
                    refine W.eq (g2 := F0 m 126 ls [.ref (ad 48)]) rfl ?_
                    refine va_get (D := D) (ci := 6) (C := RX6) (T := TX6) (N := 3) hx hb hts fwX11_copy_X6 hown hK hP 48 rfl rfl 2 (by decide) (hts _ (List.mem_of_getElem? (i := 6) rfl)) (fun _ h9 => h9) rfl dX11_copy_126 ?_
                    refine lv_iload_n hx hb dX11_copy_129 rfl (lv_at hl 2 rfl) ?_
                    refine lv_aload_n hx hb dX11_copy_130 rfl (lv_at hl 0 rfl) ?_
                    refine va_get (D := D) (ci := 11) (C := RX11) (T := TX11) (N := 9) hx hb hts fwX11_copy_X11 hown hK hP 0 rfl rfl 6 (by decide) (hts _ (List.mem_of_getElem? (i := 2) rfl)) (fun _ h9 => h9) rfl dX11_copy_131 ?_
                    refine lv_iload_n hx hb dX11_copy_134 rfl (lv_at hl 3 rfl) ?_
                    refine va_aldq hx hb hK hP 43 2 rfl rfl (vp_in_iff.mpr (by decide)) dX11_copy_135 ?_
                    refine W.eq (g2 := F0 m 136 ls [.ref (ad 50), .int a2, .ref (ad 49)]) rfl ?_
                    refine va_get (D := D) (ci := 6) (C := RX6) (T := TX6) (N := 3) hx hb hts fwX11_copy_X6 hown hK hP 50 rfl rfl 2 (by decide) (hts _ (List.mem_of_getElem? (i := 6) rfl)) (fun _ h9 => h9) rfl dX11_copy_136 ?_
                    refine lv_iload hx hb dX11_copy_139 (lv_at hl 4 rfl) ?_
                    refine lv_iload hx hb dX11_copy_141 (lv_at hl 5 rfl) ?_
                    refine w_copy (D := D) (wf := (wX11 cI cZ cS ad)) (i0 := 49) (i1 := 51) hx hb (hml.trans hl.1.symm) hown (hts _ (List.mem_of_getElem? (i := 7) rfl)) (hts _ (List.mem_of_getElem? (i := 8) rfl)) (hts _ (List.mem_of_getElem? (i := 9) rfl)) (hts _ (List.mem_of_getElem? (i := 10) rfl)) hK hP hD hS 49 51 0 rfl rfl rfl hf (fun _ => rfl) (Nat.le_of_ble_eq_true rfl) (Nat.le_of_ble_eq_true rfl) dX11_copy_143 (fun σ191 H locs hf hP hD hS => ?_)
                    refine lv_iload hx hb dX11_copy_146 (lv_at hl 5 rfl) ?_
                    obtain ⟨hi1, hi2⟩ := Prod.mk.inj (Option.some.inj hf)
                    subst hi1
                    subst hi2
                    exact hret _ _ _ _ dX11_copy_148 rfl hP hS
                  · have hf := (if_pos h190).symm.trans hf
                    exact Jj185  _ _ _ hP hD hS (lv_sub hl [0] rfl) hf
              · have hf := (if_neg h183).symm.trans hf
                refine lv_aload_n hx hb dX11_copy_74 rfl (lv_at hl 0 rfl) ?_
                refine lv_ldcw (v := -1000003) hx hb hown (hts _ (List.mem_of_getElem? (i := 5) rfl)) dX11_copy_75 ?_
                refine q_cVi (wf := (wX11 cI cZ cS ad)) (wc := wX11 cI cZ cS ad) (rest := []) ⟨hx, hb, hml, hown, hts⟩ hK hZ hA hP hD hS hf (fun x τ ho => kX11_tell l D cI cZ cS zz ad σ (-1000003 : Int32) x τ ho) (cwV 1 hts gX11_copy_X11_tell rfl rfl rfl ndX11_tell ⟨Nat.le_of_ble_eq_true rfl, Nat.le_of_ble_eq_true rfl⟩) [0, 1, 2, 3, 4, 5, 6, 7, 8, 9, 10, 11, 12, 13, 14, 15, 16, 17, 18, 19, 20, 21, 22, 23, 24, 25, 26, 27, 28, 29, 30, 31, 32, 33, 34, 35, 36, 37, 38, 39, 40, 41, 42, 43, 44, 45, 46, 47, 48, 49, 50, 51, 52, 53, 54, 55, 56, 57, 58, 59, 60, 61, 62, 63, 64, 65, 66, 67, 68, 69, 70, 71] rfl rfl [some 0, some 1, some 2, some 3, some 4, some 5, some 6, some 7, some 8, some 9, some 10, some 11, some 12, some 13, some 14, some 15, some 16, some 17, some 18, some 19, some 20, some 21, some 22, some 23, some 24, some 25, some 26, some 27, some 28, some 29, some 30, some 31, some 32, some 33, some 34, some 35, some 36, some 37, some 38, some 39, some 40, some 41, some 42, some 43, some 44, some 45, some 46, some 47, some 48, some 49, some 50, some 51, some 52, some 53, some 54, some 55, some 56, some 57, some 58, some 59, some 60, some 61, some 62, some 63, some 64, some 65, some 66, some 67, some 68, some 69, some 70, some 71] (by decide +kernel) (Nat.le_of_ble_eq_true rfl) (fun _ => rfl) (fun _ => rfl) (fun _ => rfl) rfl rfl rfl rfl (hl.1) rfl (Nat.le_of_ble_eq_true rfl) dX11_copy_78 ⟨Nat.zero_le _, Nat.zero_le _⟩ (fun r193 σ192 H locs hf hP hD hS => ?_)
                obtain ⟨hi1, hi2⟩ := Prod.mk.inj (Option.some.inj hf)
                subst hi1
                subst hi2
                exact hret _ _ _ _ dX11_copy_81 rfl hP hS
            · have hf := (if_neg h182).symm.trans hf
              exact Jj134  _ _ _ hP hD hS (lv_sub hl [0] rfl) hf
          have hf := (if_neg h180).symm.trans hf
          exact q_no hf
      have hf := (if_neg h132).symm.trans hf
      by_cases h194 : a1 = (3 : Int32)
      · have hfh194 := (if_pos h194).symm.trans hf
        have hlh194 := hl
        subst h194
        have hf := hfh194
        have hl : lv_has ls 6 [(0, .ref (ad 0)), (1, .int (3 : Int32)), (2, .int a2), (3, .int a3), (4, .int a4), (5, .int a5)] := hlh194
        refine va_aldq hx hb hK hP 43 2 rfl rfl (vp_in_iff.mpr (by decide)) dX11_copy_26 ?_
        refine W.eq (g2 := F0 m 27 ls [.ref (ad 50)]) rfl ?_
        refine q_cVr (wf := (wX11 cI cZ cS ad)) (wc := wX6 cI cZ cS (fun i => ad (50 + i))) (rest := []) ⟨hx, hb, hml, hown, hts⟩ hK hZ hA hP hD hS hf (fun x ho => kX6_isMissing l D cI cZ cS zz (fun i => ad (50 + i)) (q_sb σ 50) x ho) (cwV 0 hts gX11_copy_X6_isMissing rfl rfl rfl ndX6_isMissing ⟨Nat.le_of_ble_eq_true rfl, Nat.le_of_ble_eq_true rfl⟩) [50, 51] rfl rfl rfl rfl rfl rfl (hl.1) rfl (Nat.le_of_ble_eq_true rfl) dX11_copy_27 ⟨Nat.zero_le _, Nat.zero_le _⟩ (fun r195 H locs hf hP hD hS => ?_)
        refine q_lt_go hf (fun j196 ej196 hf => ?_)
        have Jj196 : ∀ (H : Heap) (locs : List Loc) (ls : Array Slot), va_P D vwCl ((wX11 cI cZ cS ad) σ) H → va_D A ((wX11 cI cZ cS ad) σ) → va_S A s.heap H locs → lv_has ls 6 [(0, .ref (ad 0))] → j196 = some (rr, σr) → W p l e rmX11_copy s m ([.ref (ad 0), .int (3 : Int32), .int a2, .int a3, .int a4, .int a5] : List Value).toArray below meth c H locs 0 0 Q (F0 m 45 ls []) := by
          intro  H locs ls hP hD hS hl hf
          have hf := ej196.symm.trans hf
          refine lv_aload_n hx hb dX11_copy_45 rfl (lv_at hl 0 rfl) ?_
          refine lv_ldcw (v := -1000006) hx hb hown (hts _ (List.mem_of_getElem? (i := 3) rfl)) dX11_copy_46 ?_
          refine q_cVi (wf := (wX11 cI cZ cS ad)) (wc := wX11 cI cZ cS ad) (rest := []) ⟨hx, hb, hml, hown, hts⟩ hK hZ hA hP hD hS hf (fun x τ ho => kX11_tell l D cI cZ cS zz ad σ (-1000006 : Int32) x τ ho) (cwV 1 hts gX11_copy_X11_tell rfl rfl rfl ndX11_tell ⟨Nat.le_of_ble_eq_true rfl, Nat.le_of_ble_eq_true rfl⟩) [0, 1, 2, 3, 4, 5, 6, 7, 8, 9, 10, 11, 12, 13, 14, 15, 16, 17, 18, 19, 20, 21, 22, 23, 24, 25, 26, 27, 28, 29, 30, 31, 32, 33, 34, 35, 36, 37, 38, 39, 40, 41, 42, 43, 44, 45, 46, 47, 48, 49, 50, 51, 52, 53, 54, 55, 56, 57, 58, 59, 60, 61, 62, 63, 64, 65, 66, 67, 68, 69, 70, 71] rfl rfl [some 0, some 1, some 2, some 3, some 4, some 5, some 6, some 7, some 8, some 9, some 10, some 11, some 12, some 13, some 14, some 15, some 16, some 17, some 18, some 19, some 20, some 21, some 22, some 23, some 24, some 25, some 26, some 27, some 28, some 29, some 30, some 31, some 32, some 33, some 34, some 35, some 36, some 37, some 38, some 39, some 40, some 41, some 42, some 43, some 44, some 45, some 46, some 47, some 48, some 49, some 50, some 51, some 52, some 53, some 54, some 55, some 56, some 57, some 58, some 59, some 60, some 61, some 62, some 63, some 64, some 65, some 66, some 67, some 68, some 69, some 70, some 71] (by decide +kernel) (Nat.le_of_ble_eq_true rfl) (fun _ => rfl) (fun _ => rfl) (fun _ => rfl) rfl rfl rfl rfl (hl.1) rfl (Nat.le_of_ble_eq_true rfl) dX11_copy_49 ⟨Nat.zero_le _, Nat.zero_le _⟩ (fun r198 σ197 H locs hf hP hD hS => ?_)
          obtain ⟨hi1, hi2⟩ := Prod.mk.inj (Option.some.inj hf)
          subst hi1
          subst hi2
          exact hret _ _ _ _ dX11_copy_52 rfl hP hS
        refine lv_if_ne (tgt := 45) hx hb dX11_copy_30 (by decide) (fun h199 => ?_) (fun h199 => ?_)
        · have hf := (if_neg h199).symm.trans hf
          exact Jj196  _ _ _ hP hD hS (lv_sub hl [0] rfl) hf
        · have hf := (if_pos h199).symm.trans hf
          refine lv_aload_n hx hb dX11_copy_33 rfl (lv_at hl 0 rfl) ?_
          refine va_get (D := D) (ci := 11) (C := RX11) (T := TX11) (N := 9) hx hb hts fwX11_copy_X11 hown hK hP 0 rfl rfl 6 (by decide) (hts _ (List.mem_of_getElem? (i := 2) rfl)) (fun _ h9 => h9) rfl dX11_copy_34 ?_
          refine lv_iload_n hx hb dX11_copy_37 rfl (lv_at hl 3 rfl) ?_
          by_cases h200 : a3 = (0 : Int32)
          · have hfh200 := (if_pos h200).symm.trans hf
            have hlh200 := hl
            subst h200
            have hf := hfh200
            have hl : lv_has ls 6 [(0, .ref (ad 0)), (1, .int (3 : Int32)), (2, .int a2), (3, .int (0 : Int32)), (4, .int a4), (5, .int a5)] := hlh200
            refine va_aldq hx hb hK hP 43 2 rfl rfl (vp_in_iff.mpr (by decide)) dX11_copy_38 ?_
            refine W.eq (g2 := F0 m 39 ls [.ref (ad 44)]) rfl ?_
            refine q_cVr (wf := (wX11 cI cZ cS ad)) (wc := wX6 cI cZ cS (fun i => ad (44 + i))) (rest := []) ⟨hx, hb, hml, hown, hts⟩ hK hZ hA hP hD hS hf (fun x ho => kX6_isMissing l D cI cZ cS zz (fun i => ad (44 + i)) (q_sb σ 44) x ho) (cwV 0 hts gX11_copy_X6_isMissing rfl rfl rfl ndX6_isMissing ⟨Nat.le_of_ble_eq_true rfl, Nat.le_of_ble_eq_true rfl⟩) [44, 45] rfl rfl rfl rfl rfl rfl (hl.1) rfl (Nat.le_of_ble_eq_true rfl) dX11_copy_39 ⟨Nat.zero_le _, Nat.zero_le _⟩ (fun r201 H locs hf hP hD hS => ?_)
            refine lv_if_eq (tgt := 53) hx hb dX11_copy_42 (by decide) (fun h202 => ?_) (fun h202 => ?_)
            · have hf := (if_pos h202).symm.trans hf
              refine lv_aload_n hx hb dX11_copy_53 rfl (lv_at hl 0 rfl) ?_
              refine va_get (D := D) (ci := 11) (C := RX11) (T := TX11) (N := 9) hx hb hts fwX11_copy_X11 hown hK hP 0 rfl rfl 6 (by decide) (hts _ (List.mem_of_getElem? (i := 2) rfl)) (fun _ h9 => h9) rfl dX11_copy_54 ?_
              refine lv_iload_n hx hb dX11_copy_57 rfl (lv_at hl 1 rfl) ?_
              refine va_aldq hx hb hK hP 43 2 rfl rfl (vp_in_iff.mpr (by decide)) dX11_copy_58 ?_
              refine W.eq (g2 := F0 m 59 ls [.ref (ad 50)]) rfl ?_
              refine va_get (D := D) (ci := 6) (C := RX6) (T := TX6) (N := 3) hx hb hts fwX11_copy_X6 hown hK hP 50 rfl rfl 0 (by decide) (hts _ (List.mem_of_getElem? (i := 4) rfl)) (fun _ h9 => h9) rfl dX11_copy_59 ?_
              refine lv_aload_n hx hb dX11_copy_62 rfl (lv_at hl 0 rfl) ?_
              refine va_get (D := D) (ci := 11) (C := RX11) (T := TX11) (N := 9) hx hb hts fwX11_copy_X11 hown hK hP 0 rfl rfl 6 (by decide) (hts _ (List.mem_of_getElem? (i := 2) rfl)) (fun _ h9 => h9) rfl dX11_copy_63 ?_
              refine lv_iload_n hx hb dX11_copy_66 rfl (lv_at hl 3 rfl) ?_
              refine va_aldq hx hb hK hP 43 2 rfl rfl (vp_in_iff.mpr (by decide)) dX11_copy_67 ?_
              refine W.eq (g2 := F0 m 68 ls [.ref (ad 44), .int (σ 50 0)]) rfl ?_
              refine va_get (D := D) (ci := 6) (C := RX6) (T := TX6) (N := 3) hx hb hts fwX11_copy_X6 hown hK hP 44 rfl rfl 0 (by decide) (hts _ (List.mem_of_getElem? (i := 4) rfl)) (fun _ h9 => h9) rfl dX11_copy_68 ?_
              refine lv_icmp_eq (tgt := 82) hx hb dX11_copy_71 (by decide) (fun h203 => ?_) (fun h203 => ?_)
              · have hf := (if_pos h203).symm.trans hf
                refine lv_aload_n hx hb dX11_copy_82 rfl (lv_at hl 0 rfl) ?_
                refine va_get (D := D) (ci := 11) (C := RX11) (T := TX11) (N := 9) hx hb hts fwX11_copy_X11 hown hK hP 0 rfl rfl 6 (by decide) (hts _ (List.mem_of_getElem? (i := 2) rfl)) (fun _ h9 => h9) rfl dX11_copy_83 ?_
                refine lv_iload_n hx hb dX11_copy_86 rfl (lv_at hl 1 rfl) ?_
                refine va_aldq hx hb hK hP 43 2 rfl rfl (vp_in_iff.mpr (by decide)) dX11_copy_87 ?_
                refine W.eq (g2 := F0 m 88 ls [.ref (ad 50)]) rfl ?_
                refine lv_iload_n hx hb dX11_copy_88 rfl (lv_at hl 2 rfl) ?_
                refine lv_iload hx hb dX11_copy_89 (lv_at hl 5 rfl) ?_
                refine q_cVr (wf := (wX11 cI cZ cS ad)) (wc := wX6 cI cZ cS (fun i => ad (50 + i))) (rest := []) ⟨hx, hb, hml, hown, hts⟩ hK hZ hA hP hD hS hf (fun x ho => kX6_hasRange l D cI cZ cS zz (fun i => ad (50 + i)) (q_sb σ 50) a2 a5 x ho) (cwV 2 hts gX11_copy_X6_hasRange rfl rfl rfl ndX6_hasRange ⟨Nat.le_of_ble_eq_true rfl, Nat.le_of_ble_eq_true rfl⟩) [50, 51] rfl rfl rfl rfl rfl rfl (hl.1) rfl (Nat.le_of_ble_eq_true rfl) dX11_copy_91 ⟨Nat.zero_le _, Nat.zero_le _⟩ (fun r204 H locs hf hP hD hS => ?_)
                refine q_lt_go hf (fun j205 ej205 hf => ?_)
                have Jj205 : ∀ (H : Heap) (locs : List Loc) (ls : Array Slot), va_P D vwCl ((wX11 cI cZ cS ad) σ) H → va_D A ((wX11 cI cZ cS ad) σ) → va_S A s.heap H locs → lv_has ls 6 [(0, .ref (ad 0))] → j205 = some (rr, σr) → W p l e rmX11_copy s m ([.ref (ad 0), .int (3 : Int32), .int a2, .int (0 : Int32), .int a4, .int a5] : List Value).toArray below meth c H locs 0 0 Q (F0 m 113 ls []) := by
                  intro  H locs ls hP hD hS hl hf
                  have hf := ej205.symm.trans hf
                  refine lv_aload_n hx hb dX11_copy_113 rfl (lv_at hl 0 rfl) ?_
                  refine lv_ldc (v := -1000001) hx hb hown (hts _ (List.mem_of_getElem? (i := 1) rfl)) dX11_copy_114 ?_
                  refine q_cVi (wf := (wX11 cI cZ cS ad)) (wc := wX11 cI cZ cS ad) (rest := []) ⟨hx, hb, hml, hown, hts⟩ hK hZ hA hP hD hS hf (fun x τ ho => kX11_tell l D cI cZ cS zz ad σ (-1000001 : Int32) x τ ho) (cwV 1 hts gX11_copy_X11_tell rfl rfl rfl ndX11_tell ⟨Nat.le_of_ble_eq_true rfl, Nat.le_of_ble_eq_true rfl⟩) [0, 1, 2, 3, 4, 5, 6, 7, 8, 9, 10, 11, 12, 13, 14, 15, 16, 17, 18, 19, 20, 21, 22, 23, 24, 25, 26, 27, 28, 29, 30, 31, 32, 33, 34, 35, 36, 37, 38, 39, 40, 41, 42, 43, 44, 45, 46, 47, 48, 49, 50, 51, 52, 53, 54, 55, 56, 57, 58, 59, 60, 61, 62, 63, 64, 65, 66, 67, 68, 69, 70, 71] rfl rfl [some 0, some 1, some 2, some 3, some 4, some 5, some 6, some 7, some 8, some 9, some 10, some 11, some 12, some 13, some 14, some 15, some 16, some 17, some 18, some 19, some 20, some 21, some 22, some 23, some 24, some 25, some 26, some 27, some 28, some 29, some 30, some 31, some 32, some 33, some 34, some 35, some 36, some 37, some 38, some 39, some 40, some 41, some 42, some 43, some 44, some 45, some 46, some 47, some 48, some 49, some 50, some 51, some 52, some 53, some 54, some 55, some 56, some 57, some 58, some 59, some 60, some 61, some 62, some 63, some 64, some 65, some 66, some 67, some 68, some 69, some 70, some 71] (by decide +kernel) (Nat.le_of_ble_eq_true rfl) (fun _ => rfl) (fun _ => rfl) (fun _ => rfl) rfl rfl rfl rfl (hl.1) rfl (Nat.le_of_ble_eq_true rfl) dX11_copy_116 ⟨Nat.zero_le _, Nat.zero_le _⟩ (fun r207 σ206 H locs hf hP hD hS => ?_)
                  obtain ⟨hi1, hi2⟩ := Prod.mk.inj (Option.some.inj hf)
                  subst hi1
                  subst hi2
                  exact hret _ _ _ _ dX11_copy_119 rfl hP hS
                refine lv_if_eq (tgt := 113) hx hb dX11_copy_94 (by decide) (fun h208 => ?_) (fun h208 => ?_)
                · have hf := (if_pos h208).symm.trans hf
                  exact Jj205  _ _ _ hP hD hS (lv_sub hl [0] rfl) hf
                · have hf := (if_neg h208).symm.trans hf
                  refine lv_aload_n hx hb dX11_copy_97 rfl (lv_at hl 0 rfl) ?_
                  refine va_get (D := D) (ci := 11) (C := RX11) (T := TX11) (N := 9) hx hb hts fwX11_copy_X11 hown hK hP 0 rfl rfl 6 (by decide) (hts _ (List.mem_of_getElem? (i := 2) rfl)) (fun _ h9 => h9) rfl dX11_copy_98 ?_
                  refine lv_iload_n hx hb dX11_copy_101 rfl (lv_at hl 3 rfl) ?_
                  refine va_aldq hx hb hK hP 43 2 rfl rfl (vp_in_iff.mpr (by decide)) dX11_copy_102 ?_
                  refine W.eq (g2 := F0 m 103 ls [.ref (ad 44)]) rfl ?_
                  refine lv_iload hx hb dX11_copy_103 (lv_at hl 4 rfl) ?_
                  refine lv_iload hx hb dX11_copy_105 (lv_at hl 5 rfl) ?_
                  refine q_cVr (wf := (wX11 cI cZ cS ad)) (wc := wX6 cI cZ cS (fun i => ad (44 + i))) (rest := []) ⟨hx, hb, hml, hown, hts⟩ hK hZ hA hP hD hS hf (fun x ho => kX6_hasRange l D cI cZ cS zz (fun i => ad (44 + i)) (q_sb σ 44) a4 a5 x ho) (cwV 2 hts gX11_copy_X6_hasRange rfl rfl rfl ndX6_hasRange ⟨Nat.le_of_ble_eq_true rfl, Nat.le_of_ble_eq_true rfl⟩) [44, 45] rfl rfl rfl rfl rfl rfl (hl.1) rfl (Nat.le_of_ble_eq_true rfl) dX11_copy_107 ⟨Nat.zero_le _, Nat.zero_le _⟩ (fun r209 H locs hf hP hD hS => ?_)
                  refine lv_if_ne (tgt := 120) hx hb dX11_copy_110 (by decide) (fun h210 => ?_) (fun h210 => ?_)
                  · have hf := (if_neg h210).symm.trans hf
                    refine lv_aload_n hx hb dX11_copy_120 rfl (lv_at hl 0 rfl) ?_
                    refine va_get (D := D) (ci := 11) (C := RX11) (T := TX11) (N := 9) hx hb hts fwX11_copy_X11 hown hK hP 0 rfl rfl 6 (by decide) (hts _ (List.mem_of_getElem? (i := 2) rfl)) (fun _ h9 => h9) rfl dX11_copy_121 ?_
                    refine lv_iload_n hx hb dX11_copy_124 rfl (lv_at hl 1 rfl) ?_
                    refine va_aldq hx hb hK hP 43 2 rfl rfl (vp_in_iff.mpr (by decide)) dX11_copy_125 ?_
                    refine W.eq (g2 := F0 m 126 ls [.ref (ad 50)]) rfl ?_
                    refine va_get (D := D) (ci := 6) (C := RX6) (T := TX6) (N := 3) hx hb hts fwX11_copy_X6 hown hK hP 50 rfl rfl 2 (by decide) (hts _ (List.mem_of_getElem? (i := 6) rfl)) (fun _ h9 => h9) rfl dX11_copy_126 ?_
                    refine lv_iload_n hx hb dX11_copy_129 rfl (lv_at hl 2 rfl) ?_
                    refine lv_aload_n hx hb dX11_copy_130 rfl (lv_at hl 0 rfl) ?_
                    refine va_get (D := D) (ci := 11) (C := RX11) (T := TX11) (N := 9) hx hb hts fwX11_copy_X11 hown hK hP 0 rfl rfl 6 (by decide) (hts _ (List.mem_of_getElem? (i := 2) rfl)) (fun _ h9 => h9) rfl dX11_copy_131 ?_
                    refine lv_iload_n hx hb dX11_copy_134 rfl (lv_at hl 3 rfl) ?_
                    refine va_aldq hx hb hK hP 43 2 rfl rfl (vp_in_iff.mpr (by decide)) dX11_copy_135 ?_
                    refine W.eq (g2 := F0 m 136 ls [.ref (ad 44), .int a2, .ref (ad 51)]) rfl ?_
                    refine va_get (D := D) (ci := 6) (C := RX6) (T := TX6) (N := 3) hx hb hts fwX11_copy_X6 hown hK hP 44 rfl rfl 2 (by decide) (hts _ (List.mem_of_getElem? (i := 6) rfl)) (fun _ h9 => h9) rfl dX11_copy_136 ?_
                    refine lv_iload hx hb dX11_copy_139 (lv_at hl 4 rfl) ?_
                    refine lv_iload hx hb dX11_copy_141 (lv_at hl 5 rfl) ?_
                    refine w_copy (D := D) (wf := (wX11 cI cZ cS ad)) (i0 := 51) (i1 := 45) hx hb (hml.trans hl.1.symm) hown (hts _ (List.mem_of_getElem? (i := 7) rfl)) (hts _ (List.mem_of_getElem? (i := 8) rfl)) (hts _ (List.mem_of_getElem? (i := 9) rfl)) (hts _ (List.mem_of_getElem? (i := 10) rfl)) hK hP hD hS 51 45 0 rfl rfl rfl hf (fun _ => rfl) (Nat.le_of_ble_eq_true rfl) (Nat.le_of_ble_eq_true rfl) dX11_copy_143 (fun σ211 H locs hf hP hD hS => ?_)
                    refine lv_iload hx hb dX11_copy_146 (lv_at hl 5 rfl) ?_
                    obtain ⟨hi1, hi2⟩ := Prod.mk.inj (Option.some.inj hf)
                    subst hi1
                    subst hi2
                    exact hret _ _ _ _ dX11_copy_148 rfl hP hS
                  · have hf := (if_pos h210).symm.trans hf
                    exact Jj205  _ _ _ hP hD hS (lv_sub hl [0] rfl) hf
              · have hf := (if_neg h203).symm.trans hf
                refine lv_aload_n hx hb dX11_copy_74 rfl (lv_at hl 0 rfl) ?_
                refine lv_ldcw (v := -1000003) hx hb hown (hts _ (List.mem_of_getElem? (i := 5) rfl)) dX11_copy_75 ?_
                refine q_cVi (wf := (wX11 cI cZ cS ad)) (wc := wX11 cI cZ cS ad) (rest := []) ⟨hx, hb, hml, hown, hts⟩ hK hZ hA hP hD hS hf (fun x τ ho => kX11_tell l D cI cZ cS zz ad σ (-1000003 : Int32) x τ ho) (cwV 1 hts gX11_copy_X11_tell rfl rfl rfl ndX11_tell ⟨Nat.le_of_ble_eq_true rfl, Nat.le_of_ble_eq_true rfl⟩) [0, 1, 2, 3, 4, 5, 6, 7, 8, 9, 10, 11, 12, 13, 14, 15, 16, 17, 18, 19, 20, 21, 22, 23, 24, 25, 26, 27, 28, 29, 30, 31, 32, 33, 34, 35, 36, 37, 38, 39, 40, 41, 42, 43, 44, 45, 46, 47, 48, 49, 50, 51, 52, 53, 54, 55, 56, 57, 58, 59, 60, 61, 62, 63, 64, 65, 66, 67, 68, 69, 70, 71] rfl rfl [some 0, some 1, some 2, some 3, some 4, some 5, some 6, some 7, some 8, some 9, some 10, some 11, some 12, some 13, some 14, some 15, some 16, some 17, some 18, some 19, some 20, some 21, some 22, some 23, some 24, some 25, some 26, some 27, some 28, some 29, some 30, some 31, some 32, some 33, some 34, some 35, some 36, some 37, some 38, some 39, some 40, some 41, some 42, some 43, some 44, some 45, some 46, some 47, some 48, some 49, some 50, some 51, some 52, some 53, some 54, some 55, some 56, some 57, some 58, some 59, some 60, some 61, some 62, some 63, some 64, some 65, some 66, some 67, some 68, some 69, some 70, some 71] (by decide +kernel) (Nat.le_of_ble_eq_true rfl) (fun _ => rfl) (fun _ => rfl) (fun _ => rfl) rfl rfl rfl rfl (hl.1) rfl (Nat.le_of_ble_eq_true rfl) dX11_copy_78 ⟨Nat.zero_le _, Nat.zero_le _⟩ (fun r213 σ212 H locs hf hP hD hS => ?_)
                obtain ⟨hi1, hi2⟩ := Prod.mk.inj (Option.some.inj hf)
                subst hi1
                subst hi2
                exact hret _ _ _ _ dX11_copy_81 rfl hP hS
            · have hf := (if_neg h202).symm.trans hf
              exact Jj196  _ _ _ hP hD hS (lv_sub hl [0] rfl) hf
          have hf := (if_neg h200).symm.trans hf
          by_cases h214 : a3 = (1 : Int32)
          · have hfh214 := (if_pos h214).symm.trans hf
            have hlh214 := hl
            subst h214
            have hf := hfh214
            have hl : lv_has ls 6 [(0, .ref (ad 0)), (1, .int (3 : Int32)), (2, .int a2), (3, .int (1 : Int32)), (4, .int a4), (5, .int a5)] := hlh214
            refine va_aldq hx hb hK hP 43 2 rfl rfl (vp_in_iff.mpr (by decide)) dX11_copy_38 ?_
            refine W.eq (g2 := F0 m 39 ls [.ref (ad 46)]) rfl ?_
            refine q_cVr (wf := (wX11 cI cZ cS ad)) (wc := wX6 cI cZ cS (fun i => ad (46 + i))) (rest := []) ⟨hx, hb, hml, hown, hts⟩ hK hZ hA hP hD hS hf (fun x ho => kX6_isMissing l D cI cZ cS zz (fun i => ad (46 + i)) (q_sb σ 46) x ho) (cwV 0 hts gX11_copy_X6_isMissing rfl rfl rfl ndX6_isMissing ⟨Nat.le_of_ble_eq_true rfl, Nat.le_of_ble_eq_true rfl⟩) [46, 47] rfl rfl rfl rfl rfl rfl (hl.1) rfl (Nat.le_of_ble_eq_true rfl) dX11_copy_39 ⟨Nat.zero_le _, Nat.zero_le _⟩ (fun r215 H locs hf hP hD hS => ?_)
            refine lv_if_eq (tgt := 53) hx hb dX11_copy_42 (by decide) (fun h216 => ?_) (fun h216 => ?_)
            · have hf := (if_pos h216).symm.trans hf
              refine lv_aload_n hx hb dX11_copy_53 rfl (lv_at hl 0 rfl) ?_
              refine va_get (D := D) (ci := 11) (C := RX11) (T := TX11) (N := 9) hx hb hts fwX11_copy_X11 hown hK hP 0 rfl rfl 6 (by decide) (hts _ (List.mem_of_getElem? (i := 2) rfl)) (fun _ h9 => h9) rfl dX11_copy_54 ?_
              refine lv_iload_n hx hb dX11_copy_57 rfl (lv_at hl 1 rfl) ?_
              refine va_aldq hx hb hK hP 43 2 rfl rfl (vp_in_iff.mpr (by decide)) dX11_copy_58 ?_
              refine W.eq (g2 := F0 m 59 ls [.ref (ad 50)]) rfl ?_
              refine va_get (D := D) (ci := 6) (C := RX6) (T := TX6) (N := 3) hx hb hts fwX11_copy_X6 hown hK hP 50 rfl rfl 0 (by decide) (hts _ (List.mem_of_getElem? (i := 4) rfl)) (fun _ h9 => h9) rfl dX11_copy_59 ?_
              refine lv_aload_n hx hb dX11_copy_62 rfl (lv_at hl 0 rfl) ?_
              refine va_get (D := D) (ci := 11) (C := RX11) (T := TX11) (N := 9) hx hb hts fwX11_copy_X11 hown hK hP 0 rfl rfl 6 (by decide) (hts _ (List.mem_of_getElem? (i := 2) rfl)) (fun _ h9 => h9) rfl dX11_copy_63 ?_
              refine lv_iload_n hx hb dX11_copy_66 rfl (lv_at hl 3 rfl) ?_
              refine va_aldq hx hb hK hP 43 2 rfl rfl (vp_in_iff.mpr (by decide)) dX11_copy_67 ?_
              refine W.eq (g2 := F0 m 68 ls [.ref (ad 46), .int (σ 50 0)]) rfl ?_
              refine va_get (D := D) (ci := 6) (C := RX6) (T := TX6) (N := 3) hx hb hts fwX11_copy_X6 hown hK hP 46 rfl rfl 0 (by decide) (hts _ (List.mem_of_getElem? (i := 4) rfl)) (fun _ h9 => h9) rfl dX11_copy_68 ?_
              refine lv_icmp_eq (tgt := 82) hx hb dX11_copy_71 (by decide) (fun h217 => ?_) (fun h217 => ?_)
              · have hf := (if_pos h217).symm.trans hf
                refine lv_aload_n hx hb dX11_copy_82 rfl (lv_at hl 0 rfl) ?_
                refine va_get (D := D) (ci := 11) (C := RX11) (T := TX11) (N := 9) hx hb hts fwX11_copy_X11 hown hK hP 0 rfl rfl 6 (by decide) (hts _ (List.mem_of_getElem? (i := 2) rfl)) (fun _ h9 => h9) rfl dX11_copy_83 ?_
                refine lv_iload_n hx hb dX11_copy_86 rfl (lv_at hl 1 rfl) ?_
                refine va_aldq hx hb hK hP 43 2 rfl rfl (vp_in_iff.mpr (by decide)) dX11_copy_87 ?_
                refine W.eq (g2 := F0 m 88 ls [.ref (ad 50)]) rfl ?_
                refine lv_iload_n hx hb dX11_copy_88 rfl (lv_at hl 2 rfl) ?_
                refine lv_iload hx hb dX11_copy_89 (lv_at hl 5 rfl) ?_
                refine q_cVr (wf := (wX11 cI cZ cS ad)) (wc := wX6 cI cZ cS (fun i => ad (50 + i))) (rest := []) ⟨hx, hb, hml, hown, hts⟩ hK hZ hA hP hD hS hf (fun x ho => kX6_hasRange l D cI cZ cS zz (fun i => ad (50 + i)) (q_sb σ 50) a2 a5 x ho) (cwV 2 hts gX11_copy_X6_hasRange rfl rfl rfl ndX6_hasRange ⟨Nat.le_of_ble_eq_true rfl, Nat.le_of_ble_eq_true rfl⟩) [50, 51] rfl rfl rfl rfl rfl rfl (hl.1) rfl (Nat.le_of_ble_eq_true rfl) dX11_copy_91 ⟨Nat.zero_le _, Nat.zero_le _⟩ (fun r218 H locs hf hP hD hS => ?_)
                refine q_lt_go hf (fun j219 ej219 hf => ?_)
                have Jj219 : ∀ (H : Heap) (locs : List Loc) (ls : Array Slot), va_P D vwCl ((wX11 cI cZ cS ad) σ) H → va_D A ((wX11 cI cZ cS ad) σ) → va_S A s.heap H locs → lv_has ls 6 [(0, .ref (ad 0))] → j219 = some (rr, σr) → W p l e rmX11_copy s m ([.ref (ad 0), .int (3 : Int32), .int a2, .int (1 : Int32), .int a4, .int a5] : List Value).toArray below meth c H locs 0 0 Q (F0 m 113 ls []) := by
                  intro  H locs ls hP hD hS hl hf
                  have hf := ej219.symm.trans hf
                  refine lv_aload_n hx hb dX11_copy_113 rfl (lv_at hl 0 rfl) ?_
                  refine lv_ldc (v := -1000001) hx hb hown (hts _ (List.mem_of_getElem? (i := 1) rfl)) dX11_copy_114 ?_
                  refine q_cVi (wf := (wX11 cI cZ cS ad)) (wc := wX11 cI cZ cS ad) (rest := []) ⟨hx, hb, hml, hown, hts⟩ hK hZ hA hP hD hS hf (fun x τ ho => kX11_tell l D cI cZ cS zz ad σ (-1000001 : Int32) x τ ho) (cwV 1 hts gX11_copy_X11_tell rfl rfl rfl ndX11_tell ⟨Nat.le_of_ble_eq_true rfl, Nat.le_of_ble_eq_true rfl⟩) [0, 1, 2, 3, 4, 5, 6, 7, 8, 9, 10, 11, 12, 13, 14, 15, 16, 17, 18, 19, 20, 21, 22, 23, 24, 25, 26, 27, 28, 29, 30, 31, 32, 33, 34, 35, 36, 37, 38, 39, 40, 41, 42, 43, 44, 45, 46, 47, 48, 49, 50, 51, 52, 53, 54, 55, 56, 57, 58, 59, 60, 61, 62, 63, 64, 65, 66, 67, 68, 69, 70, 71] rfl rfl [some 0, some 1, some 2, some 3, some 4, some 5, some 6, some 7, some 8, some 9, some 10, some 11, some 12, some 13, some 14, some 15, some 16, some 17, some 18, some 19, some 20, some 21, some 22, some 23, some 24, some 25, some 26, some 27, some 28, some 29, some 30, some 31, some 32, some 33, some 34, some 35, some 36, some 37, some 38, some 39, some 40, some 41, some 42, some 43, some 44, some 45, some 46, some 47, some 48, some 49, some 50, some 51, some 52, some 53, some 54, some 55, some 56, some 57, some 58, some 59, some 60, some 61, some 62, some 63, some 64, some 65, some 66, some 67, some 68, some 69, some 70, some 71] (by decide +kernel) (Nat.le_of_ble_eq_true rfl) (fun _ => rfl) (fun _ => rfl) (fun _ => rfl) rfl rfl rfl rfl (hl.1) rfl (Nat.le_of_ble_eq_true rfl) dX11_copy_116 ⟨Nat.zero_le _, Nat.zero_le _⟩ (fun r221 σ220 H locs hf hP hD hS => ?_)
                  obtain ⟨hi1, hi2⟩ := Prod.mk.inj (Option.some.inj hf)
                  subst hi1
                  subst hi2
                  exact hret _ _ _ _ dX11_copy_119 rfl hP hS
                refine lv_if_eq (tgt := 113) hx hb dX11_copy_94 (by decide) (fun h222 => ?_) (fun h222 => ?_)
                · have hf := (if_pos h222).symm.trans hf
                  exact Jj219  _ _ _ hP hD hS (lv_sub hl [0] rfl) hf
                · have hf := (if_neg h222).symm.trans hf
                  refine lv_aload_n hx hb dX11_copy_97 rfl (lv_at hl 0 rfl) ?_
                  refine va_get (D := D) (ci := 11) (C := RX11) (T := TX11) (N := 9) hx hb hts fwX11_copy_X11 hown hK hP 0 rfl rfl 6 (by decide) (hts _ (List.mem_of_getElem? (i := 2) rfl)) (fun _ h9 => h9) rfl dX11_copy_98 ?_
                  refine lv_iload_n hx hb dX11_copy_101 rfl (lv_at hl 3 rfl) ?_
                  refine va_aldq hx hb hK hP 43 2 rfl rfl (vp_in_iff.mpr (by decide)) dX11_copy_102 ?_
                  refine W.eq (g2 := F0 m 103 ls [.ref (ad 46)]) rfl ?_
                  refine lv_iload hx hb dX11_copy_103 (lv_at hl 4 rfl) ?_
                  refine lv_iload hx hb dX11_copy_105 (lv_at hl 5 rfl) ?_
                  refine q_cVr (wf := (wX11 cI cZ cS ad)) (wc := wX6 cI cZ cS (fun i => ad (46 + i))) (rest := []) ⟨hx, hb, hml, hown, hts⟩ hK hZ hA hP hD hS hf (fun x ho => kX6_hasRange l D cI cZ cS zz (fun i => ad (46 + i)) (q_sb σ 46) a4 a5 x ho) (cwV 2 hts gX11_copy_X6_hasRange rfl rfl rfl ndX6_hasRange ⟨Nat.le_of_ble_eq_true rfl, Nat.le_of_ble_eq_true rfl⟩) [46, 47] rfl rfl rfl rfl rfl rfl (hl.1) rfl (Nat.le_of_ble_eq_true rfl) dX11_copy_107 ⟨Nat.zero_le _, Nat.zero_le _⟩ (fun r223 H locs hf hP hD hS => ?_)
                  refine lv_if_ne (tgt := 120) hx hb dX11_copy_110 (by decide) (fun h224 => ?_) (fun h224 => ?_)
                  · have hf := (if_neg h224).symm.trans hf
                    refine lv_aload_n hx hb dX11_copy_120 rfl (lv_at hl 0 rfl) ?_
                    refine va_get (D := D) (ci := 11) (C := RX11) (T := TX11) (N := 9) hx hb hts fwX11_copy_X11 hown hK hP 0 rfl rfl 6 (by decide) (hts _ (List.mem_of_getElem? (i := 2) rfl)) (fun _ h9 => h9) rfl dX11_copy_121 ?_
                    refine lv_iload_n hx hb dX11_copy_124 rfl (lv_at hl 1 rfl) ?_
                    refine va_aldq hx hb hK hP 43 2 rfl rfl (vp_in_iff.mpr (by decide)) dX11_copy_125 ?_
                    refine W.eq (g2 := F0 m 126 ls [.ref (ad 50)]) rfl ?_
                    refine va_get (D := D) (ci := 6) (C := RX6) (T := TX6) (N := 3) hx hb hts fwX11_copy_X6 hown hK hP 50 rfl rfl 2 (by decide) (hts _ (List.mem_of_getElem? (i := 6) rfl)) (fun _ h9 => h9) rfl dX11_copy_126 ?_
                    refine lv_iload_n hx hb dX11_copy_129 rfl (lv_at hl 2 rfl) ?_
                    refine lv_aload_n hx hb dX11_copy_130 rfl (lv_at hl 0 rfl) ?_
                    refine va_get (D := D) (ci := 11) (C := RX11) (T := TX11) (N := 9) hx hb hts fwX11_copy_X11 hown hK hP 0 rfl rfl 6 (by decide) (hts _ (List.mem_of_getElem? (i := 2) rfl)) (fun _ h9 => h9) rfl dX11_copy_131 ?_
                    refine lv_iload_n hx hb dX11_copy_134 rfl (lv_at hl 3 rfl) ?_
                    refine va_aldq hx hb hK hP 43 2 rfl rfl (vp_in_iff.mpr (by decide)) dX11_copy_135 ?_
                    refine W.eq (g2 := F0 m 136 ls [.ref (ad 46), .int a2, .ref (ad 51)]) rfl ?_
                    refine va_get (D := D) (ci := 6) (C := RX6) (T := TX6) (N := 3) hx hb hts fwX11_copy_X6 hown hK hP 46 rfl rfl 2 (by decide) (hts _ (List.mem_of_getElem? (i := 6) rfl)) (fun _ h9 => h9) rfl dX11_copy_136 ?_
                    refine lv_iload hx hb dX11_copy_139 (lv_at hl 4 rfl) ?_
                    refine lv_iload hx hb dX11_copy_141 (lv_at hl 5 rfl) ?_
                    refine w_copy (D := D) (wf := (wX11 cI cZ cS ad)) (i0 := 51) (i1 := 47) hx hb (hml.trans hl.1.symm) hown (hts _ (List.mem_of_getElem? (i := 7) rfl)) (hts _ (List.mem_of_getElem? (i := 8) rfl)) (hts _ (List.mem_of_getElem? (i := 9) rfl)) (hts _ (List.mem_of_getElem? (i := 10) rfl)) hK hP hD hS 51 47 0 rfl rfl rfl hf (fun _ => rfl) (Nat.le_of_ble_eq_true rfl) (Nat.le_of_ble_eq_true rfl) dX11_copy_143 (fun σ225 H locs hf hP hD hS => ?_)
                    refine lv_iload hx hb dX11_copy_146 (lv_at hl 5 rfl) ?_
                    obtain ⟨hi1, hi2⟩ := Prod.mk.inj (Option.some.inj hf)
                    subst hi1
                    subst hi2
                    exact hret _ _ _ _ dX11_copy_148 rfl hP hS
                  · have hf := (if_pos h224).symm.trans hf
                    exact Jj219  _ _ _ hP hD hS (lv_sub hl [0] rfl) hf
              · have hf := (if_neg h217).symm.trans hf
                refine lv_aload_n hx hb dX11_copy_74 rfl (lv_at hl 0 rfl) ?_
                refine lv_ldcw (v := -1000003) hx hb hown (hts _ (List.mem_of_getElem? (i := 5) rfl)) dX11_copy_75 ?_
                refine q_cVi (wf := (wX11 cI cZ cS ad)) (wc := wX11 cI cZ cS ad) (rest := []) ⟨hx, hb, hml, hown, hts⟩ hK hZ hA hP hD hS hf (fun x τ ho => kX11_tell l D cI cZ cS zz ad σ (-1000003 : Int32) x τ ho) (cwV 1 hts gX11_copy_X11_tell rfl rfl rfl ndX11_tell ⟨Nat.le_of_ble_eq_true rfl, Nat.le_of_ble_eq_true rfl⟩) [0, 1, 2, 3, 4, 5, 6, 7, 8, 9, 10, 11, 12, 13, 14, 15, 16, 17, 18, 19, 20, 21, 22, 23, 24, 25, 26, 27, 28, 29, 30, 31, 32, 33, 34, 35, 36, 37, 38, 39, 40, 41, 42, 43, 44, 45, 46, 47, 48, 49, 50, 51, 52, 53, 54, 55, 56, 57, 58, 59, 60, 61, 62, 63, 64, 65, 66, 67, 68, 69, 70, 71] rfl rfl [some 0, some 1, some 2, some 3, some 4, some 5, some 6, some 7, some 8, some 9, some 10, some 11, some 12, some 13, some 14, some 15, some 16, some 17, some 18, some 19, some 20, some 21, some 22, some 23, some 24, some 25, some 26, some 27, some 28, some 29, some 30, some 31, some 32, some 33, some 34, some 35, some 36, some 37, some 38, some 39, some 40, some 41, some 42, some 43, some 44, some 45, some 46, some 47, some 48, some 49, some 50, some 51, some 52, some 53, some 54, some 55, some 56, some 57, some 58, some 59, some 60, some 61, some 62, some 63, some 64, some 65, some 66, some 67, some 68, some 69, some 70, some 71] (by decide +kernel) (Nat.le_of_ble_eq_true rfl) (fun _ => rfl) (fun _ => rfl) (fun _ => rfl) rfl rfl rfl rfl (hl.1) rfl (Nat.le_of_ble_eq_true rfl) dX11_copy_78 ⟨Nat.zero_le _, Nat.zero_le _⟩ (fun r227 σ226 H locs hf hP hD hS => ?_)
                obtain ⟨hi1, hi2⟩ := Prod.mk.inj (Option.some.inj hf)
                subst hi1
                subst hi2
                exact hret _ _ _ _ dX11_copy_81 rfl hP hS
            · have hf := (if_neg h216).symm.trans hf
              exact Jj196  _ _ _ hP hD hS (lv_sub hl [0] rfl) hf
          have hf := (if_neg h214).symm.trans hf
          by_cases h228 : a3 = (2 : Int32)
          · have hfh228 := (if_pos h228).symm.trans hf
            have hlh228 := hl
            subst h228
            have hf := hfh228
            have hl : lv_has ls 6 [(0, .ref (ad 0)), (1, .int (3 : Int32)), (2, .int a2), (3, .int (2 : Int32)), (4, .int a4), (5, .int a5)] := hlh228
            refine va_aldq hx hb hK hP 43 2 rfl rfl (vp_in_iff.mpr (by decide)) dX11_copy_38 ?_
            refine W.eq (g2 := F0 m 39 ls [.ref (ad 48)]) rfl ?_
            refine q_cVr (wf := (wX11 cI cZ cS ad)) (wc := wX6 cI cZ cS (fun i => ad (48 + i))) (rest := []) ⟨hx, hb, hml, hown, hts⟩ hK hZ hA hP hD hS hf (fun x ho => kX6_isMissing l D cI cZ cS zz (fun i => ad (48 + i)) (q_sb σ 48) x ho) (cwV 0 hts gX11_copy_X6_isMissing rfl rfl rfl ndX6_isMissing ⟨Nat.le_of_ble_eq_true rfl, Nat.le_of_ble_eq_true rfl⟩) [48, 49] rfl rfl rfl rfl rfl rfl (hl.1) rfl (Nat.le_of_ble_eq_true rfl) dX11_copy_39 ⟨Nat.zero_le _, Nat.zero_le _⟩ (fun r229 H locs hf hP hD hS => ?_)
            refine lv_if_eq (tgt := 53) hx hb dX11_copy_42 (by decide) (fun h230 => ?_) (fun h230 => ?_)
            · have hf := (if_pos h230).symm.trans hf
              refine lv_aload_n hx hb dX11_copy_53 rfl (lv_at hl 0 rfl) ?_
              refine va_get (D := D) (ci := 11) (C := RX11) (T := TX11) (N := 9) hx hb hts fwX11_copy_X11 hown hK hP 0 rfl rfl 6 (by decide) (hts _ (List.mem_of_getElem? (i := 2) rfl)) (fun _ h9 => h9) rfl dX11_copy_54 ?_
              refine lv_iload_n hx hb dX11_copy_57 rfl (lv_at hl 1 rfl) ?_
              refine va_aldq hx hb hK hP 43 2 rfl rfl (vp_in_iff.mpr (by decide)) dX11_copy_58 ?_
              refine W.eq (g2 := F0 m 59 ls [.ref (ad 50)]) rfl ?_
              refine va_get (D := D) (ci := 6) (C := RX6) (T := TX6) (N := 3) hx hb hts fwX11_copy_X6 hown hK hP 50 rfl rfl 0 (by decide) (hts _ (List.mem_of_getElem? (i := 4) rfl)) (fun _ h9 => h9) rfl dX11_copy_59 ?_
              refine lv_aload_n hx hb dX11_copy_62 rfl (lv_at hl 0 rfl) ?_
              refine va_get (D := D) (ci := 11) (C := RX11) (T := TX11) (N := 9) hx hb hts fwX11_copy_X11 hown hK hP 0 rfl rfl 6 (by decide) (hts _ (List.mem_of_getElem? (i := 2) rfl)) (fun _ h9 => h9) rfl dX11_copy_63 ?_
              refine lv_iload_n hx hb dX11_copy_66 rfl (lv_at hl 3 rfl) ?_
              refine va_aldq hx hb hK hP 43 2 rfl rfl (vp_in_iff.mpr (by decide)) dX11_copy_67 ?_
              refine W.eq (g2 := F0 m 68 ls [.ref (ad 48), .int (σ 50 0)]) rfl ?_
              refine va_get (D := D) (ci := 6) (C := RX6) (T := TX6) (N := 3) hx hb hts fwX11_copy_X6 hown hK hP 48 rfl rfl 0 (by decide) (hts _ (List.mem_of_getElem? (i := 4) rfl)) (fun _ h9 => h9) rfl dX11_copy_68 ?_
              refine lv_icmp_eq (tgt := 82) hx hb dX11_copy_71 (by decide) (fun h231 => ?_) (fun h231 => ?_)
              · have hf := (if_pos h231).symm.trans hf
                refine lv_aload_n hx hb dX11_copy_82 rfl (lv_at hl 0 rfl) ?_
                refine va_get (D := D) (ci := 11) (C := RX11) (T := TX11) (N := 9) hx hb hts fwX11_copy_X11 hown hK hP 0 rfl rfl 6 (by decide) (hts _ (List.mem_of_getElem? (i := 2) rfl)) (fun _ h9 => h9) rfl dX11_copy_83 ?_
                refine lv_iload_n hx hb dX11_copy_86 rfl (lv_at hl 1 rfl) ?_
                refine va_aldq hx hb hK hP 43 2 rfl rfl (vp_in_iff.mpr (by decide)) dX11_copy_87 ?_
                refine W.eq (g2 := F0 m 88 ls [.ref (ad 50)]) rfl ?_
                refine lv_iload_n hx hb dX11_copy_88 rfl (lv_at hl 2 rfl) ?_
                refine lv_iload hx hb dX11_copy_89 (lv_at hl 5 rfl) ?_
                refine q_cVr (wf := (wX11 cI cZ cS ad)) (wc := wX6 cI cZ cS (fun i => ad (50 + i))) (rest := []) ⟨hx, hb, hml, hown, hts⟩ hK hZ hA hP hD hS hf (fun x ho => kX6_hasRange l D cI cZ cS zz (fun i => ad (50 + i)) (q_sb σ 50) a2 a5 x ho) (cwV 2 hts gX11_copy_X6_hasRange rfl rfl rfl ndX6_hasRange ⟨Nat.le_of_ble_eq_true rfl, Nat.le_of_ble_eq_true rfl⟩) [50, 51] rfl rfl rfl rfl rfl rfl (hl.1) rfl (Nat.le_of_ble_eq_true rfl) dX11_copy_91 ⟨Nat.zero_le _, Nat.zero_le _⟩ (fun r232 H locs hf hP hD hS => ?_)
                refine q_lt_go hf (fun j233 ej233 hf => ?_)
                have Jj233 : ∀ (H : Heap) (locs : List Loc) (ls : Array Slot), va_P D vwCl ((wX11 cI cZ cS ad) σ) H → va_D A ((wX11 cI cZ cS ad) σ) → va_S A s.heap H locs → lv_has ls 6 [(0, .ref (ad 0))] → j233 = some (rr, σr) → W p l e rmX11_copy s m ([.ref (ad 0), .int (3 : Int32), .int a2, .int (2 : Int32), .int a4, .int a5] : List Value).toArray below meth c H locs 0 0 Q (F0 m 113 ls []) := by
                  intro  H locs ls hP hD hS hl hf
                  have hf := ej233.symm.trans hf
                  refine lv_aload_n hx hb dX11_copy_113 rfl (lv_at hl 0 rfl) ?_
                  refine lv_ldc (v := -1000001) hx hb hown (hts _ (List.mem_of_getElem? (i := 1) rfl)) dX11_copy_114 ?_
                  refine q_cVi (wf := (wX11 cI cZ cS ad)) (wc := wX11 cI cZ cS ad) (rest := []) ⟨hx, hb, hml, hown, hts⟩ hK hZ hA hP hD hS hf (fun x τ ho => kX11_tell l D cI cZ cS zz ad σ (-1000001 : Int32) x τ ho) (cwV 1 hts gX11_copy_X11_tell rfl rfl rfl ndX11_tell ⟨Nat.le_of_ble_eq_true rfl, Nat.le_of_ble_eq_true rfl⟩) [0, 1, 2, 3, 4, 5, 6, 7, 8, 9, 10, 11, 12, 13, 14, 15, 16, 17, 18, 19, 20, 21, 22, 23, 24, 25, 26, 27, 28, 29, 30, 31, 32, 33, 34, 35, 36, 37, 38, 39, 40, 41, 42, 43, 44, 45, 46, 47, 48, 49, 50, 51, 52, 53, 54, 55, 56, 57, 58, 59, 60, 61, 62, 63, 64, 65, 66, 67, 68, 69, 70, 71] rfl rfl [some 0, some 1, some 2, some 3, some 4, some 5, some 6, some 7, some 8, some 9, some 10, some 11, some 12, some 13, some 14, some 15, some 16, some 17, some 18, some 19, some 20, some 21, some 22, some 23, some 24, some 25, some 26, some 27, some 28, some 29, some 30, some 31, some 32, some 33, some 34, some 35, some 36, some 37, some 38, some 39, some 40, some 41, some 42, some 43, some 44, some 45, some 46, some 47, some 48, some 49, some 50, some 51, some 52, some 53, some 54, some 55, some 56, some 57, some 58, some 59, some 60, some 61, some 62, some 63, some 64, some 65, some 66, some 67, some 68, some 69, some 70, some 71] (by decide +kernel) (Nat.le_of_ble_eq_true rfl) (fun _ => rfl) (fun _ => rfl) (fun _ => rfl) rfl rfl rfl rfl (hl.1) rfl (Nat.le_of_ble_eq_true rfl) dX11_copy_116 ⟨Nat.zero_le _, Nat.zero_le _⟩ (fun r235 σ234 H locs hf hP hD hS => ?_)
                  obtain ⟨hi1, hi2⟩ := Prod.mk.inj (Option.some.inj hf)
                  subst hi1
                  subst hi2
                  exact hret _ _ _ _ dX11_copy_119 rfl hP hS
                refine lv_if_eq (tgt := 113) hx hb dX11_copy_94 (by decide) (fun h236 => ?_) (fun h236 => ?_)
                · have hf := (if_pos h236).symm.trans hf
                  exact Jj233  _ _ _ hP hD hS (lv_sub hl [0] rfl) hf
                · have hf := (if_neg h236).symm.trans hf
                  refine lv_aload_n hx hb dX11_copy_97 rfl (lv_at hl 0 rfl) ?_
                  refine va_get (D := D) (ci := 11) (C := RX11) (T := TX11) (N := 9) hx hb hts fwX11_copy_X11 hown hK hP 0 rfl rfl 6 (by decide) (hts _ (List.mem_of_getElem? (i := 2) rfl)) (fun _ h9 => h9) rfl dX11_copy_98 ?_
                  refine lv_iload_n hx hb dX11_copy_101 rfl (lv_at hl 3 rfl) ?_
                  refine va_aldq hx hb hK hP 43 2 rfl rfl (vp_in_iff.mpr (by decide)) dX11_copy_102 ?_
                  refine W.eq (g2 := F0 m 103 ls [.ref (ad 48)]) rfl ?_
                  refine lv_iload hx hb dX11_copy_103 (lv_at hl 4 rfl) ?_
                  refine lv_iload hx hb dX11_copy_105 (lv_at hl 5 rfl) ?_
                  refine q_cVr (wf := (wX11 cI cZ cS ad)) (wc := wX6 cI cZ cS (fun i => ad (48 + i))) (rest := []) ⟨hx, hb, hml, hown, hts⟩ hK hZ hA hP hD hS hf (fun x ho => kX6_hasRange l D cI cZ cS zz (fun i => ad (48 + i)) (q_sb σ 48) a4 a5 x ho) (cwV 2 hts gX11_copy_X6_hasRange rfl rfl rfl ndX6_hasRange ⟨Nat.le_of_ble_eq_true rfl, Nat.le_of_ble_eq_true rfl⟩) [48, 49] rfl rfl rfl rfl rfl rfl (hl.1) rfl (Nat.le_of_ble_eq_true rfl) dX11_copy_107 ⟨Nat.zero_le _, Nat.zero_le _⟩ (fun r237 H locs hf hP hD hS => ?_)
                  refine lv_if_ne (tgt := 120) hx hb dX11_copy_110 (by decide) (fun h238 => ?_) (fun h238 => ?_)
                  · have hf := (if_neg h238).symm.trans hf
                    refine lv_aload_n hx hb dX11_copy_120 rfl (lv_at hl 0 rfl) ?_
                    refine va_get (D := D) (ci := 11) (C := RX11) (T := TX11) (N := 9) hx hb hts fwX11_copy_X11 hown hK hP 0 rfl rfl 6 (by decide) (hts _ (List.mem_of_getElem? (i := 2) rfl)) (fun _ h9 => h9) rfl dX11_copy_121 ?_
                    refine lv_iload_n hx hb dX11_copy_124 rfl (lv_at hl 1 rfl) ?_
                    refine va_aldq hx hb hK hP 43 2 rfl rfl (vp_in_iff.mpr (by decide)) dX11_copy_125 ?_
                    refine W.eq (g2 := F0 m 126 ls [.ref (ad 50)]) rfl ?_
                    refine va_get (D := D) (ci := 6) (C := RX6) (T := TX6) (N := 3) hx hb hts fwX11_copy_X6 hown hK hP 50 rfl rfl 2 (by decide) (hts _ (List.mem_of_getElem? (i := 6) rfl)) (fun _ h9 => h9) rfl dX11_copy_126 ?_
                    refine lv_iload_n hx hb dX11_copy_129 rfl (lv_at hl 2 rfl) ?_
                    refine lv_aload_n hx hb dX11_copy_130 rfl (lv_at hl 0 rfl) ?_
                    refine va_get (D := D) (ci := 11) (C := RX11) (T := TX11) (N := 9) hx hb hts fwX11_copy_X11 hown hK hP 0 rfl rfl 6 (by decide) (hts _ (List.mem_of_getElem? (i := 2) rfl)) (fun _ h9 => h9) rfl dX11_copy_131 ?_
                    refine lv_iload_n hx hb dX11_copy_134 rfl (lv_at hl 3 rfl) ?_
                    refine va_aldq hx hb hK hP 43 2 rfl rfl (vp_in_iff.mpr (by decide)) dX11_copy_135 ?_
                    refine W.eq (g2 := F0 m 136 ls [.ref (ad 48), .int a2, .ref (ad 51)]) rfl ?_
                    refine va_get (D := D) (ci := 6) (C := RX6) (T := TX6) (N := 3) hx hb hts fwX11_copy_X6 hown hK hP 48 rfl rfl 2 (by decide) (hts _ (List.mem_of_getElem? (i := 6) rfl)) (fun _ h9 => h9) rfl dX11_copy_136 ?_
                    refine lv_iload hx hb dX11_copy_139 (lv_at hl 4 rfl) ?_
                    refine lv_iload hx hb dX11_copy_141 (lv_at hl 5 rfl) ?_
                    refine w_copy (D := D) (wf := (wX11 cI cZ cS ad)) (i0 := 51) (i1 := 49) hx hb (hml.trans hl.1.symm) hown (hts _ (List.mem_of_getElem? (i := 7) rfl)) (hts _ (List.mem_of_getElem? (i := 8) rfl)) (hts _ (List.mem_of_getElem? (i := 9) rfl)) (hts _ (List.mem_of_getElem? (i := 10) rfl)) hK hP hD hS 51 49 0 rfl rfl rfl hf (fun _ => rfl) (Nat.le_of_ble_eq_true rfl) (Nat.le_of_ble_eq_true rfl) dX11_copy_143 (fun σ239 H locs hf hP hD hS => ?_)
                    refine lv_iload hx hb dX11_copy_146 (lv_at hl 5 rfl) ?_
                    obtain ⟨hi1, hi2⟩ := Prod.mk.inj (Option.some.inj hf)
                    subst hi1
                    subst hi2
                    exact hret _ _ _ _ dX11_copy_148 rfl hP hS
                  · have hf := (if_pos h238).symm.trans hf
                    exact Jj233  _ _ _ hP hD hS (lv_sub hl [0] rfl) hf
              · have hf := (if_neg h231).symm.trans hf
                refine lv_aload_n hx hb dX11_copy_74 rfl (lv_at hl 0 rfl) ?_
                refine lv_ldcw (v := -1000003) hx hb hown (hts _ (List.mem_of_getElem? (i := 5) rfl)) dX11_copy_75 ?_
                refine q_cVi (wf := (wX11 cI cZ cS ad)) (wc := wX11 cI cZ cS ad) (rest := []) ⟨hx, hb, hml, hown, hts⟩ hK hZ hA hP hD hS hf (fun x τ ho => kX11_tell l D cI cZ cS zz ad σ (-1000003 : Int32) x τ ho) (cwV 1 hts gX11_copy_X11_tell rfl rfl rfl ndX11_tell ⟨Nat.le_of_ble_eq_true rfl, Nat.le_of_ble_eq_true rfl⟩) [0, 1, 2, 3, 4, 5, 6, 7, 8, 9, 10, 11, 12, 13, 14, 15, 16, 17, 18, 19, 20, 21, 22, 23, 24, 25, 26, 27, 28, 29, 30, 31, 32, 33, 34, 35, 36, 37, 38, 39, 40, 41, 42, 43, 44, 45, 46, 47, 48, 49, 50, 51, 52, 53, 54, 55, 56, 57, 58, 59, 60, 61, 62, 63, 64, 65, 66, 67, 68, 69, 70, 71] rfl rfl [some 0, some 1, some 2, some 3, some 4, some 5, some 6, some 7, some 8, some 9, some 10, some 11, some 12, some 13, some 14, some 15, some 16, some 17, some 18, some 19, some 20, some 21, some 22, some 23, some 24, some 25, some 26, some 27, some 28, some 29, some 30, some 31, some 32, some 33, some 34, some 35, some 36, some 37, some 38, some 39, some 40, some 41, some 42, some 43, some 44, some 45, some 46, some 47, some 48, some 49, some 50, some 51, some 52, some 53, some 54, some 55, some 56, some 57, some 58, some 59, some 60, some 61, some 62, some 63, some 64, some 65, some 66, some 67, some 68, some 69, some 70, some 71] (by decide +kernel) (Nat.le_of_ble_eq_true rfl) (fun _ => rfl) (fun _ => rfl) (fun _ => rfl) rfl rfl rfl rfl (hl.1) rfl (Nat.le_of_ble_eq_true rfl) dX11_copy_78 ⟨Nat.zero_le _, Nat.zero_le _⟩ (fun r241 σ240 H locs hf hP hD hS => ?_)
                obtain ⟨hi1, hi2⟩ := Prod.mk.inj (Option.some.inj hf)
                subst hi1
                subst hi2
                exact hret _ _ _ _ dX11_copy_81 rfl hP hS
            · have hf := (if_neg h230).symm.trans hf
              exact Jj196  _ _ _ hP hD hS (lv_sub hl [0] rfl) hf
          have hf := (if_neg h228).symm.trans hf
          by_cases h242 : a3 = (3 : Int32)
          · have hfh242 := (if_pos h242).symm.trans hf
            have hlh242 := hl
            subst h242
            have hf := hfh242
            have hl : lv_has ls 6 [(0, .ref (ad 0)), (1, .int (3 : Int32)), (2, .int a2), (3, .int (3 : Int32)), (4, .int a4), (5, .int a5)] := hlh242
            refine va_aldq hx hb hK hP 43 2 rfl rfl (vp_in_iff.mpr (by decide)) dX11_copy_38 ?_
            refine W.eq (g2 := F0 m 39 ls [.ref (ad 50)]) rfl ?_
            refine q_cVr (wf := (wX11 cI cZ cS ad)) (wc := wX6 cI cZ cS (fun i => ad (50 + i))) (rest := []) ⟨hx, hb, hml, hown, hts⟩ hK hZ hA hP hD hS hf (fun x ho => kX6_isMissing l D cI cZ cS zz (fun i => ad (50 + i)) (q_sb σ 50) x ho) (cwV 0 hts gX11_copy_X6_isMissing rfl rfl rfl ndX6_isMissing ⟨Nat.le_of_ble_eq_true rfl, Nat.le_of_ble_eq_true rfl⟩) [50, 51] rfl rfl rfl rfl rfl rfl (hl.1) rfl (Nat.le_of_ble_eq_true rfl) dX11_copy_39 ⟨Nat.zero_le _, Nat.zero_le _⟩ (fun r243 H locs hf hP hD hS => ?_)
            refine lv_if_eq (tgt := 53) hx hb dX11_copy_42 (by decide) (fun h244 => ?_) (fun h244 => ?_)
            · have hf := (if_pos h244).symm.trans hf
              refine lv_aload_n hx hb dX11_copy_53 rfl (lv_at hl 0 rfl) ?_
              refine va_get (D := D) (ci := 11) (C := RX11) (T := TX11) (N := 9) hx hb hts fwX11_copy_X11 hown hK hP 0 rfl rfl 6 (by decide) (hts _ (List.mem_of_getElem? (i := 2) rfl)) (fun _ h9 => h9) rfl dX11_copy_54 ?_
              refine lv_iload_n hx hb dX11_copy_57 rfl (lv_at hl 1 rfl) ?_
              refine va_aldq hx hb hK hP 43 2 rfl rfl (vp_in_iff.mpr (by decide)) dX11_copy_58 ?_
              refine W.eq (g2 := F0 m 59 ls [.ref (ad 50)]) rfl ?_
              refine va_get (D := D) (ci := 6) (C := RX6) (T := TX6) (N := 3) hx hb hts fwX11_copy_X6 hown hK hP 50 rfl rfl 0 (by decide) (hts _ (List.mem_of_getElem? (i := 4) rfl)) (fun _ h9 => h9) rfl dX11_copy_59 ?_
              refine lv_aload_n hx hb dX11_copy_62 rfl (lv_at hl 0 rfl) ?_
              refine va_get (D := D) (ci := 11) (C := RX11) (T := TX11) (N := 9) hx hb hts fwX11_copy_X11 hown hK hP 0 rfl rfl 6 (by decide) (hts _ (List.mem_of_getElem? (i := 2) rfl)) (fun _ h9 => h9) rfl dX11_copy_63 ?_
              refine lv_iload_n hx hb dX11_copy_66 rfl (lv_at hl 3 rfl) ?_
              refine va_aldq hx hb hK hP 43 2 rfl rfl (vp_in_iff.mpr (by decide)) dX11_copy_67 ?_
              refine W.eq (g2 := F0 m 68 ls [.ref (ad 50), .int (σ 50 0)]) rfl ?_
              refine va_get (D := D) (ci := 6) (C := RX6) (T := TX6) (N := 3) hx hb hts fwX11_copy_X6 hown hK hP 50 rfl rfl 0 (by decide) (hts _ (List.mem_of_getElem? (i := 4) rfl)) (fun _ h9 => h9) rfl dX11_copy_68 ?_
              refine lv_icmp_eq (tgt := 82) hx hb dX11_copy_71 (by decide) (fun h245 => ?_) (fun h245 => ?_)
              · have hf := (if_pos h245).symm.trans hf
                refine lv_aload_n hx hb dX11_copy_82 rfl (lv_at hl 0 rfl) ?_
                refine va_get (D := D) (ci := 11) (C := RX11) (T := TX11) (N := 9) hx hb hts fwX11_copy_X11 hown hK hP 0 rfl rfl 6 (by decide) (hts _ (List.mem_of_getElem? (i := 2) rfl)) (fun _ h9 => h9) rfl dX11_copy_83 ?_
                refine lv_iload_n hx hb dX11_copy_86 rfl (lv_at hl 1 rfl) ?_
                refine va_aldq hx hb hK hP 43 2 rfl rfl (vp_in_iff.mpr (by decide)) dX11_copy_87 ?_
                refine W.eq (g2 := F0 m 88 ls [.ref (ad 50)]) rfl ?_
                refine lv_iload_n hx hb dX11_copy_88 rfl (lv_at hl 2 rfl) ?_
                refine lv_iload hx hb dX11_copy_89 (lv_at hl 5 rfl) ?_
                refine q_cVr (wf := (wX11 cI cZ cS ad)) (wc := wX6 cI cZ cS (fun i => ad (50 + i))) (rest := []) ⟨hx, hb, hml, hown, hts⟩ hK hZ hA hP hD hS hf (fun x ho => kX6_hasRange l D cI cZ cS zz (fun i => ad (50 + i)) (q_sb σ 50) a2 a5 x ho) (cwV 2 hts gX11_copy_X6_hasRange rfl rfl rfl ndX6_hasRange ⟨Nat.le_of_ble_eq_true rfl, Nat.le_of_ble_eq_true rfl⟩) [50, 51] rfl rfl rfl rfl rfl rfl (hl.1) rfl (Nat.le_of_ble_eq_true rfl) dX11_copy_91 ⟨Nat.zero_le _, Nat.zero_le _⟩ (fun r246 H locs hf hP hD hS => ?_)
                refine q_lt_go hf (fun j247 ej247 hf => ?_)
                have Jj247 : ∀ (H : Heap) (locs : List Loc) (ls : Array Slot), va_P D vwCl ((wX11 cI cZ cS ad) σ) H → va_D A ((wX11 cI cZ cS ad) σ) → va_S A s.heap H locs → lv_has ls 6 [(0, .ref (ad 0))] → j247 = some (rr, σr) → W p l e rmX11_copy s m ([.ref (ad 0), .int (3 : Int32), .int a2, .int (3 : Int32), .int a4, .int a5] : List Value).toArray below meth c H locs 0 0 Q (F0 m 113 ls []) := by
                  intro  H locs ls hP hD hS hl hf
                  have hf := ej247.symm.trans hf
                  refine lv_aload_n hx hb dX11_copy_113 rfl (lv_at hl 0 rfl) ?_
                  refine lv_ldc (v := -1000001) hx hb hown (hts _ (List.mem_of_getElem? (i := 1) rfl)) dX11_copy_114 ?_
                  refine q_cVi (wf := (wX11 cI cZ cS ad)) (wc := wX11 cI cZ cS ad) (rest := []) ⟨hx, hb, hml, hown, hts⟩ hK hZ hA hP hD hS hf (fun x τ ho => kX11_tell l D cI cZ cS zz ad σ (-1000001 : Int32) x τ ho) (cwV 1 hts gX11_copy_X11_tell rfl rfl rfl ndX11_tell ⟨Nat.le_of_ble_eq_true rfl, Nat.le_of_ble_eq_true rfl⟩) [0, 1, 2, 3, 4, 5, 6, 7, 8, 9, 10, 11, 12, 13, 14, 15, 16, 17, 18, 19, 20, 21, 22, 23, 24, 25, 26, 27, 28, 29, 30, 31, 32, 33, 34, 35, 36, 37, 38, 39, 40, 41, 42, 43, 44, 45, 46, 47, 48, 49, 50, 51, 52, 53, 54, 55, 56, 57, 58, 59, 60, 61, 62, 63, 64, 65, 66, 67, 68, 69, 70, 71] rfl rfl [some 0, some 1, some 2, some 3, some 4, some 5, some 6, some 7, some 8, some 9, some 10, some 11, some 12, some 13, some 14, some 15, some 16, some 17, some 18, some 19, some 20, some 21, some 22, some 23, some 24, some 25, some 26, some 27, some 28, some 29, some 30, some 31, some 32, some 33, some 34, some 35, some 36, some 37, some 38, some 39, some 40, some 41, some 42, some 43, some 44, some 45, some 46, some 47, some 48, some 49, some 50, some 51, some 52, some 53, some 54, some 55, some 56, some 57, some 58, some 59, some 60, some 61, some 62, some 63, some 64, some 65, some 66, some 67, some 68, some 69, some 70, some 71] (by decide +kernel) (Nat.le_of_ble_eq_true rfl) (fun _ => rfl) (fun _ => rfl) (fun _ => rfl) rfl rfl rfl rfl (hl.1) rfl (Nat.le_of_ble_eq_true rfl) dX11_copy_116 ⟨Nat.zero_le _, Nat.zero_le _⟩ (fun r249 σ248 H locs hf hP hD hS => ?_)
                  obtain ⟨hi1, hi2⟩ := Prod.mk.inj (Option.some.inj hf)
                  subst hi1
                  subst hi2
                  exact hret _ _ _ _ dX11_copy_119 rfl hP hS
                refine lv_if_eq (tgt := 113) hx hb dX11_copy_94 (by decide) (fun h250 => ?_) (fun h250 => ?_)
                · have hf := (if_pos h250).symm.trans hf
                  exact Jj247  _ _ _ hP hD hS (lv_sub hl [0] rfl) hf
                · have hf := (if_neg h250).symm.trans hf
                  refine lv_aload_n hx hb dX11_copy_97 rfl (lv_at hl 0 rfl) ?_
                  refine va_get (D := D) (ci := 11) (C := RX11) (T := TX11) (N := 9) hx hb hts fwX11_copy_X11 hown hK hP 0 rfl rfl 6 (by decide) (hts _ (List.mem_of_getElem? (i := 2) rfl)) (fun _ h9 => h9) rfl dX11_copy_98 ?_
                  refine lv_iload_n hx hb dX11_copy_101 rfl (lv_at hl 3 rfl) ?_
                  refine va_aldq hx hb hK hP 43 2 rfl rfl (vp_in_iff.mpr (by decide)) dX11_copy_102 ?_
                  refine W.eq (g2 := F0 m 103 ls [.ref (ad 50)]) rfl ?_
                  refine lv_iload hx hb dX11_copy_103 (lv_at hl 4 rfl) ?_
                  refine lv_iload hx hb dX11_copy_105 (lv_at hl 5 rfl) ?_
                  refine q_cVr (wf := (wX11 cI cZ cS ad)) (wc := wX6 cI cZ cS (fun i => ad (50 + i))) (rest := []) ⟨hx, hb, hml, hown, hts⟩ hK hZ hA hP hD hS hf (fun x ho => kX6_hasRange l D cI cZ cS zz (fun i => ad (50 + i)) (q_sb σ 50) a4 a5 x ho) (cwV 2 hts gX11_copy_X6_hasRange rfl rfl rfl ndX6_hasRange ⟨Nat.le_of_ble_eq_true rfl, Nat.le_of_ble_eq_true rfl⟩) [50, 51] rfl rfl rfl rfl rfl rfl (hl.1) rfl (Nat.le_of_ble_eq_true rfl) dX11_copy_107 ⟨Nat.zero_le _, Nat.zero_le _⟩ (fun r251 H locs hf hP hD hS => ?_)
                  refine lv_if_ne (tgt := 120) hx hb dX11_copy_110 (by decide) (fun h252 => ?_) (fun h252 => ?_)
                  · have hf := (if_neg h252).symm.trans hf
                    refine lv_aload_n hx hb dX11_copy_120 rfl (lv_at hl 0 rfl) ?_
                    refine va_get (D := D) (ci := 11) (C := RX11) (T := TX11) (N := 9) hx hb hts fwX11_copy_X11 hown hK hP 0 rfl rfl 6 (by decide) (hts _ (List.mem_of_getElem? (i := 2) rfl)) (fun _ h9 => h9) rfl dX11_copy_121 ?_
                    refine lv_iload_n hx hb dX11_copy_124 rfl (lv_at hl 1 rfl) ?_
                    refine va_aldq hx hb hK hP 43 2 rfl rfl (vp_in_iff.mpr (by decide)) dX11_copy_125 ?_
                    refine W.eq (g2 := F0 m 126 ls [.ref (ad 50)]) rfl ?_
                    refine va_get (D := D) (ci := 6) (C := RX6) (T := TX6) (N := 3) hx hb hts fwX11_copy_X6 hown hK hP 50 rfl rfl 2 (by decide) (hts _ (List.mem_of_getElem? (i := 6) rfl)) (fun _ h9 => h9) rfl dX11_copy_126 ?_
                    refine lv_iload_n hx hb dX11_copy_129 rfl (lv_at hl 2 rfl) ?_
                    refine lv_aload_n hx hb dX11_copy_130 rfl (lv_at hl 0 rfl) ?_
                    refine va_get (D := D) (ci := 11) (C := RX11) (T := TX11) (N := 9) hx hb hts fwX11_copy_X11 hown hK hP 0 rfl rfl 6 (by decide) (hts _ (List.mem_of_getElem? (i := 2) rfl)) (fun _ h9 => h9) rfl dX11_copy_131 ?_
                    refine lv_iload_n hx hb dX11_copy_134 rfl (lv_at hl 3 rfl) ?_
                    refine va_aldq hx hb hK hP 43 2 rfl rfl (vp_in_iff.mpr (by decide)) dX11_copy_135 ?_
                    refine W.eq (g2 := F0 m 136 ls [.ref (ad 50), .int a2, .ref (ad 51)]) rfl ?_
                    refine va_get (D := D) (ci := 6) (C := RX6) (T := TX6) (N := 3) hx hb hts fwX11_copy_X6 hown hK hP 50 rfl rfl 2 (by decide) (hts _ (List.mem_of_getElem? (i := 6) rfl)) (fun _ h9 => h9) rfl dX11_copy_136 ?_
                    refine lv_iload hx hb dX11_copy_139 (lv_at hl 4 rfl) ?_
                    refine lv_iload hx hb dX11_copy_141 (lv_at hl 5 rfl) ?_
                    refine w_copy (D := D) (wf := (wX11 cI cZ cS ad)) (i0 := 51) (i1 := 51) hx hb (hml.trans hl.1.symm) hown (hts _ (List.mem_of_getElem? (i := 7) rfl)) (hts _ (List.mem_of_getElem? (i := 8) rfl)) (hts _ (List.mem_of_getElem? (i := 9) rfl)) (hts _ (List.mem_of_getElem? (i := 10) rfl)) hK hP hD hS 51 51 0 rfl rfl rfl hf (fun _ => rfl) (Nat.le_of_ble_eq_true rfl) (Nat.le_of_ble_eq_true rfl) dX11_copy_143 (fun σ253 H locs hf hP hD hS => ?_)
                    refine lv_iload hx hb dX11_copy_146 (lv_at hl 5 rfl) ?_
                    obtain ⟨hi1, hi2⟩ := Prod.mk.inj (Option.some.inj hf)
                    subst hi1
                    subst hi2
                    exact hret _ _ _ _ dX11_copy_148 rfl hP hS
                  · have hf := (if_pos h252).symm.trans hf
                    exact Jj247  _ _ _ hP hD hS (lv_sub hl [0] rfl) hf
              · have hf := (if_neg h245).symm.trans hf
                refine lv_aload_n hx hb dX11_copy_74 rfl (lv_at hl 0 rfl) ?_
                refine lv_ldcw (v := -1000003) hx hb hown (hts _ (List.mem_of_getElem? (i := 5) rfl)) dX11_copy_75 ?_
                refine q_cVi (wf := (wX11 cI cZ cS ad)) (wc := wX11 cI cZ cS ad) (rest := []) ⟨hx, hb, hml, hown, hts⟩ hK hZ hA hP hD hS hf (fun x τ ho => kX11_tell l D cI cZ cS zz ad σ (-1000003 : Int32) x τ ho) (cwV 1 hts gX11_copy_X11_tell rfl rfl rfl ndX11_tell ⟨Nat.le_of_ble_eq_true rfl, Nat.le_of_ble_eq_true rfl⟩) [0, 1, 2, 3, 4, 5, 6, 7, 8, 9, 10, 11, 12, 13, 14, 15, 16, 17, 18, 19, 20, 21, 22, 23, 24, 25, 26, 27, 28, 29, 30, 31, 32, 33, 34, 35, 36, 37, 38, 39, 40, 41, 42, 43, 44, 45, 46, 47, 48, 49, 50, 51, 52, 53, 54, 55, 56, 57, 58, 59, 60, 61, 62, 63, 64, 65, 66, 67, 68, 69, 70, 71] rfl rfl [some 0, some 1, some 2, some 3, some 4, some 5, some 6, some 7, some 8, some 9, some 10, some 11, some 12, some 13, some 14, some 15, some 16, some 17, some 18, some 19, some 20, some 21, some 22, some 23, some 24, some 25, some 26, some 27, some 28, some 29, some 30, some 31, some 32, some 33, some 34, some 35, some 36, some 37, some 38, some 39, some 40, some 41, some 42, some 43, some 44, some 45, some 46, some 47, some 48, some 49, some 50, some 51, some 52, some 53, some 54, some 55, some 56, some 57, some 58, some 59, some 60, some 61, some 62, some 63, some 64, some 65, some 66, some 67, some 68, some 69, some 70, some 71] (by decide +kernel) (Nat.le_of_ble_eq_true rfl) (fun _ => rfl) (fun _ => rfl) (fun _ => rfl) rfl rfl rfl rfl (hl.1) rfl (Nat.le_of_ble_eq_true rfl) dX11_copy_78 ⟨Nat.zero_le _, Nat.zero_le _⟩ (fun r255 σ254 H locs hf hP hD hS => ?_)
                obtain ⟨hi1, hi2⟩ := Prod.mk.inj (Option.some.inj hf)
                subst hi1
                subst hi2
                exact hret _ _ _ _ dX11_copy_81 rfl hP hS
            · have hf := (if_neg h244).symm.trans hf
              exact Jj196  _ _ _ hP hD hS (lv_sub hl [0] rfl) hf
          have hf := (if_neg h242).symm.trans hf
          exact q_no hf
      have hf := (if_neg h194).symm.trans hf
      exact q_no hf
    · have hf := (if_pos h7).symm.trans hf
      exact Jj2  _ _ _ hP hD hS (lv_sub hl [0] rfl) hf
def pX11_load (σ : SS) (a1 : Int32) : Option (Int32 × SS) := q_cr (pX11_isSheet a1) (fun (r1 : Int32) => (if r1 = (0 : Int32) then q_ci (pX11_tell σ (-1000001 : Int32)) (fun (τ : SS) => τ) (fun (r84 : Int32) (σ83 : SS) => some (r84, σ83)) else (if a1 = (0 : Int32) then q_cr (pX6_isMissing (q_sb σ 44)) (fun (r4 : Int32) => (if r4 = (0 : Int32) then q_lp (fun _ _ => none) (fun (c8 : SS → Int32 → Option (Int32 × SS)) (σ7 : SS) (x2_6 : Int32) => q_lt (some (x2_6, σ7)) (fun j11 => (if (σ7 44 1) ≤ x2_6 then j11 else q_rd (σ7 45) 40 x2_6 (fun (v13 : Int32) => q_rd k_least 8 (0 : Int32) (fun (v14 : Int32) => q_rd k_most 8 (0 : Int32) (fun (v15 : Int32) => q_cr (pX11_within v13 v14 v15) (fun (r16 : Int32) => (if r16 = (0 : Int32) then j11 else q_rd (σ7 45) 40 x2_6 (fun (v18 : Int32) => q_lt (su σ7 3 6 v18) (fun (σ19 : SS) => q_cs (pX0_passMinute (q_sb σ19 3)) (fun (τ : SS) => (q_em σ19 3 0 13 τ)) (fun (σ20 : SS) => c8 σ20 (x2_6 + (1 : Int32))))))))))))) q_fu σ (0 : Int32) else q_ci (pX11_tell σ (-1000006 : Int32)) (fun (τ : SS) => τ) (fun (r22 : Int32) (σ21 : SS) => some (r22, σ21)))) else (if a1 = (1 : Int32) then q_cr (pX6_isMissing (q_sb σ 46)) (fun (r24 : Int32) => (if r24 = (0 : Int32) then q_lp (fun _ _ => none) (fun (c28 : SS → Int32 → Option (Int32 × SS)) (σ27 : SS) (x2_26 : Int32) => q_lt (some (x2_26, σ27)) (fun j31 => (if (σ27 46 1) ≤ x2_26 then j31 else q_rd (σ27 47) 40 x2_26 (fun (v33 : Int32) => q_rd k_least 8 (0 : Int32) (fun (v34 : Int32) => q_rd k_most 8 (0 : Int32) (fun (v35 : Int32) => q_cr (pX11_within v33 v34 v35) (fun (r36 : Int32) => (if r36 = (0 : Int32) then j31 else q_rd (σ27 47) 40 x2_26 (fun (v38 : Int32) => q_lt (su σ27 3 6 v38) (fun (σ39 : SS) => q_cs (pX0_passMinute (q_sb σ39 3)) (fun (τ : SS) => (q_em σ39 3 0 13 τ)) (fun (σ40 : SS) => c28 σ40 (x2_26 + (1 : Int32))))))))))))) q_fu σ (0 : Int32) else q_ci (pX11_tell σ (-1000006 : Int32)) (fun (τ : SS) => τ) (fun (r42 : Int32) (σ41 : SS) => some (r42, σ41)))) else (if a1 = (2 : Int32) then q_cr (pX6_isMissing (q_sb σ 48)) (fun (r44 : Int32) => (if r44 = (0 : Int32) then q_lp (fun _ _ => none) (fun (c48 : SS → Int32 → Option (Int32 × SS)) (σ47 : SS) (x2_46 : Int32) => q_lt (some (x2_46, σ47)) (fun j51 => (if (σ47 48 1) ≤ x2_46 then j51 else q_rd (σ47 49) 40 x2_46 (fun (v53 : Int32) => q_rd k_least 8 (0 : Int32) (fun (v54 : Int32) => q_rd k_most 8 (0 : Int32) (fun (v55 : Int32) => q_cr (pX11_within v53 v54 v55) (fun (r56 : Int32) => (if r56 = (0 : Int32) then j51 else q_rd (σ47 49) 40 x2_46 (fun (v58 : Int32) => q_lt (su σ47 3 6 v58) (fun (σ59 : SS) => q_cs (pX0_passMinute (q_sb σ59 3)) (fun (τ : SS) => (q_em σ59 3 0 13 τ)) (fun (σ60 : SS) => c48 σ60 (x2_46 + (1 : Int32))))))))))))) q_fu σ (0 : Int32) else q_ci (pX11_tell σ (-1000006 : Int32)) (fun (τ : SS) => τ) (fun (r62 : Int32) (σ61 : SS) => some (r62, σ61)))) else (if a1 = (3 : Int32) then q_cr (pX6_isMissing (q_sb σ 50)) (fun (r64 : Int32) => (if r64 = (0 : Int32) then q_lp (fun _ _ => none) (fun (c68 : SS → Int32 → Option (Int32 × SS)) (σ67 : SS) (x2_66 : Int32) => q_lt (some (x2_66, σ67)) (fun j71 => (if (σ67 50 1) ≤ x2_66 then j71 else q_rd (σ67 51) 40 x2_66 (fun (v73 : Int32) => q_rd k_least 8 (0 : Int32) (fun (v74 : Int32) => q_rd k_most 8 (0 : Int32) (fun (v75 : Int32) => q_cr (pX11_within v73 v74 v75) (fun (r76 : Int32) => (if r76 = (0 : Int32) then j71 else q_rd (σ67 51) 40 x2_66 (fun (v78 : Int32) => q_lt (su σ67 3 6 v78) (fun (σ79 : SS) => q_cs (pX0_passMinute (q_sb σ79 3)) (fun (τ : SS) => (q_em σ79 3 0 13 τ)) (fun (σ80 : SS) => c68 σ80 (x2_66 + (1 : Int32))))))))))))) q_fu σ (0 : Int32) else q_ci (pX11_tell σ (-1000006 : Int32)) (fun (τ : SS) => τ) (fun (r82 : Int32) (σ81 : SS) => some (r82, σ81)))) else none))))))
theorem fwX11_load_X0 : ∀ w ∈ wsX00, w ∈ wsX11_load := fun _ h => List.mem_cons_of_mem _ (List.mem_append_left _ (List.mem_append_left _ (List.mem_append_left _ (List.mem_append_right _ h))))
theorem fwX11_load_X11 : ∀ w ∈ wsX110, w ∈ wsX11_load := fun _ h => List.mem_cons_of_mem _ (List.mem_append_left _ (List.mem_append_left _ (List.mem_append_left _ (List.mem_append_left _ (List.mem_append_left _ (List.mem_append_left _ (List.mem_append_right _ h)))))))
theorem fwX11_load_X2 : ∀ w ∈ wsX20, w ∈ wsX11_load := fun _ h => List.mem_cons_of_mem _ (List.mem_append_left _ (List.mem_append_left _ (List.mem_append_left _ (List.mem_append_left _ (List.mem_append_right _ h)))))
theorem fwX11_load_X6 : ∀ w ∈ wsX60, w ∈ wsX11_load := fun _ h => List.mem_cons_of_mem _ (List.mem_append_left _ (List.mem_append_left _ (List.mem_append_left _ (List.mem_append_left _ (List.mem_append_left _ (List.mem_append_right _ h))))))
abbrev rmX11_load : Room := { frames := 4, cells := 0, slots := 0, locals := 92 }
set_option maxHeartbeats 4000000 in
set_option maxRecDepth 100000 in
theorem kX11_load (l : Launch) (D : va_G) (cI cZ cS : ClassId) (zz : ZT) (ad : Nat → Nat) (σ : SS) (a1 : Int32) (rr : Int32) (σr : SS) (hf : pX11_load σ a1 = some (rr, σr)) : CI l yX11_load wsX11_load rmX11_load D (K3 cI cZ cS) zz [.ref (ad 0), .int a1] (wX11 cI cZ cS ad σ) (wX11 cI cZ cS ad σr) rr := by
  refine q_ofI (cc := cX11_load) (maxL := 3) (ty := .int) (by decide) rfl (Nat.le_of_ble_eq_true rfl) ?_
  intro p e s m below meth c Q A ls hx hb hml hown hts hK hZ hA hP hD hS hl hret
  have hl : lv_has ls 3 [(0, .ref (ad 0)), (1, .int a1)] := hl
  unfold pX11_load at hf
  refine lv_iload_n hx hb dX11_load_0 rfl (lv_at hl 1 rfl) ?_
  refine q_cSr (wf := (wX11 cI cZ cS ad)) (rest := []) ⟨hx, hb, hml, hown, hts⟩ hK hZ hA hP hD hS hf (fun x ho => kX11_isSheet l D cI cZ cS zz a1 x ho) (va_cwS 1 hts gX11_load_X11_isSheet rfl rfl rfl ndX11_isSheet.2 ⟨Nat.le_of_ble_eq_true rfl, Nat.le_of_ble_eq_true rfl⟩) rfl (hl.1) rfl (Nat.le_of_ble_eq_true rfl) dX11_load_1 ⟨Nat.zero_le _, Nat.zero_le _⟩ (fun r1 H locs hf hP hD hS => ?_)
  refine lv_if_ne (tgt := 14) hx hb dX11_load_4 (by decide) (fun h2 => ?_) (fun h2 => ?_)
  · have hf := (if_neg h2).symm.trans hf
    refine lv_aload_n hx hb dX11_load_14 rfl (lv_at hl 0 rfl) ?_
    refine va_get (D := D) (ci := 11) (C := RX11) (T := TX11) (N := 9) hx hb hts fwX11_load_X11 hown hK hP 0 rfl rfl 6 (by decide) (hts _ (List.mem_of_getElem? (i := 2) rfl)) (fun _ h9 => h9) rfl dX11_load_15 ?_
    refine lv_iload_n hx hb dX11_load_18 rfl (lv_at hl 1 rfl) ?_
    by_cases h3 : a1 = (0 : Int32)
    · have hfh3 := (if_pos h3).symm.trans hf
      have hlh3 := hl
      subst h3
      have hf := hfh3
      have hl : lv_has ls 3 [(0, .ref (ad 0)), (1, .int (0 : Int32))] := hlh3
      refine va_aldq hx hb hK hP 43 2 rfl rfl (vp_in_iff.mpr (by decide)) dX11_load_19 ?_
      refine W.eq (g2 := F0 m 20 ls [.ref (ad 44)]) rfl ?_
      refine q_cVr (wf := (wX11 cI cZ cS ad)) (wc := wX6 cI cZ cS (fun i => ad (44 + i))) (rest := []) ⟨hx, hb, hml, hown, hts⟩ hK hZ hA hP hD hS hf (fun x ho => kX6_isMissing l D cI cZ cS zz (fun i => ad (44 + i)) (q_sb σ 44) x ho) (cwV 0 hts gX11_load_X6_isMissing rfl rfl rfl ndX6_isMissing ⟨Nat.le_of_ble_eq_true rfl, Nat.le_of_ble_eq_true rfl⟩) [44, 45] rfl rfl rfl rfl rfl rfl (hl.1) rfl (Nat.le_of_ble_eq_true rfl) dX11_load_20 ⟨Nat.zero_le _, Nat.zero_le _⟩ (fun r4 H locs hf hP hD hS => ?_)
      refine lv_if_eq (tgt := 34) hx hb dX11_load_23 (by decide) (fun h5 => ?_) (fun h5 => ?_)
      · have hf := (if_pos h5).symm.trans hf
        refine lv_iconst (v := 0) hx hb dX11_load_34 (by decide) ?_
        refine lv_istore_n (lv' := [(2, .int (0 : Int32)), (0, .ref (ad 0)), (1, .int (0 : Int32))]) hx hb dX11_load_35 rfl hl (by decide) rfl (fun ls hl => ?_)
        refine q_lp_go (f := fun (zf : SS → Int32 → Option (Int32 × SS)) => zf σ (0 : Int32)) hf (fun z9 ez9 hf => ?_)
        have Lz9 : ∀ (n10 : Nat) (σ7 : SS) (x2_6 : Int32) (H : Heap) (locs : List Loc) (ls : Array Slot), va_P D vwCl ((wX11 cI cZ cS ad) σ7) H → va_D A ((wX11 cI cZ cS ad) σ7) → va_S A s.heap H locs → lv_has ls 3 [(0, .ref (ad 0)), (1, .int (0 : Int32)), (2, .int x2_6)] → q_lp (fun _ _ => none) z9 n10 σ7 x2_6 = some (rr, σr) → W p l e rmX11_load s m ([.ref (ad 0), .int (0 : Int32)] : List Value).toArray below meth c H locs 0 0 Q (F0 m 36 ls []) := by
          intro n10
          induction n10 with
          | zero => exact fun _ _ _ _ _ _ _ _ _ hf => q_no hf
          | succ n10 ihz9 =>
            intro σ7 x2_6 H locs ls hP hD hS hl hf
            have hf := (congrFun (congrFun (congrFun ez9 (q_lp (fun _ _ => none) z9 n10)) σ7) x2_6).symm.trans hf
            refine lv_iload_n hx hb dX11_load_36 rfl (lv_at hl 2 rfl) ?_
            refine lv_aload_n hx hb dX11_load_37 rfl (lv_at hl 0 rfl) ?_
            refine va_get (D := D) (ci := 11) (C := RX11) (T := TX11) (N := 9) hx hb hts fwX11_load_X11 hown hK hP 0 rfl rfl 6 (by decide) (hts _ (List.mem_of_getElem? (i := 2) rfl)) (fun _ h9 => h9) rfl dX11_load_38 ?_
            refine lv_iload_n hx hb dX11_load_41 rfl (lv_at hl 1 rfl) ?_
            refine va_aldq hx hb hK hP 43 2 rfl rfl (vp_in_iff.mpr (by decide)) dX11_load_42 ?_
            refine W.eq (g2 := F0 m 43 ls [.ref (ad 44), .int x2_6]) rfl ?_
            refine va_get (D := D) (ci := 6) (C := RX6) (T := TX6) (N := 3) hx hb hts fwX11_load_X6 hown hK hP 44 rfl rfl 1 (by decide) (hts _ (List.mem_of_getElem? (i := 4) rfl)) (fun _ h9 => h9) rfl dX11_load_43 ?_
            refine q_lt_go hf (fun j11 ej11 hf => ?_)
            have Jj11 : ∀ (H : Heap) (locs : List Loc) (ls : Array Slot), va_P D vwCl ((wX11 cI cZ cS ad) σ7) H → va_D A ((wX11 cI cZ cS ad) σ7) → va_S A s.heap H locs → lv_has ls 3 [(2, .int x2_6)] → j11 = some (rr, σr) → W p l e rmX11_load s m ([.ref (ad 0), .int (0 : Int32)] : List Value).toArray below meth c H locs 0 0 Q (F0 m 113 ls []) := by
              intro  H locs ls hP hD hS hl hf
              have hf := ej11.symm.trans hf
              refine lv_iload_n hx hb dX11_load_113 rfl (lv_at hl 0 rfl) ?_
              obtain ⟨hi1, hi2⟩ := Prod.mk.inj (Option.some.inj hf)
              subst hi1
              subst hi2
              exact hret _ _ _ _ dX11_load_114 rfl hP hS
            refine lv_icmp_ge (tgt := 113) hx hb dX11_load_46 (by decide) (fun h12 => ?_) (fun h12 => ?_)
            · have hf := (if_pos h12).symm.trans hf
              exact Jj11  _ _ _ hP hD hS (lv_sub hl [2] rfl) hf
            · have hf := (if_neg h12).symm.trans hf
              refine lv_aload_n hx hb dX11_load_49 rfl (lv_at hl 0 rfl) ?_
              refine va_get (D := D) (ci := 11) (C := RX11) (T := TX11) (N := 9) hx hb hts fwX11_load_X11 hown hK hP 0 rfl rfl 6 (by decide) (hts _ (List.mem_of_getElem? (i := 2) rfl)) (fun _ h9 => h9) rfl dX11_load_50 ?_
              refine lv_iload_n hx hb dX11_load_53 rfl (lv_at hl 1 rfl) ?_
              refine va_aldq hx hb hK hP 43 2 rfl rfl (vp_in_iff.mpr (by decide)) dX11_load_54 ?_
              refine W.eq (g2 := F0 m 55 ls [.ref (ad 44)]) rfl ?_
              refine va_get (D := D) (ci := 6) (C := RX6) (T := TX6) (N := 3) hx hb hts fwX11_load_X6 hown hK hP 44 rfl rfl 2 (by decide) (hts _ (List.mem_of_getElem? (i := 5) rfl)) (fun _ h9 => h9) rfl dX11_load_55 ?_
              refine lv_iload_n hx hb dX11_load_58 rfl (lv_at hl 2 rfl) ?_
              refine w_iald (wf := (wX11 cI cZ cS ad)) hx hb hK hP 45 0 rfl rfl hf dX11_load_59 (fun v13 hf => ?_)
              refine va_gets hx hb hZ.2.1.1 hS hown (hts _ (List.mem_of_getElem? (i := 6) rfl)) (fun _ h9 => h9) dX11_load_60 ?_
              refine lv_iconst (v := 0) hx hb dX11_load_63 (by decide) ?_
              refine w_tald hx hb hZ.2.1 hS hf dX11_load_64 (fun v14 hf => ?_)
              refine va_gets hx hb hZ.2.2.1.1 hS hown (hts _ (List.mem_of_getElem? (i := 7) rfl)) (fun _ h9 => h9) dX11_load_65 ?_
              refine lv_iconst (v := 0) hx hb dX11_load_68 (by decide) ?_
              refine w_tald hx hb hZ.2.2.1 hS hf dX11_load_69 (fun v15 hf => ?_)
              refine q_cSr (wf := (wX11 cI cZ cS ad)) (rest := []) ⟨hx, hb, hml, hown, hts⟩ hK hZ hA hP hD hS hf (fun x ho => kX11_within l D cI cZ cS zz v13 v14 v15 x ho) (va_cwS 3 hts gX11_load_X11_within rfl rfl rfl ndX11_within.2 ⟨Nat.le_of_ble_eq_true rfl, Nat.le_of_ble_eq_true rfl⟩) rfl (hl.1) rfl (Nat.le_of_ble_eq_true rfl) dX11_load_70 ⟨Nat.zero_le _, Nat.zero_le _⟩ (fun r16 H locs hf hP hD hS => ?_)
              refine lv_if_eq (tgt := 113) hx hb dX11_load_73 (by decide) (fun h17 => ?_) (fun h17 => ?_)
              · have hf := (if_pos h17).symm.trans hf
                exact Jj11  _ _ _ hP hD hS (lv_sub hl [2] rfl) hf
              · have hf := (if_neg h17).symm.trans hf
                refine lv_aload_n hx hb dX11_load_76 rfl (lv_at hl 0 rfl) ?_
                refine va_get (D := D) (ci := 11) (C := RX11) (T := TX11) (N := 9) hx hb hts fwX11_load_X11 hown hK hP 0 rfl rfl 1 (by decide) (hts _ (List.mem_of_getElem? (i := 8) rfl)) (fun _ h9 => h9) rfl dX11_load_77 ?_
                refine va_get (D := D) (ci := 2) (C := RX2) (T := TX2) (N := 4) hx hb hts fwX11_load_X2 hown hK hP 2 rfl rfl 0 (by decide) (hts _ (List.mem_of_getElem? (i := 9) rfl)) (fun _ h9 => h9) rfl dX11_load_80 ?_
                refine lv_aload_n hx hb dX11_load_83 rfl (lv_at hl 0 rfl) ?_
                refine va_get (D := D) (ci := 11) (C := RX11) (T := TX11) (N := 9) hx hb hts fwX11_load_X11 hown hK hP 0 rfl rfl 6 (by decide) (hts _ (List.mem_of_getElem? (i := 2) rfl)) (fun _ h9 => h9) rfl dX11_load_84 ?_
                refine lv_iload_n hx hb dX11_load_87 rfl (lv_at hl 1 rfl) ?_
                refine va_aldq hx hb hK hP 43 2 rfl rfl (vp_in_iff.mpr (by decide)) dX11_load_88 ?_
                refine W.eq (g2 := F0 m 89 ls [.ref (ad 44), .ref (ad 3)]) rfl ?_
                refine va_get (D := D) (ci := 6) (C := RX6) (T := TX6) (N := 3) hx hb hts fwX11_load_X6 hown hK hP 44 rfl rfl 2 (by decide) (hts _ (List.mem_of_getElem? (i := 5) rfl)) (fun _ h9 => h9) rfl dX11_load_89 ?_
                refine lv_iload_n hx hb dX11_load_92 rfl (lv_at hl 2 rfl) ?_
                refine w_iald (wf := (wX11 cI cZ cS ad)) hx hb hK hP 45 0 rfl rfl hf dX11_load_93 (fun v18 hf => ?_)
                refine w_put (D := D) (wf := (wX11 cI cZ cS ad)) (cid := 3) (ci := 0) (C := RX0) (T := TX0) (N := 13) hx hb hts fwX11_load_X0 tyX0 tyX0_ok nmX0 hown hK hP hD hS 3 rfl rfl 6 (by decide) (hts _ (List.mem_of_getElem? (i := 10) rfl)) (fun _ h9 => h9) rfl (tyX0_ok 6 (by decide)) (Nat.le_of_ble_eq_true rfl) hf rfl dX11_load_94 (fun σ19 H locs hf hP hD hS => ?_)
                refine lv_aload_n hx hb dX11_load_97 rfl (lv_at hl 0 rfl) ?_
                refine va_get (D := D) (ci := 11) (C := RX11) (T := TX11) (N := 9) hx hb hts fwX11_load_X11 hown hK hP 0 rfl rfl 1 (by decide) (hts _ (List.mem_of_getElem? (i := 8) rfl)) (fun _ h9 => h9) rfl dX11_load_98 ?_
                refine va_get (D := D) (ci := 2) (C := RX2) (T := TX2) (N := 4) hx hb hts fwX11_load_X2 hown hK hP 2 rfl rfl 0 (by decide) (hts _ (List.mem_of_getElem? (i := 9) rfl)) (fun _ h9 => h9) rfl dX11_load_101 ?_
                refine q_cVv (wf := (wX11 cI cZ cS ad)) (wc := wX0 cI cZ cS (fun i => ad (3 + i))) (rest := []) ⟨hx, hb, hml, hown, hts⟩ hK hZ hA hP hD hS hf (fun x ho => kX0_passMinute l D cI cZ cS zz (fun i => ad (3 + i)) (q_sb σ19 3) x ho) (cwV 0 hts gX11_load_X0_passMinute rfl rfl rfl ndX0_passMinute ⟨Nat.le_of_ble_eq_true rfl, Nat.le_of_ble_eq_true rfl⟩) [3, 4, 5, 6, 7, 8, 9, 10, 11, 12, 13, 14, 15] rfl rfl [none, none, none, some 0, some 1, some 2, some 3, some 4, some 5, some 6, some 7, some 8, some 9, some 10, some 11, some 12, none, none, none, none, none, none, none, none, none, none, none, none, none, none, none, none, none, none, none, none, none, none, none, none, none, none, none, none, none, none, none, none, none, none, none, none, none, none, none, none, none, none, none, none, none, none, none, none, none, none, none, none, none, none, none, none] (by decide +kernel) (Nat.le_of_ble_eq_true rfl) (fun _ => rfl) (fun _ => rfl) (fun _ => rfl) rfl rfl rfl rfl (hl.1) rfl (Nat.le_of_ble_eq_true rfl) dX11_load_104 ⟨Nat.zero_le _, Nat.zero_le _⟩ (fun σ20 H locs hf hP hD hS => ?_)
                refine lv_iinc (v := (x2_6 + (1 : Int32))) (lv' := [(2, .int (x2_6 + (1 : Int32))), (0, .ref (ad 0)), (1, .int (0 : Int32))]) hx hb dX11_load_107 hl (k := 2) rfl rfl (by decide) rfl (fun ls hl => ?_)
                refine lv_goto (tgt := 36) hx hb dX11_load_110 (by decide) ?_
                exact ihz9 σ20 (x2_6 + (1 : Int32)) _ _ _ hP hD hS (lv_sub hl [1, 2, 0] rfl) hf
        exact Lz9 q_fu σ (0 : Int32) _ _ _ hP hD hS (lv_sub hl [1, 2, 0] rfl) hf
      · have hf := (if_neg h5).symm.trans hf
        refine lv_aload_n hx hb dX11_load_26 rfl (lv_at hl 0 rfl) ?_
        refine lv_ldcw (v := -1000006) hx hb hown (hts _ (List.mem_of_getElem? (i := 3) rfl)) dX11_load_27 ?_
        refine q_cVi (wf := (wX11 cI cZ cS ad)) (wc := wX11 cI cZ cS ad) (rest := []) ⟨hx, hb, hml, hown, hts⟩ hK hZ hA hP hD hS hf (fun x τ ho => kX11_tell l D cI cZ cS zz ad σ (-1000006 : Int32) x τ ho) (cwV 1 hts gX11_load_X11_tell rfl rfl rfl ndX11_tell ⟨Nat.le_of_ble_eq_true rfl, Nat.le_of_ble_eq_true rfl⟩) [0, 1, 2, 3, 4, 5, 6, 7, 8, 9, 10, 11, 12, 13, 14, 15, 16, 17, 18, 19, 20, 21, 22, 23, 24, 25, 26, 27, 28, 29, 30, 31, 32, 33, 34, 35, 36, 37, 38, 39, 40, 41, 42, 43, 44, 45, 46, 47, 48, 49, 50, 51, 52, 53, 54, 55, 56, 57, 58, 59, 60, 61, 62, 63, 64, 65, 66, 67, 68, 69, 70, 71] rfl rfl [some 0, some 1, some 2, some 3, some 4, some 5, some 6, some 7, some 8, some 9, some 10, some 11, some 12, some 13, some 14, some 15, some 16, some 17, some 18, some 19, some 20, some 21, some 22, some 23, some 24, some 25, some 26, some 27, some 28, some 29, some 30, some 31, some 32, some 33, some 34, some 35, some 36, some 37, some 38, some 39, some 40, some 41, some 42, some 43, some 44, some 45, some 46, some 47, some 48, some 49, some 50, some 51, some 52, some 53, some 54, some 55, some 56, some 57, some 58, some 59, some 60, some 61, some 62, some 63, some 64, some 65, some 66, some 67, some 68, some 69, some 70, some 71] (by decide +kernel) (Nat.le_of_ble_eq_true rfl) (fun _ => rfl) (fun _ => rfl) (fun _ => rfl) rfl rfl rfl rfl (hl.1) rfl (Nat.le_of_ble_eq_true rfl) dX11_load_30 ⟨Nat.zero_le _, Nat.zero_le _⟩ (fun r22 σ21 H locs hf hP hD hS => ?_)
        obtain ⟨hi1, hi2⟩ := Prod.mk.inj (Option.some.inj hf)
        subst hi1
        subst hi2
        exact hret _ _ _ _ dX11_load_33 rfl hP hS
    have hf := (if_neg h3).symm.trans hf
    by_cases h23 : a1 = (1 : Int32)
    · have hfh23 := (if_pos h23).symm.trans hf
      have hlh23 := hl
      subst h23
      have hf := hfh23
      have hl : lv_has ls 3 [(0, .ref (ad 0)), (1, .int (1 : Int32))] := hlh23
      refine va_aldq hx hb hK hP 43 2 rfl rfl (vp_in_iff.mpr (by decide)) dX11_load_19 ?_
      refine W.eq (g2 := F0 m 20 ls [.ref (ad 46)]) rfl ?_
      refine q_cVr (wf := (wX11 cI cZ cS ad)) (wc := wX6 cI cZ cS (fun i => ad (46 + i))) (rest := []) ⟨hx, hb, hml, hown, hts⟩ hK hZ hA hP hD hS hf (fun x ho => kX6_isMissing l D cI cZ cS zz (fun i => ad (46 + i)) (q_sb σ 46) x ho) (cwV 0 hts gX11_load_X6_isMissing rfl rfl rfl ndX6_isMissing ⟨Nat.le_of_ble_eq_true rfl, Nat.le_of_ble_eq_true rfl⟩) [46, 47] rfl rfl rfl rfl rfl rfl (hl.1) rfl (Nat.le_of_ble_eq_true rfl) dX11_load_20 ⟨Nat.zero_le _, Nat.zero_le _⟩ (fun r24 H locs hf hP hD hS => ?_)
      refine lv_if_eq (tgt := 34) hx hb dX11_load_23 (by decide) (fun h25 => ?_) (fun h25 => ?_)
      · have hf := (if_pos h25).symm.trans hf
        refine lv_iconst (v := 0) hx hb dX11_load_34 (by decide) ?_
        refine lv_istore_n (lv' := [(2, .int (0 : Int32)), (0, .ref (ad 0)), (1, .int (1 : Int32))]) hx hb dX11_load_35 rfl hl (by decide) rfl (fun ls hl => ?_)
        refine q_lp_go (f := fun (zf : SS → Int32 → Option (Int32 × SS)) => zf σ (0 : Int32)) hf (fun z29 ez29 hf => ?_)
        have Lz29 : ∀ (n30 : Nat) (σ27 : SS) (x2_26 : Int32) (H : Heap) (locs : List Loc) (ls : Array Slot), va_P D vwCl ((wX11 cI cZ cS ad) σ27) H → va_D A ((wX11 cI cZ cS ad) σ27) → va_S A s.heap H locs → lv_has ls 3 [(0, .ref (ad 0)), (1, .int (1 : Int32)), (2, .int x2_26)] → q_lp (fun _ _ => none) z29 n30 σ27 x2_26 = some (rr, σr) → W p l e rmX11_load s m ([.ref (ad 0), .int (1 : Int32)] : List Value).toArray below meth c H locs 0 0 Q (F0 m 36 ls []) := by
          intro n30
          induction n30 with
          | zero => exact fun _ _ _ _ _ _ _ _ _ hf => q_no hf
          | succ n30 ihz29 =>
            intro σ27 x2_26 H locs ls hP hD hS hl hf
            have hf := (congrFun (congrFun (congrFun ez29 (q_lp (fun _ _ => none) z29 n30)) σ27) x2_26).symm.trans hf
            refine lv_iload_n hx hb dX11_load_36 rfl (lv_at hl 2 rfl) ?_
            refine lv_aload_n hx hb dX11_load_37 rfl (lv_at hl 0 rfl) ?_
            refine va_get (D := D) (ci := 11) (C := RX11) (T := TX11) (N := 9) hx hb hts fwX11_load_X11 hown hK hP 0 rfl rfl 6 (by decide) (hts _ (List.mem_of_getElem? (i := 2) rfl)) (fun _ h9 => h9) rfl dX11_load_38 ?_
            refine lv_iload_n hx hb dX11_load_41 rfl (lv_at hl 1 rfl) ?_
            refine va_aldq hx hb hK hP 43 2 rfl rfl (vp_in_iff.mpr (by decide)) dX11_load_42 ?_
            refine W.eq (g2 := F0 m 43 ls [.ref (ad 46), .int x2_26]) rfl ?_
            refine va_get (D := D) (ci := 6) (C := RX6) (T := TX6) (N := 3) hx hb hts fwX11_load_X6 hown hK hP 46 rfl rfl 1 (by decide) (hts _ (List.mem_of_getElem? (i := 4) rfl)) (fun _ h9 => h9) rfl dX11_load_43 ?_
            refine q_lt_go hf (fun j31 ej31 hf => ?_)
            have Jj31 : ∀ (H : Heap) (locs : List Loc) (ls : Array Slot), va_P D vwCl ((wX11 cI cZ cS ad) σ27) H → va_D A ((wX11 cI cZ cS ad) σ27) → va_S A s.heap H locs → lv_has ls 3 [(2, .int x2_26)] → j31 = some (rr, σr) → W p l e rmX11_load s m ([.ref (ad 0), .int (1 : Int32)] : List Value).toArray below meth c H locs 0 0 Q (F0 m 113 ls []) := by
              intro  H locs ls hP hD hS hl hf
              have hf := ej31.symm.trans hf
              refine lv_iload_n hx hb dX11_load_113 rfl (lv_at hl 0 rfl) ?_
              obtain ⟨hi1, hi2⟩ := Prod.mk.inj (Option.some.inj hf)
              subst hi1
              subst hi2
              exact hret _ _ _ _ dX11_load_114 rfl hP hS
            refine lv_icmp_ge (tgt := 113) hx hb dX11_load_46 (by decide) (fun h32 => ?_) (fun h32 => ?_)
            · have hf := (if_pos h32).symm.trans hf
              exact Jj31  _ _ _ hP hD hS (lv_sub hl [2] rfl) hf
            · have hf := (if_neg h32).symm.trans hf
              refine lv_aload_n hx hb dX11_load_49 rfl (lv_at hl 0 rfl) ?_
              refine va_get (D := D) (ci := 11) (C := RX11) (T := TX11) (N := 9) hx hb hts fwX11_load_X11 hown hK hP 0 rfl rfl 6 (by decide) (hts _ (List.mem_of_getElem? (i := 2) rfl)) (fun _ h9 => h9) rfl dX11_load_50 ?_
              refine lv_iload_n hx hb dX11_load_53 rfl (lv_at hl 1 rfl) ?_
              refine va_aldq hx hb hK hP 43 2 rfl rfl (vp_in_iff.mpr (by decide)) dX11_load_54 ?_
              refine W.eq (g2 := F0 m 55 ls [.ref (ad 46)]) rfl ?_
              refine va_get (D := D) (ci := 6) (C := RX6) (T := TX6) (N := 3) hx hb hts fwX11_load_X6 hown hK hP 46 rfl rfl 2 (by decide) (hts _ (List.mem_of_getElem? (i := 5) rfl)) (fun _ h9 => h9) rfl dX11_load_55 ?_
              refine lv_iload_n hx hb dX11_load_58 rfl (lv_at hl 2 rfl) ?_
              refine w_iald (wf := (wX11 cI cZ cS ad)) hx hb hK hP 47 0 rfl rfl hf dX11_load_59 (fun v33 hf => ?_)
              refine va_gets hx hb hZ.2.1.1 hS hown (hts _ (List.mem_of_getElem? (i := 6) rfl)) (fun _ h9 => h9) dX11_load_60 ?_
              refine lv_iconst (v := 0) hx hb dX11_load_63 (by decide) ?_
              refine w_tald hx hb hZ.2.1 hS hf dX11_load_64 (fun v34 hf => ?_)
              refine va_gets hx hb hZ.2.2.1.1 hS hown (hts _ (List.mem_of_getElem? (i := 7) rfl)) (fun _ h9 => h9) dX11_load_65 ?_
              refine lv_iconst (v := 0) hx hb dX11_load_68 (by decide) ?_
              refine w_tald hx hb hZ.2.2.1 hS hf dX11_load_69 (fun v35 hf => ?_)
              refine q_cSr (wf := (wX11 cI cZ cS ad)) (rest := []) ⟨hx, hb, hml, hown, hts⟩ hK hZ hA hP hD hS hf (fun x ho => kX11_within l D cI cZ cS zz v33 v34 v35 x ho) (va_cwS 3 hts gX11_load_X11_within rfl rfl rfl ndX11_within.2 ⟨Nat.le_of_ble_eq_true rfl, Nat.le_of_ble_eq_true rfl⟩) rfl (hl.1) rfl (Nat.le_of_ble_eq_true rfl) dX11_load_70 ⟨Nat.zero_le _, Nat.zero_le _⟩ (fun r36 H locs hf hP hD hS => ?_)
              refine lv_if_eq (tgt := 113) hx hb dX11_load_73 (by decide) (fun h37 => ?_) (fun h37 => ?_)
              · have hf := (if_pos h37).symm.trans hf
                exact Jj31  _ _ _ hP hD hS (lv_sub hl [2] rfl) hf
              · have hf := (if_neg h37).symm.trans hf
                refine lv_aload_n hx hb dX11_load_76 rfl (lv_at hl 0 rfl) ?_
                refine va_get (D := D) (ci := 11) (C := RX11) (T := TX11) (N := 9) hx hb hts fwX11_load_X11 hown hK hP 0 rfl rfl 1 (by decide) (hts _ (List.mem_of_getElem? (i := 8) rfl)) (fun _ h9 => h9) rfl dX11_load_77 ?_
                refine va_get (D := D) (ci := 2) (C := RX2) (T := TX2) (N := 4) hx hb hts fwX11_load_X2 hown hK hP 2 rfl rfl 0 (by decide) (hts _ (List.mem_of_getElem? (i := 9) rfl)) (fun _ h9 => h9) rfl dX11_load_80 ?_
                refine lv_aload_n hx hb dX11_load_83 rfl (lv_at hl 0 rfl) ?_
                refine va_get (D := D) (ci := 11) (C := RX11) (T := TX11) (N := 9) hx hb hts fwX11_load_X11 hown hK hP 0 rfl rfl 6 (by decide) (hts _ (List.mem_of_getElem? (i := 2) rfl)) (fun _ h9 => h9) rfl dX11_load_84 ?_
                refine lv_iload_n hx hb dX11_load_87 rfl (lv_at hl 1 rfl) ?_
                refine va_aldq hx hb hK hP 43 2 rfl rfl (vp_in_iff.mpr (by decide)) dX11_load_88 ?_
                refine W.eq (g2 := F0 m 89 ls [.ref (ad 46), .ref (ad 3)]) rfl ?_
                refine va_get (D := D) (ci := 6) (C := RX6) (T := TX6) (N := 3) hx hb hts fwX11_load_X6 hown hK hP 46 rfl rfl 2 (by decide) (hts _ (List.mem_of_getElem? (i := 5) rfl)) (fun _ h9 => h9) rfl dX11_load_89 ?_
                refine lv_iload_n hx hb dX11_load_92 rfl (lv_at hl 2 rfl) ?_
                refine w_iald (wf := (wX11 cI cZ cS ad)) hx hb hK hP 47 0 rfl rfl hf dX11_load_93 (fun v38 hf => ?_)
                refine w_put (D := D) (wf := (wX11 cI cZ cS ad)) (cid := 3) (ci := 0) (C := RX0) (T := TX0) (N := 13) hx hb hts fwX11_load_X0 tyX0 tyX0_ok nmX0 hown hK hP hD hS 3 rfl rfl 6 (by decide) (hts _ (List.mem_of_getElem? (i := 10) rfl)) (fun _ h9 => h9) rfl (tyX0_ok 6 (by decide)) (Nat.le_of_ble_eq_true rfl) hf rfl dX11_load_94 (fun σ39 H locs hf hP hD hS => ?_)
                refine lv_aload_n hx hb dX11_load_97 rfl (lv_at hl 0 rfl) ?_
                refine va_get (D := D) (ci := 11) (C := RX11) (T := TX11) (N := 9) hx hb hts fwX11_load_X11 hown hK hP 0 rfl rfl 1 (by decide) (hts _ (List.mem_of_getElem? (i := 8) rfl)) (fun _ h9 => h9) rfl dX11_load_98 ?_
                refine va_get (D := D) (ci := 2) (C := RX2) (T := TX2) (N := 4) hx hb hts fwX11_load_X2 hown hK hP 2 rfl rfl 0 (by decide) (hts _ (List.mem_of_getElem? (i := 9) rfl)) (fun _ h9 => h9) rfl dX11_load_101 ?_
                refine q_cVv (wf := (wX11 cI cZ cS ad)) (wc := wX0 cI cZ cS (fun i => ad (3 + i))) (rest := []) ⟨hx, hb, hml, hown, hts⟩ hK hZ hA hP hD hS hf (fun x ho => kX0_passMinute l D cI cZ cS zz (fun i => ad (3 + i)) (q_sb σ39 3) x ho) (cwV 0 hts gX11_load_X0_passMinute rfl rfl rfl ndX0_passMinute ⟨Nat.le_of_ble_eq_true rfl, Nat.le_of_ble_eq_true rfl⟩) [3, 4, 5, 6, 7, 8, 9, 10, 11, 12, 13, 14, 15] rfl rfl [none, none, none, some 0, some 1, some 2, some 3, some 4, some 5, some 6, some 7, some 8, some 9, some 10, some 11, some 12, none, none, none, none, none, none, none, none, none, none, none, none, none, none, none, none, none, none, none, none, none, none, none, none, none, none, none, none, none, none, none, none, none, none, none, none, none, none, none, none, none, none, none, none, none, none, none, none, none, none, none, none, none, none, none, none] (by decide +kernel) (Nat.le_of_ble_eq_true rfl) (fun _ => rfl) (fun _ => rfl) (fun _ => rfl) rfl rfl rfl rfl (hl.1) rfl (Nat.le_of_ble_eq_true rfl) dX11_load_104 ⟨Nat.zero_le _, Nat.zero_le _⟩ (fun σ40 H locs hf hP hD hS => ?_)
                refine lv_iinc (v := (x2_26 + (1 : Int32))) (lv' := [(2, .int (x2_26 + (1 : Int32))), (0, .ref (ad 0)), (1, .int (1 : Int32))]) hx hb dX11_load_107 hl (k := 2) rfl rfl (by decide) rfl (fun ls hl => ?_)
                refine lv_goto (tgt := 36) hx hb dX11_load_110 (by decide) ?_
                exact ihz29 σ40 (x2_26 + (1 : Int32)) _ _ _ hP hD hS (lv_sub hl [1, 2, 0] rfl) hf
        exact Lz29 q_fu σ (0 : Int32) _ _ _ hP hD hS (lv_sub hl [1, 2, 0] rfl) hf
      · have hf := (if_neg h25).symm.trans hf
        refine lv_aload_n hx hb dX11_load_26 rfl (lv_at hl 0 rfl) ?_
        refine lv_ldcw (v := -1000006) hx hb hown (hts _ (List.mem_of_getElem? (i := 3) rfl)) dX11_load_27 ?_
        refine q_cVi (wf := (wX11 cI cZ cS ad)) (wc := wX11 cI cZ cS ad) (rest := []) ⟨hx, hb, hml, hown, hts⟩ hK hZ hA hP hD hS hf (fun x τ ho => kX11_tell l D cI cZ cS zz ad σ (-1000006 : Int32) x τ ho) (cwV 1 hts gX11_load_X11_tell rfl rfl rfl ndX11_tell ⟨Nat.le_of_ble_eq_true rfl, Nat.le_of_ble_eq_true rfl⟩) [0, 1, 2, 3, 4, 5, 6, 7, 8, 9, 10, 11, 12, 13, 14, 15, 16, 17, 18, 19, 20, 21, 22, 23, 24, 25, 26, 27, 28, 29, 30, 31, 32, 33, 34, 35, 36, 37, 38, 39, 40, 41, 42, 43, 44, 45, 46, 47, 48, 49, 50, 51, 52, 53, 54, 55, 56, 57, 58, 59, 60, 61, 62, 63, 64, 65, 66, 67, 68, 69, 70, 71] rfl rfl [some 0, some 1, some 2, some 3, some 4, some 5, some 6, some 7, some 8, some 9, some 10, some 11, some 12, some 13, some 14, some 15, some 16, some 17, some 18, some 19, some 20, some 21, some 22, some 23, some 24, some 25, some 26, some 27, some 28, some 29, some 30, some 31, some 32, some 33, some 34, some 35, some 36, some 37, some 38, some 39, some 40, some 41, some 42, some 43, some 44, some 45, some 46, some 47, some 48, some 49, some 50, some 51, some 52, some 53, some 54, some 55, some 56, some 57, some 58, some 59, some 60, some 61, some 62, some 63, some 64, some 65, some 66, some 67, some 68, some 69, some 70, some 71] (by decide +kernel) (Nat.le_of_ble_eq_true rfl) (fun _ => rfl) (fun _ => rfl) (fun _ => rfl) rfl rfl rfl rfl (hl.1) rfl (Nat.le_of_ble_eq_true rfl) dX11_load_30 ⟨Nat.zero_le _, Nat.zero_le _⟩ (fun r42 σ41 H locs hf hP hD hS => ?_)
        obtain ⟨hi1, hi2⟩ := Prod.mk.inj (Option.some.inj hf)
        subst hi1
        subst hi2
        exact hret _ _ _ _ dX11_load_33 rfl hP hS
    have hf := (if_neg h23).symm.trans hf
    by_cases h43 : a1 = (2 : Int32)
    · have hfh43 := (if_pos h43).symm.trans hf
      have hlh43 := hl
      subst h43
      have hf := hfh43
      have hl : lv_has ls 3 [(0, .ref (ad 0)), (1, .int (2 : Int32))] := hlh43
      refine va_aldq hx hb hK hP 43 2 rfl rfl (vp_in_iff.mpr (by decide)) dX11_load_19 ?_
      refine W.eq (g2 := F0 m 20 ls [.ref (ad 48)]) rfl ?_
      refine q_cVr (wf := (wX11 cI cZ cS ad)) (wc := wX6 cI cZ cS (fun i => ad (48 + i))) (rest := []) ⟨hx, hb, hml, hown, hts⟩ hK hZ hA hP hD hS hf (fun x ho => kX6_isMissing l D cI cZ cS zz (fun i => ad (48 + i)) (q_sb σ 48) x ho) (cwV 0 hts gX11_load_X6_isMissing rfl rfl rfl ndX6_isMissing ⟨Nat.le_of_ble_eq_true rfl, Nat.le_of_ble_eq_true rfl⟩) [48, 49] rfl rfl rfl rfl rfl rfl (hl.1) rfl (Nat.le_of_ble_eq_true rfl) dX11_load_20 ⟨Nat.zero_le _, Nat.zero_le _⟩ (fun r44 H locs hf hP hD hS => ?_)
      refine lv_if_eq (tgt := 34) hx hb dX11_load_23 (by decide) (fun h45 => ?_) (fun h45 => ?_)
      · have hf := (if_pos h45).symm.trans hf
        refine lv_iconst (v := 0) hx hb dX11_load_34 (by decide) ?_
        refine lv_istore_n (lv' := [(2, .int (0 : Int32)), (0, .ref (ad 0)), (1, .int (2 : Int32))]) hx hb dX11_load_35 rfl hl (by decide) rfl (fun ls hl => ?_)
        refine q_lp_go (f := fun (zf : SS → Int32 → Option (Int32 × SS)) => zf σ (0 : Int32)) hf (fun z49 ez49 hf => ?_)
        have Lz49 : ∀ (n50 : Nat) (σ47 : SS) (x2_46 : Int32) (H : Heap) (locs : List Loc) (ls : Array Slot), va_P D vwCl ((wX11 cI cZ cS ad) σ47) H → va_D A ((wX11 cI cZ cS ad) σ47) → va_S A s.heap H locs → lv_has ls 3 [(0, .ref (ad 0)), (1, .int (2 : Int32)), (2, .int x2_46)] → q_lp (fun _ _ => none) z49 n50 σ47 x2_46 = some (rr, σr) → W p l e rmX11_load s m ([.ref (ad 0), .int (2 : Int32)] : List Value).toArray below meth c H locs 0 0 Q (F0 m 36 ls []) := by
          intro n50
          induction n50 with
          | zero => exact fun _ _ _ _ _ _ _ _ _ hf => q_no hf
          | succ n50 ihz49 =>
            intro σ47 x2_46 H locs ls hP hD hS hl hf
            have hf := (congrFun (congrFun (congrFun ez49 (q_lp (fun _ _ => none) z49 n50)) σ47) x2_46).symm.trans hf
            refine lv_iload_n hx hb dX11_load_36 rfl (lv_at hl 2 rfl) ?_
            refine lv_aload_n hx hb dX11_load_37 rfl (lv_at hl 0 rfl) ?_
            refine va_get (D := D) (ci := 11) (C := RX11) (T := TX11) (N := 9) hx hb hts fwX11_load_X11 hown hK hP 0 rfl rfl 6 (by decide) (hts _ (List.mem_of_getElem? (i := 2) rfl)) (fun _ h9 => h9) rfl dX11_load_38 ?_
            refine lv_iload_n hx hb dX11_load_41 rfl (lv_at hl 1 rfl) ?_
            refine va_aldq hx hb hK hP 43 2 rfl rfl (vp_in_iff.mpr (by decide)) dX11_load_42 ?_
            refine W.eq (g2 := F0 m 43 ls [.ref (ad 48), .int x2_46]) rfl ?_
            refine va_get (D := D) (ci := 6) (C := RX6) (T := TX6) (N := 3) hx hb hts fwX11_load_X6 hown hK hP 48 rfl rfl 1 (by decide) (hts _ (List.mem_of_getElem? (i := 4) rfl)) (fun _ h9 => h9) rfl dX11_load_43 ?_
            refine q_lt_go hf (fun j51 ej51 hf => ?_)
            have Jj51 : ∀ (H : Heap) (locs : List Loc) (ls : Array Slot), va_P D vwCl ((wX11 cI cZ cS ad) σ47) H → va_D A ((wX11 cI cZ cS ad) σ47) → va_S A s.heap H locs → lv_has ls 3 [(2, .int x2_46)] → j51 = some (rr, σr) → W p l e rmX11_load s m ([.ref (ad 0), .int (2 : Int32)] : List Value).toArray below meth c H locs 0 0 Q (F0 m 113 ls []) := by
              intro  H locs ls hP hD hS hl hf
              have hf := ej51.symm.trans hf
              refine lv_iload_n hx hb dX11_load_113 rfl (lv_at hl 0 rfl) ?_
              obtain ⟨hi1, hi2⟩ := Prod.mk.inj (Option.some.inj hf)
              subst hi1
              subst hi2
              exact hret _ _ _ _ dX11_load_114 rfl hP hS
            refine lv_icmp_ge (tgt := 113) hx hb dX11_load_46 (by decide) (fun h52 => ?_) (fun h52 => ?_)
            · have hf := (if_pos h52).symm.trans hf
              exact Jj51  _ _ _ hP hD hS (lv_sub hl [2] rfl) hf
            · have hf := (if_neg h52).symm.trans hf
              refine lv_aload_n hx hb dX11_load_49 rfl (lv_at hl 0 rfl) ?_
              refine va_get (D := D) (ci := 11) (C := RX11) (T := TX11) (N := 9) hx hb hts fwX11_load_X11 hown hK hP 0 rfl rfl 6 (by decide) (hts _ (List.mem_of_getElem? (i := 2) rfl)) (fun _ h9 => h9) rfl dX11_load_50 ?_
              refine lv_iload_n hx hb dX11_load_53 rfl (lv_at hl 1 rfl) ?_
              refine va_aldq hx hb hK hP 43 2 rfl rfl (vp_in_iff.mpr (by decide)) dX11_load_54 ?_
              refine W.eq (g2 := F0 m 55 ls [.ref (ad 48)]) rfl ?_
              refine va_get (D := D) (ci := 6) (C := RX6) (T := TX6) (N := 3) hx hb hts fwX11_load_X6 hown hK hP 48 rfl rfl 2 (by decide) (hts _ (List.mem_of_getElem? (i := 5) rfl)) (fun _ h9 => h9) rfl dX11_load_55 ?_
              refine lv_iload_n hx hb dX11_load_58 rfl (lv_at hl 2 rfl) ?_
              refine w_iald (wf := (wX11 cI cZ cS ad)) hx hb hK hP 49 0 rfl rfl hf dX11_load_59 (fun v53 hf => ?_)
              refine va_gets hx hb hZ.2.1.1 hS hown (hts _ (List.mem_of_getElem? (i := 6) rfl)) (fun _ h9 => h9) dX11_load_60 ?_
              refine lv_iconst (v := 0) hx hb dX11_load_63 (by decide) ?_
              refine w_tald hx hb hZ.2.1 hS hf dX11_load_64 (fun v54 hf => ?_)
              refine va_gets hx hb hZ.2.2.1.1 hS hown (hts _ (List.mem_of_getElem? (i := 7) rfl)) (fun _ h9 => h9) dX11_load_65 ?_
              refine lv_iconst (v := 0) hx hb dX11_load_68 (by decide) ?_
              refine w_tald hx hb hZ.2.2.1 hS hf dX11_load_69 (fun v55 hf => ?_)
              refine q_cSr (wf := (wX11 cI cZ cS ad)) (rest := []) ⟨hx, hb, hml, hown, hts⟩ hK hZ hA hP hD hS hf (fun x ho => kX11_within l D cI cZ cS zz v53 v54 v55 x ho) (va_cwS 3 hts gX11_load_X11_within rfl rfl rfl ndX11_within.2 ⟨Nat.le_of_ble_eq_true rfl, Nat.le_of_ble_eq_true rfl⟩) rfl (hl.1) rfl (Nat.le_of_ble_eq_true rfl) dX11_load_70 ⟨Nat.zero_le _, Nat.zero_le _⟩ (fun r56 H locs hf hP hD hS => ?_)
              refine lv_if_eq (tgt := 113) hx hb dX11_load_73 (by decide) (fun h57 => ?_) (fun h57 => ?_)
              · have hf := (if_pos h57).symm.trans hf
                exact Jj51  _ _ _ hP hD hS (lv_sub hl [2] rfl) hf
              · have hf := (if_neg h57).symm.trans hf
                refine lv_aload_n hx hb dX11_load_76 rfl (lv_at hl 0 rfl) ?_
                refine va_get (D := D) (ci := 11) (C := RX11) (T := TX11) (N := 9) hx hb hts fwX11_load_X11 hown hK hP 0 rfl rfl 1 (by decide) (hts _ (List.mem_of_getElem? (i := 8) rfl)) (fun _ h9 => h9) rfl dX11_load_77 ?_
                refine va_get (D := D) (ci := 2) (C := RX2) (T := TX2) (N := 4) hx hb hts fwX11_load_X2 hown hK hP 2 rfl rfl 0 (by decide) (hts _ (List.mem_of_getElem? (i := 9) rfl)) (fun _ h9 => h9) rfl dX11_load_80 ?_
                refine lv_aload_n hx hb dX11_load_83 rfl (lv_at hl 0 rfl) ?_
                refine va_get (D := D) (ci := 11) (C := RX11) (T := TX11) (N := 9) hx hb hts fwX11_load_X11 hown hK hP 0 rfl rfl 6 (by decide) (hts _ (List.mem_of_getElem? (i := 2) rfl)) (fun _ h9 => h9) rfl dX11_load_84 ?_
                refine lv_iload_n hx hb dX11_load_87 rfl (lv_at hl 1 rfl) ?_
                refine va_aldq hx hb hK hP 43 2 rfl rfl (vp_in_iff.mpr (by decide)) dX11_load_88 ?_
                refine W.eq (g2 := F0 m 89 ls [.ref (ad 48), .ref (ad 3)]) rfl ?_
                refine va_get (D := D) (ci := 6) (C := RX6) (T := TX6) (N := 3) hx hb hts fwX11_load_X6 hown hK hP 48 rfl rfl 2 (by decide) (hts _ (List.mem_of_getElem? (i := 5) rfl)) (fun _ h9 => h9) rfl dX11_load_89 ?_
                refine lv_iload_n hx hb dX11_load_92 rfl (lv_at hl 2 rfl) ?_
                refine w_iald (wf := (wX11 cI cZ cS ad)) hx hb hK hP 49 0 rfl rfl hf dX11_load_93 (fun v58 hf => ?_)
                refine w_put (D := D) (wf := (wX11 cI cZ cS ad)) (cid := 3) (ci := 0) (C := RX0) (T := TX0) (N := 13) hx hb hts fwX11_load_X0 tyX0 tyX0_ok nmX0 hown hK hP hD hS 3 rfl rfl 6 (by decide) (hts _ (List.mem_of_getElem? (i := 10) rfl)) (fun _ h9 => h9) rfl (tyX0_ok 6 (by decide)) (Nat.le_of_ble_eq_true rfl) hf rfl dX11_load_94 (fun σ59 H locs hf hP hD hS => ?_)
                refine lv_aload_n hx hb dX11_load_97 rfl (lv_at hl 0 rfl) ?_
                refine va_get (D := D) (ci := 11) (C := RX11) (T := TX11) (N := 9) hx hb hts fwX11_load_X11 hown hK hP 0 rfl rfl 1 (by decide) (hts _ (List.mem_of_getElem? (i := 8) rfl)) (fun _ h9 => h9) rfl dX11_load_98 ?_
                refine va_get (D := D) (ci := 2) (C := RX2) (T := TX2) (N := 4) hx hb hts fwX11_load_X2 hown hK hP 2 rfl rfl 0 (by decide) (hts _ (List.mem_of_getElem? (i := 9) rfl)) (fun _ h9 => h9) rfl dX11_load_101 ?_
                refine q_cVv (wf := (wX11 cI cZ cS ad)) (wc := wX0 cI cZ cS (fun i => ad (3 + i))) (rest := []) ⟨hx, hb, hml, hown, hts⟩ hK hZ hA hP hD hS hf (fun x ho => kX0_passMinute l D cI cZ cS zz (fun i => ad (3 + i)) (q_sb σ59 3) x ho) (cwV 0 hts gX11_load_X0_passMinute rfl rfl rfl ndX0_passMinute ⟨Nat.le_of_ble_eq_true rfl, Nat.le_of_ble_eq_true rfl⟩) [3, 4, 5, 6, 7, 8, 9, 10, 11, 12, 13, 14, 15] rfl rfl [none, none, none, some 0, some 1, some 2, some 3, some 4, some 5, some 6, some 7, some 8, some 9, some 10, some 11, some 12, none, none, none, none, none, none, none, none, none, none, none, none, none, none, none, none, none, none, none, none, none, none, none, none, none, none, none, none, none, none, none, none, none, none, none, none, none, none, none, none, none, none, none, none, none, none, none, none, none, none, none, none, none, none, none, none] (by decide +kernel) (Nat.le_of_ble_eq_true rfl) (fun _ => rfl) (fun _ => rfl) (fun _ => rfl) rfl rfl rfl rfl (hl.1) rfl (Nat.le_of_ble_eq_true rfl) dX11_load_104 ⟨Nat.zero_le _, Nat.zero_le _⟩ (fun σ60 H locs hf hP hD hS => ?_)
                refine lv_iinc (v := (x2_46 + (1 : Int32))) (lv' := [(2, .int (x2_46 + (1 : Int32))), (0, .ref (ad 0)), (1, .int (2 : Int32))]) hx hb dX11_load_107 hl (k := 2) rfl rfl (by decide) rfl (fun ls hl => ?_)
                refine lv_goto (tgt := 36) hx hb dX11_load_110 (by decide) ?_
                exact ihz49 σ60 (x2_46 + (1 : Int32)) _ _ _ hP hD hS (lv_sub hl [1, 2, 0] rfl) hf
        exact Lz49 q_fu σ (0 : Int32) _ _ _ hP hD hS (lv_sub hl [1, 2, 0] rfl) hf
      · have hf := (if_neg h45).symm.trans hf
        refine lv_aload_n hx hb dX11_load_26 rfl (lv_at hl 0 rfl) ?_
        refine lv_ldcw (v := -1000006) hx hb hown (hts _ (List.mem_of_getElem? (i := 3) rfl)) dX11_load_27 ?_
        refine q_cVi (wf := (wX11 cI cZ cS ad)) (wc := wX11 cI cZ cS ad) (rest := []) ⟨hx, hb, hml, hown, hts⟩ hK hZ hA hP hD hS hf (fun x τ ho => kX11_tell l D cI cZ cS zz ad σ (-1000006 : Int32) x τ ho) (cwV 1 hts gX11_load_X11_tell rfl rfl rfl ndX11_tell ⟨Nat.le_of_ble_eq_true rfl, Nat.le_of_ble_eq_true rfl⟩) [0, 1, 2, 3, 4, 5, 6, 7, 8, 9, 10, 11, 12, 13, 14, 15, 16, 17, 18, 19, 20, 21, 22, 23, 24, 25, 26, 27, 28, 29, 30, 31, 32, 33, 34, 35, 36, 37, 38, 39, 40, 41, 42, 43, 44, 45, 46, 47, 48, 49, 50, 51, 52, 53, 54, 55, 56, 57, 58, 59, 60, 61, 62, 63, 64, 65, 66, 67, 68, 69, 70, 71] rfl rfl [some 0, some 1, some 2, some 3, some 4, some 5, some 6, some 7, some 8, some 9, some 10, some 11, some 12, some 13, some 14, some 15, some 16, some 17, some 18, some 19, some 20, some 21, some 22, some 23, some 24, some 25, some 26, some 27, some 28, some 29, some 30, some 31, some 32, some 33, some 34, some 35, some 36, some 37, some 38, some 39, some 40, some 41, some 42, some 43, some 44, some 45, some 46, some 47, some 48, some 49, some 50, some 51, some 52, some 53, some 54, some 55, some 56, some 57, some 58, some 59, some 60, some 61, some 62, some 63, some 64, some 65, some 66, some 67, some 68, some 69, some 70, some 71] (by decide +kernel) (Nat.le_of_ble_eq_true rfl) (fun _ => rfl) (fun _ => rfl) (fun _ => rfl) rfl rfl rfl rfl (hl.1) rfl (Nat.le_of_ble_eq_true rfl) dX11_load_30 ⟨Nat.zero_le _, Nat.zero_le _⟩ (fun r62 σ61 H locs hf hP hD hS => ?_)
        obtain ⟨hi1, hi2⟩ := Prod.mk.inj (Option.some.inj hf)
        subst hi1
        subst hi2
        exact hret _ _ _ _ dX11_load_33 rfl hP hS
    have hf := (if_neg h43).symm.trans hf
    by_cases h63 : a1 = (3 : Int32)
    · have hfh63 := (if_pos h63).symm.trans hf
      have hlh63 := hl
      subst h63
      have hf := hfh63
      have hl : lv_has ls 3 [(0, .ref (ad 0)), (1, .int (3 : Int32))] := hlh63
      refine va_aldq hx hb hK hP 43 2 rfl rfl (vp_in_iff.mpr (by decide)) dX11_load_19 ?_
      refine W.eq (g2 := F0 m 20 ls [.ref (ad 50)]) rfl ?_
      refine q_cVr (wf := (wX11 cI cZ cS ad)) (wc := wX6 cI cZ cS (fun i => ad (50 + i))) (rest := []) ⟨hx, hb, hml, hown, hts⟩ hK hZ hA hP hD hS hf (fun x ho => kX6_isMissing l D cI cZ cS zz (fun i => ad (50 + i)) (q_sb σ 50) x ho) (cwV 0 hts gX11_load_X6_isMissing rfl rfl rfl ndX6_isMissing ⟨Nat.le_of_ble_eq_true rfl, Nat.le_of_ble_eq_true rfl⟩) [50, 51] rfl rfl rfl rfl rfl rfl (hl.1) rfl (Nat.le_of_ble_eq_true rfl) dX11_load_20 ⟨Nat.zero_le _, Nat.zero_le _⟩ (fun r64 H locs hf hP hD hS => ?_)
      refine lv_if_eq (tgt := 34) hx hb dX11_load_23 (by decide) (fun h65 => ?_) (fun h65 => ?_)
      · have hf := (if_pos h65).symm.trans hf
        refine lv_iconst (v := 0) hx hb dX11_load_34 (by decide) ?_
        refine lv_istore_n (lv' := [(2, .int (0 : Int32)), (0, .ref (ad 0)), (1, .int (3 : Int32))]) hx hb dX11_load_35 rfl hl (by decide) rfl (fun ls hl => ?_)
        refine q_lp_go (f := fun (zf : SS → Int32 → Option (Int32 × SS)) => zf σ (0 : Int32)) hf (fun z69 ez69 hf => ?_)
        have Lz69 : ∀ (n70 : Nat) (σ67 : SS) (x2_66 : Int32) (H : Heap) (locs : List Loc) (ls : Array Slot), va_P D vwCl ((wX11 cI cZ cS ad) σ67) H → va_D A ((wX11 cI cZ cS ad) σ67) → va_S A s.heap H locs → lv_has ls 3 [(0, .ref (ad 0)), (1, .int (3 : Int32)), (2, .int x2_66)] → q_lp (fun _ _ => none) z69 n70 σ67 x2_66 = some (rr, σr) → W p l e rmX11_load s m ([.ref (ad 0), .int (3 : Int32)] : List Value).toArray below meth c H locs 0 0 Q (F0 m 36 ls []) := by
          intro n70
          induction n70 with
          | zero => exact fun _ _ _ _ _ _ _ _ _ hf => q_no hf
          | succ n70 ihz69 =>
            intro σ67 x2_66 H locs ls hP hD hS hl hf
            have hf := (congrFun (congrFun (congrFun ez69 (q_lp (fun _ _ => none) z69 n70)) σ67) x2_66).symm.trans hf
            refine lv_iload_n hx hb dX11_load_36 rfl (lv_at hl 2 rfl) ?_
            refine lv_aload_n hx hb dX11_load_37 rfl (lv_at hl 0 rfl) ?_
            refine va_get (D := D) (ci := 11) (C := RX11) (T := TX11) (N := 9) hx hb hts fwX11_load_X11 hown hK hP 0 rfl rfl 6 (by decide) (hts _ (List.mem_of_getElem? (i := 2) rfl)) (fun _ h9 => h9) rfl dX11_load_38 ?_
            refine lv_iload_n hx hb dX11_load_41 rfl (lv_at hl 1 rfl) ?_
            refine va_aldq hx hb hK hP 43 2 rfl rfl (vp_in_iff.mpr (by decide)) dX11_load_42 ?_
            refine W.eq (g2 := F0 m 43 ls [.ref (ad 50), .int x2_66]) rfl ?_
            refine va_get (D := D) (ci := 6) (C := RX6) (T := TX6) (N := 3) hx hb hts fwX11_load_X6 hown hK hP 50 rfl rfl 1 (by decide) (hts _ (List.mem_of_getElem? (i := 4) rfl)) (fun _ h9 => h9) rfl dX11_load_43 ?_
            refine q_lt_go hf (fun j71 ej71 hf => ?_)
            have Jj71 : ∀ (H : Heap) (locs : List Loc) (ls : Array Slot), va_P D vwCl ((wX11 cI cZ cS ad) σ67) H → va_D A ((wX11 cI cZ cS ad) σ67) → va_S A s.heap H locs → lv_has ls 3 [(2, .int x2_66)] → j71 = some (rr, σr) → W p l e rmX11_load s m ([.ref (ad 0), .int (3 : Int32)] : List Value).toArray below meth c H locs 0 0 Q (F0 m 113 ls []) := by
              intro  H locs ls hP hD hS hl hf
              have hf := ej71.symm.trans hf
              refine lv_iload_n hx hb dX11_load_113 rfl (lv_at hl 0 rfl) ?_
              obtain ⟨hi1, hi2⟩ := Prod.mk.inj (Option.some.inj hf)
              subst hi1
              subst hi2
              exact hret _ _ _ _ dX11_load_114 rfl hP hS
            refine lv_icmp_ge (tgt := 113) hx hb dX11_load_46 (by decide) (fun h72 => ?_) (fun h72 => ?_)
            · have hf := (if_pos h72).symm.trans hf
              exact Jj71  _ _ _ hP hD hS (lv_sub hl [2] rfl) hf
            · have hf := (if_neg h72).symm.trans hf
              refine lv_aload_n hx hb dX11_load_49 rfl (lv_at hl 0 rfl) ?_
              refine va_get (D := D) (ci := 11) (C := RX11) (T := TX11) (N := 9) hx hb hts fwX11_load_X11 hown hK hP 0 rfl rfl 6 (by decide) (hts _ (List.mem_of_getElem? (i := 2) rfl)) (fun _ h9 => h9) rfl dX11_load_50 ?_
              refine lv_iload_n hx hb dX11_load_53 rfl (lv_at hl 1 rfl) ?_
              refine va_aldq hx hb hK hP 43 2 rfl rfl (vp_in_iff.mpr (by decide)) dX11_load_54 ?_
              refine W.eq (g2 := F0 m 55 ls [.ref (ad 50)]) rfl ?_
              refine va_get (D := D) (ci := 6) (C := RX6) (T := TX6) (N := 3) hx hb hts fwX11_load_X6 hown hK hP 50 rfl rfl 2 (by decide) (hts _ (List.mem_of_getElem? (i := 5) rfl)) (fun _ h9 => h9) rfl dX11_load_55 ?_
              refine lv_iload_n hx hb dX11_load_58 rfl (lv_at hl 2 rfl) ?_
              refine w_iald (wf := (wX11 cI cZ cS ad)) hx hb hK hP 51 0 rfl rfl hf dX11_load_59 (fun v73 hf => ?_)
              refine va_gets hx hb hZ.2.1.1 hS hown (hts _ (List.mem_of_getElem? (i := 6) rfl)) (fun _ h9 => h9) dX11_load_60 ?_
              refine lv_iconst (v := 0) hx hb dX11_load_63 (by decide) ?_
              refine w_tald hx hb hZ.2.1 hS hf dX11_load_64 (fun v74 hf => ?_)
              refine va_gets hx hb hZ.2.2.1.1 hS hown (hts _ (List.mem_of_getElem? (i := 7) rfl)) (fun _ h9 => h9) dX11_load_65 ?_
              refine lv_iconst (v := 0) hx hb dX11_load_68 (by decide) ?_
              refine w_tald hx hb hZ.2.2.1 hS hf dX11_load_69 (fun v75 hf => ?_)
              refine q_cSr (wf := (wX11 cI cZ cS ad)) (rest := []) ⟨hx, hb, hml, hown, hts⟩ hK hZ hA hP hD hS hf (fun x ho => kX11_within l D cI cZ cS zz v73 v74 v75 x ho) (va_cwS 3 hts gX11_load_X11_within rfl rfl rfl ndX11_within.2 ⟨Nat.le_of_ble_eq_true rfl, Nat.le_of_ble_eq_true rfl⟩) rfl (hl.1) rfl (Nat.le_of_ble_eq_true rfl) dX11_load_70 ⟨Nat.zero_le _, Nat.zero_le _⟩ (fun r76 H locs hf hP hD hS => ?_)
              refine lv_if_eq (tgt := 113) hx hb dX11_load_73 (by decide) (fun h77 => ?_) (fun h77 => ?_)
              · have hf := (if_pos h77).symm.trans hf
                exact Jj71  _ _ _ hP hD hS (lv_sub hl [2] rfl) hf
              · have hf := (if_neg h77).symm.trans hf
                refine lv_aload_n hx hb dX11_load_76 rfl (lv_at hl 0 rfl) ?_
                refine va_get (D := D) (ci := 11) (C := RX11) (T := TX11) (N := 9) hx hb hts fwX11_load_X11 hown hK hP 0 rfl rfl 1 (by decide) (hts _ (List.mem_of_getElem? (i := 8) rfl)) (fun _ h9 => h9) rfl dX11_load_77 ?_
                refine va_get (D := D) (ci := 2) (C := RX2) (T := TX2) (N := 4) hx hb hts fwX11_load_X2 hown hK hP 2 rfl rfl 0 (by decide) (hts _ (List.mem_of_getElem? (i := 9) rfl)) (fun _ h9 => h9) rfl dX11_load_80 ?_
                refine lv_aload_n hx hb dX11_load_83 rfl (lv_at hl 0 rfl) ?_
                refine va_get (D := D) (ci := 11) (C := RX11) (T := TX11) (N := 9) hx hb hts fwX11_load_X11 hown hK hP 0 rfl rfl 6 (by decide) (hts _ (List.mem_of_getElem? (i := 2) rfl)) (fun _ h9 => h9) rfl dX11_load_84 ?_
                refine lv_iload_n hx hb dX11_load_87 rfl (lv_at hl 1 rfl) ?_
                refine va_aldq hx hb hK hP 43 2 rfl rfl (vp_in_iff.mpr (by decide)) dX11_load_88 ?_
                refine W.eq (g2 := F0 m 89 ls [.ref (ad 50), .ref (ad 3)]) rfl ?_
                refine va_get (D := D) (ci := 6) (C := RX6) (T := TX6) (N := 3) hx hb hts fwX11_load_X6 hown hK hP 50 rfl rfl 2 (by decide) (hts _ (List.mem_of_getElem? (i := 5) rfl)) (fun _ h9 => h9) rfl dX11_load_89 ?_
                refine lv_iload_n hx hb dX11_load_92 rfl (lv_at hl 2 rfl) ?_
                refine w_iald (wf := (wX11 cI cZ cS ad)) hx hb hK hP 51 0 rfl rfl hf dX11_load_93 (fun v78 hf => ?_)
                refine w_put (D := D) (wf := (wX11 cI cZ cS ad)) (cid := 3) (ci := 0) (C := RX0) (T := TX0) (N := 13) hx hb hts fwX11_load_X0 tyX0 tyX0_ok nmX0 hown hK hP hD hS 3 rfl rfl 6 (by decide) (hts _ (List.mem_of_getElem? (i := 10) rfl)) (fun _ h9 => h9) rfl (tyX0_ok 6 (by decide)) (Nat.le_of_ble_eq_true rfl) hf rfl dX11_load_94 (fun σ79 H locs hf hP hD hS => ?_)
                refine lv_aload_n hx hb dX11_load_97 rfl (lv_at hl 0 rfl) ?_
                refine va_get (D := D) (ci := 11) (C := RX11) (T := TX11) (N := 9) hx hb hts fwX11_load_X11 hown hK hP 0 rfl rfl 1 (by decide) (hts _ (List.mem_of_getElem? (i := 8) rfl)) (fun _ h9 => h9) rfl dX11_load_98 ?_
                refine va_get (D := D) (ci := 2) (C := RX2) (T := TX2) (N := 4) hx hb hts fwX11_load_X2 hown hK hP 2 rfl rfl 0 (by decide) (hts _ (List.mem_of_getElem? (i := 9) rfl)) (fun _ h9 => h9) rfl dX11_load_101 ?_
                refine q_cVv (wf := (wX11 cI cZ cS ad)) (wc := wX0 cI cZ cS (fun i => ad (3 + i))) (rest := []) ⟨hx, hb, hml, hown, hts⟩ hK hZ hA hP hD hS hf (fun x ho => kX0_passMinute l D cI cZ cS zz (fun i => ad (3 + i)) (q_sb σ79 3) x ho) (cwV 0 hts gX11_load_X0_passMinute rfl rfl rfl ndX0_passMinute ⟨Nat.le_of_ble_eq_true rfl, Nat.le_of_ble_eq_true rfl⟩) [3, 4, 5, 6, 7, 8, 9, 10, 11, 12, 13, 14, 15] rfl rfl [none, none, none, some 0, some 1, some 2, some 3, some 4, some 5, some 6, some 7, some 8, some 9, some 10, some 11, some 12, none, none, none, none, none, none, none, none, none, none, none, none, none, none, none, none, none, none, none, none, none, none, none, none, none, none, none, none, none, none, none, none, none, none, none, none, none, none, none, none, none, none, none, none, none, none, none, none, none, none, none, none, none, none, none, none] (by decide +kernel) (Nat.le_of_ble_eq_true rfl) (fun _ => rfl) (fun _ => rfl) (fun _ => rfl) rfl rfl rfl rfl (hl.1) rfl (Nat.le_of_ble_eq_true rfl) dX11_load_104 ⟨Nat.zero_le _, Nat.zero_le _⟩ (fun σ80 H locs hf hP hD hS => ?_)
                refine lv_iinc (v := (x2_66 + (1 : Int32))) (lv' := [(2, .int (x2_66 + (1 : Int32))), (0, .ref (ad 0)), (1, .int (3 : Int32))]) hx hb dX11_load_107 hl (k := 2) rfl rfl (by decide) rfl (fun ls hl => ?_)
                refine lv_goto (tgt := 36) hx hb dX11_load_110 (by decide) ?_
                exact ihz69 σ80 (x2_66 + (1 : Int32)) _ _ _ hP hD hS (lv_sub hl [1, 2, 0] rfl) hf
        exact Lz69 q_fu σ (0 : Int32) _ _ _ hP hD hS (lv_sub hl [1, 2, 0] rfl) hf
      · have hf := (if_neg h65).symm.trans hf
        refine lv_aload_n hx hb dX11_load_26 rfl (lv_at hl 0 rfl) ?_
        refine lv_ldcw (v := -1000006) hx hb hown (hts _ (List.mem_of_getElem? (i := 3) rfl)) dX11_load_27 ?_
        refine q_cVi (wf := (wX11 cI cZ cS ad)) (wc := wX11 cI cZ cS ad) (rest := []) ⟨hx, hb, hml, hown, hts⟩ hK hZ hA hP hD hS hf (fun x τ ho => kX11_tell l D cI cZ cS zz ad σ (-1000006 : Int32) x τ ho) (cwV 1 hts gX11_load_X11_tell rfl rfl rfl ndX11_tell ⟨Nat.le_of_ble_eq_true rfl, Nat.le_of_ble_eq_true rfl⟩) [0, 1, 2, 3, 4, 5, 6, 7, 8, 9, 10, 11, 12, 13, 14, 15, 16, 17, 18, 19, 20, 21, 22, 23, 24, 25, 26, 27, 28, 29, 30, 31, 32, 33, 34, 35, 36, 37, 38, 39, 40, 41, 42, 43, 44, 45, 46, 47, 48, 49, 50, 51, 52, 53, 54, 55, 56, 57, 58, 59, 60, 61, 62, 63, 64, 65, 66, 67, 68, 69, 70, 71] rfl rfl [some 0, some 1, some 2, some 3, some 4, some 5, some 6, some 7, some 8, some 9, some 10, some 11, some 12, some 13, some 14, some 15, some 16, some 17, some 18, some 19, some 20, some 21, some 22, some 23, some 24, some 25, some 26, some 27, some 28, some 29, some 30, some 31, some 32, some 33, some 34, some 35, some 36, some 37, some 38, some 39, some 40, some 41, some 42, some 43, some 44, some 45, some 46, some 47, some 48, some 49, some 50, some 51, some 52, some 53, some 54, some 55, some 56, some 57, some 58, some 59, some 60, some 61, some 62, some 63, some 64, some 65, some 66, some 67, some 68, some 69, some 70, some 71] (by decide +kernel) (Nat.le_of_ble_eq_true rfl) (fun _ => rfl) (fun _ => rfl) (fun _ => rfl) rfl rfl rfl rfl (hl.1) rfl (Nat.le_of_ble_eq_true rfl) dX11_load_30 ⟨Nat.zero_le _, Nat.zero_le _⟩ (fun r82 σ81 H locs hf hP hD hS => ?_)
        obtain ⟨hi1, hi2⟩ := Prod.mk.inj (Option.some.inj hf)
        subst hi1
        subst hi2
        exact hret _ _ _ _ dX11_load_33 rfl hP hS
    have hf := (if_neg h63).symm.trans hf
    exact q_no hf
  · have hf := (if_pos h2).symm.trans hf
    refine lv_aload_n hx hb dX11_load_7 rfl (lv_at hl 0 rfl) ?_
    refine lv_ldc (v := -1000001) hx hb hown (hts _ (List.mem_of_getElem? (i := 1) rfl)) dX11_load_8 ?_
    refine q_cVi (wf := (wX11 cI cZ cS ad)) (wc := wX11 cI cZ cS ad) (rest := []) ⟨hx, hb, hml, hown, hts⟩ hK hZ hA hP hD hS hf (fun x τ ho => kX11_tell l D cI cZ cS zz ad σ (-1000001 : Int32) x τ ho) (cwV 1 hts gX11_load_X11_tell rfl rfl rfl ndX11_tell ⟨Nat.le_of_ble_eq_true rfl, Nat.le_of_ble_eq_true rfl⟩) [0, 1, 2, 3, 4, 5, 6, 7, 8, 9, 10, 11, 12, 13, 14, 15, 16, 17, 18, 19, 20, 21, 22, 23, 24, 25, 26, 27, 28, 29, 30, 31, 32, 33, 34, 35, 36, 37, 38, 39, 40, 41, 42, 43, 44, 45, 46, 47, 48, 49, 50, 51, 52, 53, 54, 55, 56, 57, 58, 59, 60, 61, 62, 63, 64, 65, 66, 67, 68, 69, 70, 71] rfl rfl [some 0, some 1, some 2, some 3, some 4, some 5, some 6, some 7, some 8, some 9, some 10, some 11, some 12, some 13, some 14, some 15, some 16, some 17, some 18, some 19, some 20, some 21, some 22, some 23, some 24, some 25, some 26, some 27, some 28, some 29, some 30, some 31, some 32, some 33, some 34, some 35, some 36, some 37, some 38, some 39, some 40, some 41, some 42, some 43, some 44, some 45, some 46, some 47, some 48, some 49, some 50, some 51, some 52, some 53, some 54, some 55, some 56, some 57, some 58, some 59, some 60, some 61, some 62, some 63, some 64, some 65, some 66, some 67, some 68, some 69, some 70, some 71] (by decide +kernel) (Nat.le_of_ble_eq_true rfl) (fun _ => rfl) (fun _ => rfl) (fun _ => rfl) rfl rfl rfl rfl (hl.1) rfl (Nat.le_of_ble_eq_true rfl) dX11_load_10 ⟨Nat.zero_le _, Nat.zero_le _⟩ (fun r84 σ83 H locs hf hP hD hS => ?_)
    obtain ⟨hi1, hi2⟩ := Prod.mk.inj (Option.some.inj hf)
    subst hi1
    subst hi2
    exact hret _ _ _ _ dX11_load_13 rfl hP hS
def pX11_judge (σ : SS) (a1 : Int32) : Option (Int32 × SS) := q_cr (pX11_isSheet a1) (fun (r1 : Int32) => (if r1 = (0 : Int32) then q_ci (pX11_tell σ (-1000001 : Int32)) (fun (τ : SS) => τ) (fun (r32 : Int32) (σ31 : SS) => some (r32, σ31)) else (if a1 = (0 : Int32) then q_cr (pX6_isMissing (q_sb σ 44)) (fun (r4 : Int32) => (if r4 = (0 : Int32) then q_ci (pX3_firstMisjudged (q_ap 1 (q_sb σ 52) (q_ap 13 (q_sb σ 3) (q_ap 14 (q_sb σ 53) (q_sb σ 44))))) (fun (τ : SS) => (q_em (q_em (q_em (q_em σ 52 0 1 τ) 3 1 13 τ) 53 14 14 τ) 44 28 2 τ)) (fun (r7 : Int32) (σ6 : SS) => some (r7, σ6)) else q_ci (pX11_tell σ (-1000006 : Int32)) (fun (τ : SS) => τ) (fun (r9 : Int32) (σ8 : SS) => some (r9, σ8)))) else (if a1 = (1 : Int32) then q_cr (pX6_isMissing (q_sb σ 46)) (fun (r11 : Int32) => (if r11 = (0 : Int32) then q_ci (pX3_firstMisjudged (q_ap 1 (q_sb σ 52) (q_ap 13 (q_sb σ 3) (q_ap 14 (q_sb σ 53) (q_sb σ 46))))) (fun (τ : SS) => (q_em (q_em (q_em (q_em σ 52 0 1 τ) 3 1 13 τ) 53 14 14 τ) 46 28 2 τ)) (fun (r14 : Int32) (σ13 : SS) => some (r14, σ13)) else q_ci (pX11_tell σ (-1000006 : Int32)) (fun (τ : SS) => τ) (fun (r16 : Int32) (σ15 : SS) => some (r16, σ15)))) else (if a1 = (2 : Int32) then q_cr (pX6_isMissing (q_sb σ 48)) (fun (r18 : Int32) => (if r18 = (0 : Int32) then q_ci (pX3_firstMisjudged (q_ap 1 (q_sb σ 52) (q_ap 13 (q_sb σ 3) (q_ap 14 (q_sb σ 53) (q_sb σ 48))))) (fun (τ : SS) => (q_em (q_em (q_em (q_em σ 52 0 1 τ) 3 1 13 τ) 53 14 14 τ) 48 28 2 τ)) (fun (r21 : Int32) (σ20 : SS) => some (r21, σ20)) else q_ci (pX11_tell σ (-1000006 : Int32)) (fun (τ : SS) => τ) (fun (r23 : Int32) (σ22 : SS) => some (r23, σ22)))) else (if a1 = (3 : Int32) then q_cr (pX6_isMissing (q_sb σ 50)) (fun (r25 : Int32) => (if r25 = (0 : Int32) then q_ci (pX3_firstMisjudged (q_ap 1 (q_sb σ 52) (q_ap 13 (q_sb σ 3) (q_ap 14 (q_sb σ 53) (q_sb σ 50))))) (fun (τ : SS) => (q_em (q_em (q_em (q_em σ 52 0 1 τ) 3 1 13 τ) 53 14 14 τ) 50 28 2 τ)) (fun (r28 : Int32) (σ27 : SS) => some (r28, σ27)) else q_ci (pX11_tell σ (-1000006 : Int32)) (fun (τ : SS) => τ) (fun (r30 : Int32) (σ29 : SS) => some (r30, σ29)))) else none))))))
theorem fwX11_judge_X11 : ∀ w ∈ wsX110, w ∈ wsX11_judge := fun _ h => List.mem_cons_of_mem _ (List.mem_append_left _ (List.mem_append_left _ (List.mem_append_left _ (List.mem_append_left _ (List.mem_append_left _ (List.mem_append_left _ (List.mem_append_right _ h)))))))
abbrev rmX11_judge : Room := { frames := 6, cells := 0, slots := 0, locals := 164 }
set_option maxHeartbeats 4000000 in
set_option maxRecDepth 100000 in
theorem kX11_judge (l : Launch) (D : va_G) (cI cZ cS : ClassId) (zz : ZT) (ad : Nat → Nat) (σ : SS) (a1 : Int32) (rr : Int32) (σr : SS) (hf : pX11_judge σ a1 = some (rr, σr)) : CI l yX11_judge wsX11_judge rmX11_judge D (K3 cI cZ cS) zz [.ref (ad 0), .int a1] (wX11 cI cZ cS ad σ) (wX11 cI cZ cS ad σr) rr := by
  refine q_ofI (cc := cX11_judge) (maxL := 2) (ty := .int) (by decide) rfl (Nat.le_of_ble_eq_true rfl) ?_
  intro p e s m below meth c Q A ls hx hb hml hown hts hK hZ hA hP hD hS hl hret
  have hl : lv_has ls 2 [(0, .ref (ad 0)), (1, .int a1)] := hl
  unfold pX11_judge at hf
  refine lv_iload_n hx hb dX11_judge_0 rfl (lv_at hl 1 rfl) ?_
  refine q_cSr (wf := (wX11 cI cZ cS ad)) (rest := []) ⟨hx, hb, hml, hown, hts⟩ hK hZ hA hP hD hS hf (fun x ho => kX11_isSheet l D cI cZ cS zz a1 x ho) (va_cwS 1 hts gX11_judge_X11_isSheet rfl rfl rfl ndX11_isSheet.2 ⟨Nat.le_of_ble_eq_true rfl, Nat.le_of_ble_eq_true rfl⟩) rfl (hl.1) rfl (Nat.le_of_ble_eq_true rfl) dX11_judge_1 ⟨Nat.zero_le _, Nat.zero_le _⟩ (fun r1 H locs hf hP hD hS => ?_)
  refine lv_if_ne (tgt := 14) hx hb dX11_judge_4 (by decide) (fun h2 => ?_) (fun h2 => ?_)
  · have hf := (if_neg h2).symm.trans hf
    refine lv_aload_n hx hb dX11_judge_14 rfl (lv_at hl 0 rfl) ?_
    refine va_get (D := D) (ci := 11) (C := RX11) (T := TX11) (N := 9) hx hb hts fwX11_judge_X11 hown hK hP 0 rfl rfl 6 (by decide) (hts _ (List.mem_of_getElem? (i := 2) rfl)) (fun _ h9 => h9) rfl dX11_judge_15 ?_
    refine lv_iload_n hx hb dX11_judge_18 rfl (lv_at hl 1 rfl) ?_
    by_cases h3 : a1 = (0 : Int32)
    · have hfh3 := (if_pos h3).symm.trans hf
      have hlh3 := hl
      subst h3
      have hf := hfh3
      have hl : lv_has ls 2 [(0, .ref (ad 0)), (1, .int (0 : Int32))] := hlh3
      refine va_aldq hx hb hK hP 43 2 rfl rfl (vp_in_iff.mpr (by decide)) dX11_judge_19 ?_
      refine W.eq (g2 := F0 m 20 ls [.ref (ad 44)]) rfl ?_
      refine q_cVr (wf := (wX11 cI cZ cS ad)) (wc := wX6 cI cZ cS (fun i => ad (44 + i))) (rest := []) ⟨hx, hb, hml, hown, hts⟩ hK hZ hA hP hD hS hf (fun x ho => kX6_isMissing l D cI cZ cS zz (fun i => ad (44 + i)) (q_sb σ 44) x ho) (cwV 0 hts gX11_judge_X6_isMissing rfl rfl rfl ndX6_isMissing ⟨Nat.le_of_ble_eq_true rfl, Nat.le_of_ble_eq_true rfl⟩) [44, 45] rfl rfl rfl rfl rfl rfl (hl.1) rfl (Nat.le_of_ble_eq_true rfl) dX11_judge_20 ⟨Nat.zero_le _, Nat.zero_le _⟩ (fun r4 H locs hf hP hD hS => ?_)
      refine lv_if_eq (tgt := 34) hx hb dX11_judge_23 (by decide) (fun h5 => ?_) (fun h5 => ?_)
      · have hf := (if_pos h5).symm.trans hf
        refine lv_aload_n hx hb dX11_judge_34 rfl (lv_at hl 0 rfl) ?_
        refine va_get (D := D) (ci := 11) (C := RX11) (T := TX11) (N := 9) hx hb hts fwX11_judge_X11 hown hK hP 0 rfl rfl 7 (by decide) (hts _ (List.mem_of_getElem? (i := 4) rfl)) (fun _ h9 => h9) rfl dX11_judge_35 ?_
        refine lv_aload_n hx hb dX11_judge_38 rfl (lv_at hl 0 rfl) ?_
        refine va_get (D := D) (ci := 11) (C := RX11) (T := TX11) (N := 9) hx hb hts fwX11_judge_X11 hown hK hP 0 rfl rfl 6 (by decide) (hts _ (List.mem_of_getElem? (i := 2) rfl)) (fun _ h9 => h9) rfl dX11_judge_39 ?_
        refine lv_iload_n hx hb dX11_judge_42 rfl (lv_at hl 1 rfl) ?_
        refine va_aldq hx hb hK hP 43 2 rfl rfl (vp_in_iff.mpr (by decide)) dX11_judge_43 ?_
        refine W.eq (g2 := F0 m 44 ls [.ref (ad 44), .ref (ad 52)]) rfl ?_
        refine q_cVi (wf := (wX11 cI cZ cS ad)) (wc := wX3_X6 cI cZ cS (fun i => ad (if i < 1 then 52 + i else if i < 14 then 3 + (i - 1) else if i < 28 then 53 + (i - 14) else 44 + (i - 28)))) (rest := []) ⟨hx, hb, hml, hown, hts⟩ hK hZ hA hP hD hS hf (fun x τ ho => kX3_firstMisjudged l D cI cZ cS zz (fun i => ad (if i < 1 then 52 + i else if i < 14 then 3 + (i - 1) else if i < 28 then 53 + (i - 14) else 44 + (i - 28))) (q_ap 1 (q_sb σ 52) (q_ap 13 (q_sb σ 3) (q_ap 14 (q_sb σ 53) (q_sb σ 44)))) x τ ho) (cwV 1 hts gX11_judge_X3_firstMisjudged rfl rfl rfl ndX3_firstMisjudged ⟨Nat.le_of_ble_eq_true rfl, Nat.le_of_ble_eq_true rfl⟩) [52, 3, 4, 5, 6, 7, 8, 9, 10, 11, 12, 13, 14, 15, 53, 54, 55, 56, 57, 58, 59, 60, 61, 62, 63, 64, 65, 66, 44, 45] rfl rfl [none, none, none, some 1, some 2, some 3, some 4, some 5, some 6, some 7, some 8, some 9, some 10, some 11, some 12, some 13, none, none, none, none, none, none, none, none, none, none, none, none, none, none, none, none, none, none, none, none, none, none, none, none, none, none, none, none, some 28, some 29, none, none, none, none, none, none, some 0, some 14, some 15, some 16, some 17, some 18, some 19, some 20, some 21, some 22, some 23, some 24, some 25, some 26, some 27, none, none, none, none, none] (by decide +kernel) (Nat.le_of_ble_eq_true rfl) (fun _ => rfl) (fun _ => rfl) (fun _ => rfl) rfl rfl rfl rfl (hl.1) rfl (Nat.le_of_ble_eq_true rfl) dX11_judge_44 ⟨Nat.zero_le _, Nat.zero_le _⟩ (fun r7 σ6 H locs hf hP hD hS => ?_)
        obtain ⟨hi1, hi2⟩ := Prod.mk.inj (Option.some.inj hf)
        subst hi1
        subst hi2
        exact hret _ _ _ _ dX11_judge_47 rfl hP hS
      · have hf := (if_neg h5).symm.trans hf
        refine lv_aload_n hx hb dX11_judge_26 rfl (lv_at hl 0 rfl) ?_
        refine lv_ldcw (v := -1000006) hx hb hown (hts _ (List.mem_of_getElem? (i := 3) rfl)) dX11_judge_27 ?_
        refine q_cVi (wf := (wX11 cI cZ cS ad)) (wc := wX11 cI cZ cS ad) (rest := []) ⟨hx, hb, hml, hown, hts⟩ hK hZ hA hP hD hS hf (fun x τ ho => kX11_tell l D cI cZ cS zz ad σ (-1000006 : Int32) x τ ho) (cwV 1 hts gX11_judge_X11_tell rfl rfl rfl ndX11_tell ⟨Nat.le_of_ble_eq_true rfl, Nat.le_of_ble_eq_true rfl⟩) [0, 1, 2, 3, 4, 5, 6, 7, 8, 9, 10, 11, 12, 13, 14, 15, 16, 17, 18, 19, 20, 21, 22, 23, 24, 25, 26, 27, 28, 29, 30, 31, 32, 33, 34, 35, 36, 37, 38, 39, 40, 41, 42, 43, 44, 45, 46, 47, 48, 49, 50, 51, 52, 53, 54, 55, 56, 57, 58, 59, 60, 61, 62, 63, 64, 65, 66, 67, 68, 69, 70, 71] rfl rfl [some 0, some 1, some 2, some 3, some 4, some 5, some 6, some 7, some 8, some 9, some 10, some 11, some 12, some 13, some 14, some 15, some 16, some 17, some 18, some 19, some 20, some 21, some 22, some 23, some 24, some 25, some 26, some 27, some 28, some 29, some 30, some 31, some 32, some 33, some 34, some 35, some 36, some 37, some 38, some 39, some 40, some 41, some 42, some 43, some 44, some 45, some 46, some 47, some 48, some 49, some 50, some 51, some 52, some 53, some 54, some 55, some 56, some 57, some 58, some 59, some 60, some 61, some 62, some 63, some 64, some 65, some 66, some 67, some 68, some 69, some 70, some 71] (by decide +kernel) (Nat.le_of_ble_eq_true rfl) (fun _ => rfl) (fun _ => rfl) (fun _ => rfl) rfl rfl rfl rfl (hl.1) rfl (Nat.le_of_ble_eq_true rfl) dX11_judge_30 ⟨Nat.zero_le _, Nat.zero_le _⟩ (fun r9 σ8 H locs hf hP hD hS => ?_)
        obtain ⟨hi1, hi2⟩ := Prod.mk.inj (Option.some.inj hf)
        subst hi1
        subst hi2
        exact hret _ _ _ _ dX11_judge_33 rfl hP hS
    have hf := (if_neg h3).symm.trans hf
    by_cases h10 : a1 = (1 : Int32)
    · have hfh10 := (if_pos h10).symm.trans hf
      have hlh10 := hl
      subst h10
      have hf := hfh10
      have hl : lv_has ls 2 [(0, .ref (ad 0)), (1, .int (1 : Int32))] := hlh10
      refine va_aldq hx hb hK hP 43 2 rfl rfl (vp_in_iff.mpr (by decide)) dX11_judge_19 ?_
      refine W.eq (g2 := F0 m 20 ls [.ref (ad 46)]) rfl ?_
      refine q_cVr (wf := (wX11 cI cZ cS ad)) (wc := wX6 cI cZ cS (fun i => ad (46 + i))) (rest := []) ⟨hx, hb, hml, hown, hts⟩ hK hZ hA hP hD hS hf (fun x ho => kX6_isMissing l D cI cZ cS zz (fun i => ad (46 + i)) (q_sb σ 46) x ho) (cwV 0 hts gX11_judge_X6_isMissing rfl rfl rfl ndX6_isMissing ⟨Nat.le_of_ble_eq_true rfl, Nat.le_of_ble_eq_true rfl⟩) [46, 47] rfl rfl rfl rfl rfl rfl (hl.1) rfl (Nat.le_of_ble_eq_true rfl) dX11_judge_20 ⟨Nat.zero_le _, Nat.zero_le _⟩ (fun r11 H locs hf hP hD hS => ?_)
      refine lv_if_eq (tgt := 34) hx hb dX11_judge_23 (by decide) (fun h12 => ?_) (fun h12 => ?_)
      · have hf := (if_pos h12).symm.trans hf
        refine lv_aload_n hx hb dX11_judge_34 rfl (lv_at hl 0 rfl) ?_
        refine va_get (D := D) (ci := 11) (C := RX11) (T := TX11) (N := 9) hx hb hts fwX11_judge_X11 hown hK hP 0 rfl rfl 7 (by decide) (hts _ (List.mem_of_getElem? (i := 4) rfl)) (fun _ h9 => h9) rfl dX11_judge_35 ?_
        refine lv_aload_n hx hb dX11_judge_38 rfl (lv_at hl 0 rfl) ?_
        refine va_get (D := D) (ci := 11) (C := RX11) (T := TX11) (N := 9) hx hb hts fwX11_judge_X11 hown hK hP 0 rfl rfl 6 (by decide) (hts _ (List.mem_of_getElem? (i := 2) rfl)) (fun _ h9 => h9) rfl dX11_judge_39 ?_
        refine lv_iload_n hx hb dX11_judge_42 rfl (lv_at hl 1 rfl) ?_
        refine va_aldq hx hb hK hP 43 2 rfl rfl (vp_in_iff.mpr (by decide)) dX11_judge_43 ?_
        refine W.eq (g2 := F0 m 44 ls [.ref (ad 46), .ref (ad 52)]) rfl ?_
        refine q_cVi (wf := (wX11 cI cZ cS ad)) (wc := wX3_X6 cI cZ cS (fun i => ad (if i < 1 then 52 + i else if i < 14 then 3 + (i - 1) else if i < 28 then 53 + (i - 14) else 46 + (i - 28)))) (rest := []) ⟨hx, hb, hml, hown, hts⟩ hK hZ hA hP hD hS hf (fun x τ ho => kX3_firstMisjudged l D cI cZ cS zz (fun i => ad (if i < 1 then 52 + i else if i < 14 then 3 + (i - 1) else if i < 28 then 53 + (i - 14) else 46 + (i - 28))) (q_ap 1 (q_sb σ 52) (q_ap 13 (q_sb σ 3) (q_ap 14 (q_sb σ 53) (q_sb σ 46)))) x τ ho) (cwV 1 hts gX11_judge_X3_firstMisjudged rfl rfl rfl ndX3_firstMisjudged ⟨Nat.le_of_ble_eq_true rfl, Nat.le_of_ble_eq_true rfl⟩) [52, 3, 4, 5, 6, 7, 8, 9, 10, 11, 12, 13, 14, 15, 53, 54, 55, 56, 57, 58, 59, 60, 61, 62, 63, 64, 65, 66, 46, 47] rfl rfl [none, none, none, some 1, some 2, some 3, some 4, some 5, some 6, some 7, some 8, some 9, some 10, some 11, some 12, some 13, none, none, none, none, none, none, none, none, none, none, none, none, none, none, none, none, none, none, none, none, none, none, none, none, none, none, none, none, none, none, some 28, some 29, none, none, none, none, some 0, some 14, some 15, some 16, some 17, some 18, some 19, some 20, some 21, some 22, some 23, some 24, some 25, some 26, some 27, none, none, none, none, none] (by decide +kernel) (Nat.le_of_ble_eq_true rfl) (fun _ => rfl) (fun _ => rfl) (fun _ => rfl) rfl rfl rfl rfl (hl.1) rfl (Nat.le_of_ble_eq_true rfl) dX11_judge_44 ⟨Nat.zero_le _, Nat.zero_le _⟩ (fun r14 σ13 H locs hf hP hD hS => ?_)
        obtain ⟨hi1, hi2⟩ := Prod.mk.inj (Option.some.inj hf)
        subst hi1
        subst hi2
        exact hret _ _ _ _ dX11_judge_47 rfl hP hS
      · have hf := (if_neg h12).symm.trans hf
        refine lv_aload_n hx hb dX11_judge_26 rfl (lv_at hl 0 rfl) ?_
        refine lv_ldcw (v := -1000006) hx hb hown (hts _ (List.mem_of_getElem? (i := 3) rfl)) dX11_judge_27 ?_
        refine q_cVi (wf := (wX11 cI cZ cS ad)) (wc := wX11 cI cZ cS ad) (rest := []) ⟨hx, hb, hml, hown, hts⟩ hK hZ hA hP hD hS hf (fun x τ ho => kX11_tell l D cI cZ cS zz ad σ (-1000006 : Int32) x τ ho) (cwV 1 hts gX11_judge_X11_tell rfl rfl rfl ndX11_tell ⟨Nat.le_of_ble_eq_true rfl, Nat.le_of_ble_eq_true rfl⟩) [0, 1, 2, 3, 4, 5, 6, 7, 8, 9, 10, 11, 12, 13, 14, 15, 16, 17, 18, 19, 20, 21, 22, 23, 24, 25, 26, 27, 28, 29, 30, 31, 32, 33, 34, 35, 36, 37, 38, 39, 40, 41, 42, 43, 44, 45, 46, 47, 48, 49, 50, 51, 52, 53, 54, 55, 56, 57, 58, 59, 60, 61, 62, 63, 64, 65, 66, 67, 68, 69, 70, 71] rfl rfl [some 0, some 1, some 2, some 3, some 4, some 5, some 6, some 7, some 8, some 9, some 10, some 11, some 12, some 13, some 14, some 15, some 16, some 17, some 18, some 19, some 20, some 21, some 22, some 23, some 24, some 25, some 26, some 27, some 28, some 29, some 30, some 31, some 32, some 33, some 34, some 35, some 36, some 37, some 38, some 39, some 40, some 41, some 42, some 43, some 44, some 45, some 46, some 47, some 48, some 49, some 50, some 51, some 52, some 53, some 54, some 55, some 56, some 57, some 58, some 59, some 60, some 61, some 62, some 63, some 64, some 65, some 66, some 67, some 68, some 69, some 70, some 71] (by decide +kernel) (Nat.le_of_ble_eq_true rfl) (fun _ => rfl) (fun _ => rfl) (fun _ => rfl) rfl rfl rfl rfl (hl.1) rfl (Nat.le_of_ble_eq_true rfl) dX11_judge_30 ⟨Nat.zero_le _, Nat.zero_le _⟩ (fun r16 σ15 H locs hf hP hD hS => ?_)
        obtain ⟨hi1, hi2⟩ := Prod.mk.inj (Option.some.inj hf)
        subst hi1
        subst hi2
        exact hret _ _ _ _ dX11_judge_33 rfl hP hS
    have hf := (if_neg h10).symm.trans hf
    by_cases h17 : a1 = (2 : Int32)
    · have hfh17 := (if_pos h17).symm.trans hf
      have hlh17 := hl
      subst h17
      have hf := hfh17
      have hl : lv_has ls 2 [(0, .ref (ad 0)), (1, .int (2 : Int32))] := hlh17
      refine va_aldq hx hb hK hP 43 2 rfl rfl (vp_in_iff.mpr (by decide)) dX11_judge_19 ?_
      refine W.eq (g2 := F0 m 20 ls [.ref (ad 48)]) rfl ?_
      refine q_cVr (wf := (wX11 cI cZ cS ad)) (wc := wX6 cI cZ cS (fun i => ad (48 + i))) (rest := []) ⟨hx, hb, hml, hown, hts⟩ hK hZ hA hP hD hS hf (fun x ho => kX6_isMissing l D cI cZ cS zz (fun i => ad (48 + i)) (q_sb σ 48) x ho) (cwV 0 hts gX11_judge_X6_isMissing rfl rfl rfl ndX6_isMissing ⟨Nat.le_of_ble_eq_true rfl, Nat.le_of_ble_eq_true rfl⟩) [48, 49] rfl rfl rfl rfl rfl rfl (hl.1) rfl (Nat.le_of_ble_eq_true rfl) dX11_judge_20 ⟨Nat.zero_le _, Nat.zero_le _⟩ (fun r18 H locs hf hP hD hS => ?_)
      refine lv_if_eq (tgt := 34) hx hb dX11_judge_23 (by decide) (fun h19 => ?_) (fun h19 => ?_)
      · have hf := (if_pos h19).symm.trans hf
        refine lv_aload_n hx hb dX11_judge_34 rfl (lv_at hl 0 rfl) ?_
        refine va_get (D := D) (ci := 11) (C := RX11) (T := TX11) (N := 9) hx hb hts fwX11_judge_X11 hown hK hP 0 rfl rfl 7 (by decide) (hts _ (List.mem_of_getElem? (i := 4) rfl)) (fun _ h9 => h9) rfl dX11_judge_35 ?_
        refine lv_aload_n hx hb dX11_judge_38 rfl (lv_at hl 0 rfl) ?_
        refine va_get (D := D) (ci := 11) (C := RX11) (T := TX11) (N := 9) hx hb hts fwX11_judge_X11 hown hK hP 0 rfl rfl 6 (by decide) (hts _ (List.mem_of_getElem? (i := 2) rfl)) (fun _ h9 => h9) rfl dX11_judge_39 ?_
        refine lv_iload_n hx hb dX11_judge_42 rfl (lv_at hl 1 rfl) ?_
        refine va_aldq hx hb hK hP 43 2 rfl rfl (vp_in_iff.mpr (by decide)) dX11_judge_43 ?_
        refine W.eq (g2 := F0 m 44 ls [.ref (ad 48), .ref (ad 52)]) rfl ?_
        refine q_cVi (wf := (wX11 cI cZ cS ad)) (wc := wX3_X6 cI cZ cS (fun i => ad (if i < 1 then 52 + i else if i < 14 then 3 + (i - 1) else if i < 28 then 53 + (i - 14) else 48 + (i - 28)))) (rest := []) ⟨hx, hb, hml, hown, hts⟩ hK hZ hA hP hD hS hf (fun x τ ho => kX3_firstMisjudged l D cI cZ cS zz (fun i => ad (if i < 1 then 52 + i else if i < 14 then 3 + (i - 1) else if i < 28 then 53 + (i - 14) else 48 + (i - 28))) (q_ap 1 (q_sb σ 52) (q_ap 13 (q_sb σ 3) (q_ap 14 (q_sb σ 53) (q_sb σ 48)))) x τ ho) (cwV 1 hts gX11_judge_X3_firstMisjudged rfl rfl rfl ndX3_firstMisjudged ⟨Nat.le_of_ble_eq_true rfl, Nat.le_of_ble_eq_true rfl⟩) [52, 3, 4, 5, 6, 7, 8, 9, 10, 11, 12, 13, 14, 15, 53, 54, 55, 56, 57, 58, 59, 60, 61, 62, 63, 64, 65, 66, 48, 49] rfl rfl [none, none, none, some 1, some 2, some 3, some 4, some 5, some 6, some 7, some 8, some 9, some 10, some 11, some 12, some 13, none, none, none, none, none, none, none, none, none, none, none, none, none, none, none, none, none, none, none, none, none, none, none, none, none, none, none, none, none, none, none, none, some 28, some 29, none, none, some 0, some 14, some 15, some 16, some 17, some 18, some 19, some 20, some 21, some 22, some 23, some 24, some 25, some 26, some 27, none, none, none, none, none] (by decide +kernel) (Nat.le_of_ble_eq_true rfl) (fun _ => rfl) (fun _ => rfl) (fun _ => rfl) rfl rfl rfl rfl (hl.1) rfl (Nat.le_of_ble_eq_true rfl) dX11_judge_44 ⟨Nat.zero_le _, Nat.zero_le _⟩ (fun r21 σ20 H locs hf hP hD hS => ?_)
        obtain ⟨hi1, hi2⟩ := Prod.mk.inj (Option.some.inj hf)
        subst hi1
        subst hi2
        exact hret _ _ _ _ dX11_judge_47 rfl hP hS
      · have hf := (if_neg h19).symm.trans hf
        refine lv_aload_n hx hb dX11_judge_26 rfl (lv_at hl 0 rfl) ?_
        refine lv_ldcw (v := -1000006) hx hb hown (hts _ (List.mem_of_getElem? (i := 3) rfl)) dX11_judge_27 ?_
        refine q_cVi (wf := (wX11 cI cZ cS ad)) (wc := wX11 cI cZ cS ad) (rest := []) ⟨hx, hb, hml, hown, hts⟩ hK hZ hA hP hD hS hf (fun x τ ho => kX11_tell l D cI cZ cS zz ad σ (-1000006 : Int32) x τ ho) (cwV 1 hts gX11_judge_X11_tell rfl rfl rfl ndX11_tell ⟨Nat.le_of_ble_eq_true rfl, Nat.le_of_ble_eq_true rfl⟩) [0, 1, 2, 3, 4, 5, 6, 7, 8, 9, 10, 11, 12, 13, 14, 15, 16, 17, 18, 19, 20, 21, 22, 23, 24, 25, 26, 27, 28, 29, 30, 31, 32, 33, 34, 35, 36, 37, 38, 39, 40, 41, 42, 43, 44, 45, 46, 47, 48, 49, 50, 51, 52, 53, 54, 55, 56, 57, 58, 59, 60, 61, 62, 63, 64, 65, 66, 67, 68, 69, 70, 71] rfl rfl [some 0, some 1, some 2, some 3, some 4, some 5, some 6, some 7, some 8, some 9, some 10, some 11, some 12, some 13, some 14, some 15, some 16, some 17, some 18, some 19, some 20, some 21, some 22, some 23, some 24, some 25, some 26, some 27, some 28, some 29, some 30, some 31, some 32, some 33, some 34, some 35, some 36, some 37, some 38, some 39, some 40, some 41, some 42, some 43, some 44, some 45, some 46, some 47, some 48, some 49, some 50, some 51, some 52, some 53, some 54, some 55, some 56, some 57, some 58, some 59, some 60, some 61, some 62, some 63, some 64, some 65, some 66, some 67, some 68, some 69, some 70, some 71] (by decide +kernel) (Nat.le_of_ble_eq_true rfl) (fun _ => rfl) (fun _ => rfl) (fun _ => rfl) rfl rfl rfl rfl (hl.1) rfl (Nat.le_of_ble_eq_true rfl) dX11_judge_30 ⟨Nat.zero_le _, Nat.zero_le _⟩ (fun r23 σ22 H locs hf hP hD hS => ?_)
        obtain ⟨hi1, hi2⟩ := Prod.mk.inj (Option.some.inj hf)
        subst hi1
        subst hi2
        exact hret _ _ _ _ dX11_judge_33 rfl hP hS
    have hf := (if_neg h17).symm.trans hf
    by_cases h24 : a1 = (3 : Int32)
    · have hfh24 := (if_pos h24).symm.trans hf
      have hlh24 := hl
      subst h24
      have hf := hfh24
      have hl : lv_has ls 2 [(0, .ref (ad 0)), (1, .int (3 : Int32))] := hlh24
      refine va_aldq hx hb hK hP 43 2 rfl rfl (vp_in_iff.mpr (by decide)) dX11_judge_19 ?_
      refine W.eq (g2 := F0 m 20 ls [.ref (ad 50)]) rfl ?_
      refine q_cVr (wf := (wX11 cI cZ cS ad)) (wc := wX6 cI cZ cS (fun i => ad (50 + i))) (rest := []) ⟨hx, hb, hml, hown, hts⟩ hK hZ hA hP hD hS hf (fun x ho => kX6_isMissing l D cI cZ cS zz (fun i => ad (50 + i)) (q_sb σ 50) x ho) (cwV 0 hts gX11_judge_X6_isMissing rfl rfl rfl ndX6_isMissing ⟨Nat.le_of_ble_eq_true rfl, Nat.le_of_ble_eq_true rfl⟩) [50, 51] rfl rfl rfl rfl rfl rfl (hl.1) rfl (Nat.le_of_ble_eq_true rfl) dX11_judge_20 ⟨Nat.zero_le _, Nat.zero_le _⟩ (fun r25 H locs hf hP hD hS => ?_)
      refine lv_if_eq (tgt := 34) hx hb dX11_judge_23 (by decide) (fun h26 => ?_) (fun h26 => ?_)
      · have hf := (if_pos h26).symm.trans hf
        refine lv_aload_n hx hb dX11_judge_34 rfl (lv_at hl 0 rfl) ?_
        refine va_get (D := D) (ci := 11) (C := RX11) (T := TX11) (N := 9) hx hb hts fwX11_judge_X11 hown hK hP 0 rfl rfl 7 (by decide) (hts _ (List.mem_of_getElem? (i := 4) rfl)) (fun _ h9 => h9) rfl dX11_judge_35 ?_
        refine lv_aload_n hx hb dX11_judge_38 rfl (lv_at hl 0 rfl) ?_
        refine va_get (D := D) (ci := 11) (C := RX11) (T := TX11) (N := 9) hx hb hts fwX11_judge_X11 hown hK hP 0 rfl rfl 6 (by decide) (hts _ (List.mem_of_getElem? (i := 2) rfl)) (fun _ h9 => h9) rfl dX11_judge_39 ?_
        refine lv_iload_n hx hb dX11_judge_42 rfl (lv_at hl 1 rfl) ?_
        refine va_aldq hx hb hK hP 43 2 rfl rfl (vp_in_iff.mpr (by decide)) dX11_judge_43 ?_
        refine W.eq (g2 := F0 m 44 ls [.ref (ad 50), .ref (ad 52)]) rfl ?_
        refine q_cVi (wf := (wX11 cI cZ cS ad)) (wc := wX3_X6 cI cZ cS (fun i => ad (if i < 1 then 52 + i else if i < 14 then 3 + (i - 1) else if i < 28 then 53 + (i - 14) else 50 + (i - 28)))) (rest := []) ⟨hx, hb, hml, hown, hts⟩ hK hZ hA hP hD hS hf (fun x τ ho => kX3_firstMisjudged l D cI cZ cS zz (fun i => ad (if i < 1 then 52 + i else if i < 14 then 3 + (i - 1) else if i < 28 then 53 + (i - 14) else 50 + (i - 28))) (q_ap 1 (q_sb σ 52) (q_ap 13 (q_sb σ 3) (q_ap 14 (q_sb σ 53) (q_sb σ 50)))) x τ ho) (cwV 1 hts gX11_judge_X3_firstMisjudged rfl rfl rfl ndX3_firstMisjudged ⟨Nat.le_of_ble_eq_true rfl, Nat.le_of_ble_eq_true rfl⟩) [52, 3, 4, 5, 6, 7, 8, 9, 10, 11, 12, 13, 14, 15, 53, 54, 55, 56, 57, 58, 59, 60, 61, 62, 63, 64, 65, 66, 50, 51] rfl rfl [none, none, none, some 1, some 2, some 3, some 4, some 5, some 6, some 7, some 8, some 9, some 10, some 11, some 12, some 13, none, none, none, none, none, none, none, none, none, none, none, none, none, none, none, none, none, none, none, none, none, none, none, none, none, none, none, none, none, none, none, none, none, none, some 28, some 29, some 0, some 14, some 15, some 16, some 17, some 18, some 19, some 20, some 21, some 22, some 23, some 24, some 25, some 26, some 27, none, none, none, none, none] (by decide +kernel) (Nat.le_of_ble_eq_true rfl) (fun _ => rfl) (fun _ => rfl) (fun _ => rfl) rfl rfl rfl rfl (hl.1) rfl (Nat.le_of_ble_eq_true rfl) dX11_judge_44 ⟨Nat.zero_le _, Nat.zero_le _⟩ (fun r28 σ27 H locs hf hP hD hS => ?_)
        obtain ⟨hi1, hi2⟩ := Prod.mk.inj (Option.some.inj hf)
        subst hi1
        subst hi2
        exact hret _ _ _ _ dX11_judge_47 rfl hP hS
      · have hf := (if_neg h26).symm.trans hf
        refine lv_aload_n hx hb dX11_judge_26 rfl (lv_at hl 0 rfl) ?_
        refine lv_ldcw (v := -1000006) hx hb hown (hts _ (List.mem_of_getElem? (i := 3) rfl)) dX11_judge_27 ?_
        refine q_cVi (wf := (wX11 cI cZ cS ad)) (wc := wX11 cI cZ cS ad) (rest := []) ⟨hx, hb, hml, hown, hts⟩ hK hZ hA hP hD hS hf (fun x τ ho => kX11_tell l D cI cZ cS zz ad σ (-1000006 : Int32) x τ ho) (cwV 1 hts gX11_judge_X11_tell rfl rfl rfl ndX11_tell ⟨Nat.le_of_ble_eq_true rfl, Nat.le_of_ble_eq_true rfl⟩) [0, 1, 2, 3, 4, 5, 6, 7, 8, 9, 10, 11, 12, 13, 14, 15, 16, 17, 18, 19, 20, 21, 22, 23, 24, 25, 26, 27, 28, 29, 30, 31, 32, 33, 34, 35, 36, 37, 38, 39, 40, 41, 42, 43, 44, 45, 46, 47, 48, 49, 50, 51, 52, 53, 54, 55, 56, 57, 58, 59, 60, 61, 62, 63, 64, 65, 66, 67, 68, 69, 70, 71] rfl rfl [some 0, some 1, some 2, some 3, some 4, some 5, some 6, some 7, some 8, some 9, some 10, some 11, some 12, some 13, some 14, some 15, some 16, some 17, some 18, some 19, some 20, some 21, some 22, some 23, some 24, some 25, some 26, some 27, some 28, some 29, some 30, some 31, some 32, some 33, some 34, some 35, some 36, some 37, some 38, some 39, some 40, some 41, some 42, some 43, some 44, some 45, some 46, some 47, some 48, some 49, some 50, some 51, some 52, some 53, some 54, some 55, some 56, some 57, some 58, some 59, some 60, some 61, some 62, some 63, some 64, some 65, some 66, some 67, some 68, some 69, some 70, some 71] (by decide +kernel) (Nat.le_of_ble_eq_true rfl) (fun _ => rfl) (fun _ => rfl) (fun _ => rfl) rfl rfl rfl rfl (hl.1) rfl (Nat.le_of_ble_eq_true rfl) dX11_judge_30 ⟨Nat.zero_le _, Nat.zero_le _⟩ (fun r30 σ29 H locs hf hP hD hS => ?_)
        obtain ⟨hi1, hi2⟩ := Prod.mk.inj (Option.some.inj hf)
        subst hi1
        subst hi2
        exact hret _ _ _ _ dX11_judge_33 rfl hP hS
    have hf := (if_neg h24).symm.trans hf
    exact q_no hf
  · have hf := (if_pos h2).symm.trans hf
    refine lv_aload_n hx hb dX11_judge_7 rfl (lv_at hl 0 rfl) ?_
    refine lv_ldc (v := -1000001) hx hb hown (hts _ (List.mem_of_getElem? (i := 1) rfl)) dX11_judge_8 ?_
    refine q_cVi (wf := (wX11 cI cZ cS ad)) (wc := wX11 cI cZ cS ad) (rest := []) ⟨hx, hb, hml, hown, hts⟩ hK hZ hA hP hD hS hf (fun x τ ho => kX11_tell l D cI cZ cS zz ad σ (-1000001 : Int32) x τ ho) (cwV 1 hts gX11_judge_X11_tell rfl rfl rfl ndX11_tell ⟨Nat.le_of_ble_eq_true rfl, Nat.le_of_ble_eq_true rfl⟩) [0, 1, 2, 3, 4, 5, 6, 7, 8, 9, 10, 11, 12, 13, 14, 15, 16, 17, 18, 19, 20, 21, 22, 23, 24, 25, 26, 27, 28, 29, 30, 31, 32, 33, 34, 35, 36, 37, 38, 39, 40, 41, 42, 43, 44, 45, 46, 47, 48, 49, 50, 51, 52, 53, 54, 55, 56, 57, 58, 59, 60, 61, 62, 63, 64, 65, 66, 67, 68, 69, 70, 71] rfl rfl [some 0, some 1, some 2, some 3, some 4, some 5, some 6, some 7, some 8, some 9, some 10, some 11, some 12, some 13, some 14, some 15, some 16, some 17, some 18, some 19, some 20, some 21, some 22, some 23, some 24, some 25, some 26, some 27, some 28, some 29, some 30, some 31, some 32, some 33, some 34, some 35, some 36, some 37, some 38, some 39, some 40, some 41, some 42, some 43, some 44, some 45, some 46, some 47, some 48, some 49, some 50, some 51, some 52, some 53, some 54, some 55, some 56, some 57, some 58, some 59, some 60, some 61, some 62, some 63, some 64, some 65, some 66, some 67, some 68, some 69, some 70, some 71] (by decide +kernel) (Nat.le_of_ble_eq_true rfl) (fun _ => rfl) (fun _ => rfl) (fun _ => rfl) rfl rfl rfl rfl (hl.1) rfl (Nat.le_of_ble_eq_true rfl) dX11_judge_10 ⟨Nat.zero_le _, Nat.zero_le _⟩ (fun r32 σ31 H locs hf hP hD hS => ?_)
    obtain ⟨hi1, hi2⟩ := Prod.mk.inj (Option.some.inj hf)
    subst hi1
    subst hi2
    exact hret _ _ _ _ dX11_judge_13 rfl hP hS
def pX11_image (σ : SS) : Option (Int32 × SS) := q_cs (pX2_becomeLike (q_ap 19 (q_sb σ 21) (q_sb σ 2))) (fun (τ : SS) => (q_em (q_em σ 21 0 19 τ) 2 19 19 τ)) (fun (σ1 : SS) => q_zz (1 : Int32) (q_lt (su σ1 0 3 (1 : Int32)) (fun (σ2 : SS) => some ((1 : Int32), σ2))))
theorem fwX11_image_X11 : ∀ w ∈ wsX110, w ∈ wsX11_image := fun _ h => List.mem_cons_of_mem _ (List.mem_append_left _ (List.mem_append_left _ (List.mem_append_left _ (List.mem_append_left _ (List.mem_append_left _ (List.mem_append_left _ (List.mem_append_right _ h)))))))
abbrev rmX11_image : Room := { frames := 5, cells := 0, slots := 0, locals := 143 }
set_option maxHeartbeats 4000000 in
set_option maxRecDepth 100000 in
theorem kX11_image (l : Launch) (D : va_G) (cI cZ cS : ClassId) (zz : ZT) (ad : Nat → Nat) (σ : SS) (rr : Int32) (σr : SS) (hf : pX11_image σ = some (rr, σr)) : CI l yX11_image wsX11_image rmX11_image D (K3 cI cZ cS) zz [.ref (ad 0)] (wX11 cI cZ cS ad σ) (wX11 cI cZ cS ad σr) rr := by
  refine q_ofI (cc := cX11_image) (maxL := 1) (ty := .int) (by decide) rfl (Nat.le_of_ble_eq_true rfl) ?_
  intro p e s m below meth c Q A ls hx hb hml hown hts hK hZ hA hP hD hS hl hret
  have hl : lv_has ls 1 [(0, .ref (ad 0))] := hl
  unfold pX11_image at hf
  refine lv_aload_n hx hb dX11_image_0 rfl (lv_at hl 0 rfl) ?_
  refine va_get (D := D) (ci := 11) (C := RX11) (T := TX11) (N := 9) hx hb hts fwX11_image_X11 hown hK hP 0 rfl rfl 2 (by decide) (hts _ (List.mem_of_getElem? (i := 1) rfl)) (fun _ h9 => h9) rfl dX11_image_1 ?_
  refine lv_aload_n hx hb dX11_image_4 rfl (lv_at hl 0 rfl) ?_
  refine va_get (D := D) (ci := 11) (C := RX11) (T := TX11) (N := 9) hx hb hts fwX11_image_X11 hown hK hP 0 rfl rfl 1 (by decide) (hts _ (List.mem_of_getElem? (i := 2) rfl)) (fun _ h9 => h9) rfl dX11_image_5 ?_
  refine q_cVv (wf := (wX11 cI cZ cS ad)) (wc := wX2_X2 cI cZ cS (fun i => ad (if i < 19 then 21 + i else 2 + (i - 19)))) (rest := []) ⟨hx, hb, hml, hown, hts⟩ hK hZ hA hP hD hS hf (fun x ho => kX2_becomeLike l D cI cZ cS zz (fun i => ad (if i < 19 then 21 + i else 2 + (i - 19))) (q_ap 19 (q_sb σ 21) (q_sb σ 2)) x ho) (cwV 1 hts gX11_image_X2_becomeLike rfl rfl rfl ndX2_becomeLike ⟨Nat.le_of_ble_eq_true rfl, Nat.le_of_ble_eq_true rfl⟩) [21, 22, 23, 24, 25, 26, 27, 28, 29, 30, 31, 32, 33, 34, 35, 36, 37, 38, 39, 2, 3, 4, 5, 6, 7, 8, 9, 10, 11, 12, 13, 14, 15, 16, 17, 18, 19, 20] rfl rfl [none, none, some 19, some 20, some 21, some 22, some 23, some 24, some 25, some 26, some 27, some 28, some 29, some 30, some 31, some 32, some 33, some 34, some 35, some 36, some 37, some 0, some 1, some 2, some 3, some 4, some 5, some 6, some 7, some 8, some 9, some 10, some 11, some 12, some 13, some 14, some 15, some 16, some 17, some 18, none, none, none, none, none, none, none, none, none, none, none, none, none, none, none, none, none, none, none, none, none, none, none, none, none, none, none, none, none, none, none, none] (by decide +kernel) (Nat.le_of_ble_eq_true rfl) (fun _ => rfl) (fun _ => rfl) (fun _ => rfl) rfl rfl rfl rfl (hl.1) rfl (Nat.le_of_ble_eq_true rfl) dX11_image_8 ⟨Nat.zero_le _, Nat.zero_le _⟩ (fun σ1 H locs hf hP hD hS => ?_)
  refine lv_aload_n hx hb dX11_image_11 rfl (lv_at hl 0 rfl) ?_
  refine lv_iconst (v := 1) hx hb dX11_image_12 (by decide) ?_
  refine w_putZ (D := D) (wf := (wX11 cI cZ cS ad)) (cid := 0) (ci := 11) (C := RX11) (T := TX11) (N := 9) hx hb hts fwX11_image_X11 tyX11 tyX11_ok nmX11 hown hK hP hD hS 0 rfl rfl 3 (by decide) (hts _ (List.mem_of_getElem? (i := 3) rfl)) (fun _ h9 => h9) rfl (tyX11_ok 3 (by decide)) (Nat.le_of_ble_eq_true rfl) hf rfl dX11_image_13 (fun σ2 H locs hf hP hD hS => ?_)
  refine lv_iconst (v := 1) hx hb dX11_image_16 (by decide) ?_
  obtain ⟨hi1, hi2⟩ := Prod.mk.inj (Option.some.inj hf)
  subst hi1
  subst hi2
  exact hret _ _ _ _ dX11_image_17 rfl hP hS
def pX11_undo (σ : SS) : Option (Int32 × SS) := (if (σ 0 3) = (0 : Int32) then q_ci (pX11_tell σ (-1000004 : Int32)) (fun (τ : SS) => τ) (fun (r4 : Int32) (σ3 : SS) => some (r4, σ3)) else q_cs (pX2_becomeLike (q_sb σ 2)) (fun (τ : SS) => (q_em σ 2 0 38 τ)) (fun (σ2 : SS) => some ((σ2 3 9), σ2)))
theorem fwX11_undo_X0 : ∀ w ∈ wsX00, w ∈ wsX11_undo := fun _ h => List.mem_cons_of_mem _ (List.mem_append_left _ (List.mem_append_left _ (List.mem_append_left _ (List.mem_append_left _ (List.mem_append_right _ h)))))
theorem fwX11_undo_X11 : ∀ w ∈ wsX110, w ∈ wsX11_undo := fun _ h => List.mem_cons_of_mem _ (List.mem_append_left _ (List.mem_append_left _ (List.mem_append_left _ (List.mem_append_left _ (List.mem_append_left _ (List.mem_append_left _ (List.mem_append_right _ h)))))))
theorem fwX11_undo_X2 : ∀ w ∈ wsX20, w ∈ wsX11_undo := fun _ h => List.mem_cons_of_mem _ (List.mem_append_left _ (List.mem_append_left _ (List.mem_append_left _ (List.mem_append_left _ (List.mem_append_left _ (List.mem_append_right _ h))))))
abbrev rmX11_undo : Room := { frames := 5, cells := 0, slots := 0, locals := 143 }
set_option maxHeartbeats 4000000 in
set_option maxRecDepth 100000 in
theorem kX11_undo (l : Launch) (D : va_G) (cI cZ cS : ClassId) (zz : ZT) (ad : Nat → Nat) (σ : SS) (rr : Int32) (σr : SS) (hf : pX11_undo σ = some (rr, σr)) : CI l yX11_undo wsX11_undo rmX11_undo D (K3 cI cZ cS) zz [.ref (ad 0)] (wX11 cI cZ cS ad σ) (wX11 cI cZ cS ad σr) rr := by
  refine q_ofI (cc := cX11_undo) (maxL := 1) (ty := .int) (by decide) rfl (Nat.le_of_ble_eq_true rfl) ?_
  intro p e s m below meth c Q A ls hx hb hml hown hts hK hZ hA hP hD hS hl hret
  have hl : lv_has ls 1 [(0, .ref (ad 0))] := hl
  unfold pX11_undo at hf
  refine lv_aload_n hx hb dX11_undo_0 rfl (lv_at hl 0 rfl) ?_
  refine va_get (D := D) (ci := 11) (C := RX11) (T := TX11) (N := 9) hx hb hts fwX11_undo_X11 hown hK hP 0 rfl rfl 3 (by decide) (hts _ (List.mem_of_getElem? (i := 1) rfl)) (fun _ h9 => h9) rfl dX11_undo_1 ?_
  refine lv_if_ne (tgt := 14) hx hb dX11_undo_4 (by decide) (fun h1 => ?_) (fun h1 => ?_)
  · have hf := (if_neg h1).symm.trans hf
    refine lv_aload_n hx hb dX11_undo_14 rfl (lv_at hl 0 rfl) ?_
    refine va_get (D := D) (ci := 11) (C := RX11) (T := TX11) (N := 9) hx hb hts fwX11_undo_X11 hown hK hP 0 rfl rfl 1 (by decide) (hts _ (List.mem_of_getElem? (i := 3) rfl)) (fun _ h9 => h9) rfl dX11_undo_15 ?_
    refine lv_aload_n hx hb dX11_undo_18 rfl (lv_at hl 0 rfl) ?_
    refine va_get (D := D) (ci := 11) (C := RX11) (T := TX11) (N := 9) hx hb hts fwX11_undo_X11 hown hK hP 0 rfl rfl 2 (by decide) (hts _ (List.mem_of_getElem? (i := 4) rfl)) (fun _ h9 => h9) rfl dX11_undo_19 ?_
    refine q_cVv (wf := (wX11 cI cZ cS ad)) (wc := wX2_X2 cI cZ cS (fun i => ad (2 + i))) (rest := []) ⟨hx, hb, hml, hown, hts⟩ hK hZ hA hP hD hS hf (fun x ho => kX2_becomeLike l D cI cZ cS zz (fun i => ad (2 + i)) (q_sb σ 2) x ho) (cwV 1 hts gX11_undo_X2_becomeLike rfl rfl rfl ndX2_becomeLike ⟨Nat.le_of_ble_eq_true rfl, Nat.le_of_ble_eq_true rfl⟩) [2, 3, 4, 5, 6, 7, 8, 9, 10, 11, 12, 13, 14, 15, 16, 17, 18, 19, 20, 21, 22, 23, 24, 25, 26, 27, 28, 29, 30, 31, 32, 33, 34, 35, 36, 37, 38, 39] rfl rfl [none, none, some 0, some 1, some 2, some 3, some 4, some 5, some 6, some 7, some 8, some 9, some 10, some 11, some 12, some 13, some 14, some 15, some 16, some 17, some 18, some 19, some 20, some 21, some 22, some 23, some 24, some 25, some 26, some 27, some 28, some 29, some 30, some 31, some 32, some 33, some 34, some 35, some 36, some 37, none, none, none, none, none, none, none, none, none, none, none, none, none, none, none, none, none, none, none, none, none, none, none, none, none, none, none, none, none, none, none, none] (by decide +kernel) (Nat.le_of_ble_eq_true rfl) (fun _ => rfl) (fun _ => rfl) (fun _ => rfl) rfl rfl rfl rfl (hl.1) rfl (Nat.le_of_ble_eq_true rfl) dX11_undo_22 ⟨Nat.zero_le _, Nat.zero_le _⟩ (fun σ2 H locs hf hP hD hS => ?_)
    refine lv_aload_n hx hb dX11_undo_25 rfl (lv_at hl 0 rfl) ?_
    refine va_get (D := D) (ci := 11) (C := RX11) (T := TX11) (N := 9) hx hb hts fwX11_undo_X11 hown hK hP 0 rfl rfl 1 (by decide) (hts _ (List.mem_of_getElem? (i := 3) rfl)) (fun _ h9 => h9) rfl dX11_undo_26 ?_
    refine va_get (D := D) (ci := 2) (C := RX2) (T := TX2) (N := 4) hx hb hts fwX11_undo_X2 hown hK hP 2 rfl rfl 0 (by decide) (hts _ (List.mem_of_getElem? (i := 5) rfl)) (fun _ h9 => h9) rfl dX11_undo_29 ?_
    refine va_get (D := D) (ci := 0) (C := RX0) (T := TX0) (N := 13) hx hb hts fwX11_undo_X0 hown hK hP 3 rfl rfl 9 (by decide) (hts _ (List.mem_of_getElem? (i := 6) rfl)) (fun _ h9 => h9) rfl dX11_undo_32 ?_
    obtain ⟨hi1, hi2⟩ := Prod.mk.inj (Option.some.inj hf)
    subst hi1
    subst hi2
    exact hret _ _ _ _ dX11_undo_35 rfl hP hS
  · have hf := (if_pos h1).symm.trans hf
    refine lv_aload_n hx hb dX11_undo_7 rfl (lv_at hl 0 rfl) ?_
    refine lv_ldc (v := -1000004) hx hb hown (hts _ (List.mem_of_getElem? (i := 2) rfl)) dX11_undo_8 ?_
    refine q_cVi (wf := (wX11 cI cZ cS ad)) (wc := wX11 cI cZ cS ad) (rest := []) ⟨hx, hb, hml, hown, hts⟩ hK hZ hA hP hD hS hf (fun x τ ho => kX11_tell l D cI cZ cS zz ad σ (-1000004 : Int32) x τ ho) (cwV 1 hts gX11_undo_X11_tell rfl rfl rfl ndX11_tell ⟨Nat.le_of_ble_eq_true rfl, Nat.le_of_ble_eq_true rfl⟩) [0, 1, 2, 3, 4, 5, 6, 7, 8, 9, 10, 11, 12, 13, 14, 15, 16, 17, 18, 19, 20, 21, 22, 23, 24, 25, 26, 27, 28, 29, 30, 31, 32, 33, 34, 35, 36, 37, 38, 39, 40, 41, 42, 43, 44, 45, 46, 47, 48, 49, 50, 51, 52, 53, 54, 55, 56, 57, 58, 59, 60, 61, 62, 63, 64, 65, 66, 67, 68, 69, 70, 71] rfl rfl [some 0, some 1, some 2, some 3, some 4, some 5, some 6, some 7, some 8, some 9, some 10, some 11, some 12, some 13, some 14, some 15, some 16, some 17, some 18, some 19, some 20, some 21, some 22, some 23, some 24, some 25, some 26, some 27, some 28, some 29, some 30, some 31, some 32, some 33, some 34, some 35, some 36, some 37, some 38, some 39, some 40, some 41, some 42, some 43, some 44, some 45, some 46, some 47, some 48, some 49, some 50, some 51, some 52, some 53, some 54, some 55, some 56, some 57, some 58, some 59, some 60, some 61, some 62, some 63, some 64, some 65, some 66, some 67, some 68, some 69, some 70, some 71] (by decide +kernel) (Nat.le_of_ble_eq_true rfl) (fun _ => rfl) (fun _ => rfl) (fun _ => rfl) rfl rfl rfl rfl (hl.1) rfl (Nat.le_of_ble_eq_true rfl) dX11_undo_10 ⟨Nat.zero_le _, Nat.zero_le _⟩ (fun r4 σ3 H locs hf hP hD hS => ?_)
    obtain ⟨hi1, hi2⟩ := Prod.mk.inj (Option.some.inj hf)
    subst hi1
    subst hi2
    exact hret _ _ _ _ dX11_undo_13 rfl hP hS
def pX11_tear (σ : SS) : Option (Int32 × SS) := q_cr (pX11_bit (σ 0 3)) (fun (r1 : Int32) => q_zz (0 : Int32) (q_lt (su σ 0 3 (0 : Int32)) (fun (σ2 : SS) => some (r1, σ2))))
theorem fwX11_tear_X11 : ∀ w ∈ wsX110, w ∈ wsX11_tear := fun _ h => List.mem_cons_of_mem _ (List.mem_append_right _ h)
abbrev rmX11_tear : Room := { frames := 1, cells := 0, slots := 0, locals := 20 }
set_option maxHeartbeats 4000000 in
set_option maxRecDepth 100000 in
theorem kX11_tear (l : Launch) (D : va_G) (cI cZ cS : ClassId) (zz : ZT) (ad : Nat → Nat) (σ : SS) (rr : Int32) (σr : SS) (hf : pX11_tear σ = some (rr, σr)) : CI l yX11_tear wsX11_tear rmX11_tear D (K3 cI cZ cS) zz [.ref (ad 0)] (wX11 cI cZ cS ad σ) (wX11 cI cZ cS ad σr) rr := by
  refine q_ofI (cc := cX11_tear) (maxL := 2) (ty := .int) (by decide) rfl (Nat.le_of_ble_eq_true rfl) ?_
  intro p e s m below meth c Q A ls hx hb hml hown hts hK hZ hA hP hD hS hl hret
  have hl : lv_has ls 2 [(0, .ref (ad 0))] := hl
  unfold pX11_tear at hf
  refine lv_aload_n hx hb dX11_tear_0 rfl (lv_at hl 0 rfl) ?_
  refine va_get (D := D) (ci := 11) (C := RX11) (T := TX11) (N := 9) hx hb hts fwX11_tear_X11 hown hK hP 0 rfl rfl 3 (by decide) (hts _ (List.mem_of_getElem? (i := 1) rfl)) (fun _ h9 => h9) rfl dX11_tear_1 ?_
  refine q_cSr (wf := (wX11 cI cZ cS ad)) (rest := []) ⟨hx, hb, hml, hown, hts⟩ hK hZ hA hP hD hS hf (fun x ho => kX11_bit l D cI cZ cS zz (σ 0 3) x ho) (va_cwS 1 hts gX11_tear_X11_bit rfl rfl rfl ndX11_bit.2 ⟨Nat.le_of_ble_eq_true rfl, Nat.le_of_ble_eq_true rfl⟩) rfl (hl.1) rfl (Nat.le_of_ble_eq_true rfl) dX11_tear_4 ⟨Nat.zero_le _, Nat.zero_le _⟩ (fun r1 H locs hf hP hD hS => ?_)
  refine lv_istore_n (lv' := [(1, .int r1), (0, .ref (ad 0))]) hx hb dX11_tear_7 rfl hl (by decide) rfl (fun ls hl => ?_)
  refine lv_aload_n hx hb dX11_tear_8 rfl (lv_at hl 1 rfl) ?_
  refine lv_iconst (v := 0) hx hb dX11_tear_9 (by decide) ?_
  refine w_putZ (D := D) (wf := (wX11 cI cZ cS ad)) (cid := 0) (ci := 11) (C := RX11) (T := TX11) (N := 9) hx hb hts fwX11_tear_X11 tyX11 tyX11_ok nmX11 hown hK hP hD hS 0 rfl rfl 3 (by decide) (hts _ (List.mem_of_getElem? (i := 1) rfl)) (fun _ h9 => h9) rfl (tyX11_ok 3 (by decide)) (Nat.le_of_ble_eq_true rfl) hf rfl dX11_tear_10 (fun σ2 H locs hf hP hD hS => ?_)
  refine lv_iload_n hx hb dX11_tear_13 rfl (lv_at hl 0 rfl) ?_
  obtain ⟨hi1, hi2⟩ := Prod.mk.inj (Option.some.inj hf)
  subst hi1
  subst hi2
  exact hret _ _ _ _ dX11_tear_14 rfl hP hS
def pX11_count (σ : SS) (a1 : Int32) : Option (Int32 × SS) := (if a1 = (0 : Int32) then some ((σ 4 0), σ) else (if a1 = (1 : Int32) then some ((σ 11 0), σ) else (if a1 = (2 : Int32) then some ((σ 16 0), σ) else (if a1 = (3 : Int32) then q_cr (pX4_logged (q_sb σ 9)) (fun (r5 : Int32) => some (r5, σ)) else (if a1 = (4 : Int32) then some ((σ 3 4), σ) else (if a1 = (5 : Int32) then some ((σ 40 1), σ) else (if a1 = (6 : Int32) then some ((σ 2 3), σ) else (if a1 = (7 : Int32) then q_cr (pJ6_bitCount_0f7a4 (σ 11 4)) (fun (r10 : Int32) => some (r10, σ)) else q_ci (pX11_tell σ (-1000001 : Int32)) (fun (τ : SS) => τ) (fun (r12 : Int32) (σ11 : SS) => some (r12, σ11))))))))))
theorem fwX11_count_X0 : ∀ w ∈ wsX00, w ∈ wsX11_count := fun _ h => List.mem_cons_of_mem _ (List.mem_append_left _ (List.mem_append_left _ (List.mem_append_left _ (List.mem_append_left _ (List.mem_append_left _ (List.mem_append_right _ h))))))
theorem fwX11_count_X10 : ∀ w ∈ wsX100, w ∈ wsX11_count := fun _ h => List.mem_cons_of_mem _ (List.mem_append_left _ (List.mem_append_left _ (List.mem_append_left _ (List.mem_append_left _ (List.mem_append_right _ h)))))
theorem fwX11_count_X11 : ∀ w ∈ wsX110, w ∈ wsX11_count := fun _ h => List.mem_cons_of_mem _ (List.mem_append_left _ (List.mem_append_left _ (List.mem_append_left _ (List.mem_append_left _ (List.mem_append_left _ (List.mem_append_left _ (List.mem_append_left _ (List.mem_append_right _ h))))))))
theorem fwX11_count_X2 : ∀ w ∈ wsX20, w ∈ wsX11_count := fun _ h => List.mem_cons_of_mem _ (List.mem_append_left _ (List.mem_append_left _ (List.mem_append_left _ (List.mem_append_left _ (List.mem_append_left _ (List.mem_append_left _ (List.mem_append_right _ h)))))))
theorem fwX11_count_X7 : ∀ w ∈ wsX70, w ∈ wsX11_count := fun _ h => List.mem_cons_of_mem _ (List.mem_append_left _ (List.mem_append_left _ (List.mem_append_right _ h)))
theorem fwX11_count_X8 : ∀ w ∈ wsX80, w ∈ wsX11_count := fun _ h => List.mem_cons_of_mem _ (List.mem_append_left _ (List.mem_append_right _ h))
theorem fwX11_count_X9 : ∀ w ∈ wsX90, w ∈ wsX11_count := fun _ h => List.mem_cons_of_mem _ (List.mem_append_left _ (List.mem_append_left _ (List.mem_append_left _ (List.mem_append_right _ h))))
abbrev rmX11_count : Room := { frames := 2, cells := 0, slots := 0, locals := 44 }
set_option maxHeartbeats 4000000 in
set_option maxRecDepth 100000 in
theorem kX11_count (l : Launch) (D : va_G) (cI cZ cS : ClassId) (zz : ZT) (ad : Nat → Nat) (σ : SS) (a1 : Int32) (rr : Int32) (σr : SS) (hf : pX11_count σ a1 = some (rr, σr)) : CI l yX11_count wsX11_count rmX11_count D (K3 cI cZ cS) zz [.ref (ad 0), .int a1] (wX11 cI cZ cS ad σ) (wX11 cI cZ cS ad σr) rr := by
  refine q_ofI (cc := cX11_count) (maxL := 2) (ty := .int) (by decide) rfl (Nat.le_of_ble_eq_true rfl) ?_
  intro p e s m below meth c Q A ls hx hb hml hown hts hK hZ hA hP hD hS hl hret
  have hl : lv_has ls 2 [(0, .ref (ad 0)), (1, .int a1)] := hl
  unfold pX11_count at hf
  refine lv_iload_n hx hb dX11_count_0 rfl (lv_at hl 1 rfl) ?_
  by_cases h1 : a1 = (0 : Int32)
  · have hf := (if_pos h1).symm.trans hf
    refine lv_tableIn (tgt := 48) hx hb dX11_count_1 (by rw [h1]; decide) (by rw [h1]; decide) (by rw [h1]; rfl) (by decide) ?_
    refine lv_aload_n hx hb dX11_count_48 rfl (lv_at hl 0 rfl) ?_
    refine va_get (D := D) (ci := 11) (C := RX11) (T := TX11) (N := 9) hx hb hts fwX11_count_X11 hown hK hP 0 rfl rfl 1 (by decide) (hts _ (List.mem_of_getElem? (i := 1) rfl)) (fun _ h9 => h9) rfl dX11_count_49 ?_
    refine va_get (D := D) (ci := 2) (C := RX2) (T := TX2) (N := 4) hx hb hts fwX11_count_X2 hown hK hP 2 rfl rfl 0 (by decide) (hts _ (List.mem_of_getElem? (i := 2) rfl)) (fun _ h9 => h9) rfl dX11_count_52 ?_
    refine va_get (D := D) (ci := 0) (C := RX0) (T := TX0) (N := 13) hx hb hts fwX11_count_X0 hown hK hP 3 rfl rfl 0 (by decide) (hts _ (List.mem_of_getElem? (i := 3) rfl)) (fun _ h9 => h9) rfl dX11_count_55 ?_
    refine va_get (D := D) (ci := 10) (C := RX10) (T := TX10) (N := 5) hx hb hts fwX11_count_X10 hown hK hP 4 rfl rfl 0 (by decide) (hts _ (List.mem_of_getElem? (i := 4) rfl)) (fun _ h9 => h9) rfl dX11_count_58 ?_
    obtain ⟨hi1, hi2⟩ := Prod.mk.inj (Option.some.inj hf)
    subst hi1
    subst hi2
    exact hret _ _ _ _ dX11_count_61 rfl hP hS
  have hf := (if_neg h1).symm.trans hf
  by_cases h2 : a1 = (1 : Int32)
  · have hf := (if_pos h2).symm.trans hf
    refine lv_tableIn (tgt := 62) hx hb dX11_count_1 (by rw [h2]; decide) (by rw [h2]; decide) (by rw [h2]; rfl) (by decide) ?_
    refine lv_aload_n hx hb dX11_count_62 rfl (lv_at hl 0 rfl) ?_
    refine va_get (D := D) (ci := 11) (C := RX11) (T := TX11) (N := 9) hx hb hts fwX11_count_X11 hown hK hP 0 rfl rfl 1 (by decide) (hts _ (List.mem_of_getElem? (i := 1) rfl)) (fun _ h9 => h9) rfl dX11_count_63 ?_
    refine va_get (D := D) (ci := 2) (C := RX2) (T := TX2) (N := 4) hx hb hts fwX11_count_X2 hown hK hP 2 rfl rfl 0 (by decide) (hts _ (List.mem_of_getElem? (i := 2) rfl)) (fun _ h9 => h9) rfl dX11_count_66 ?_
    refine va_get (D := D) (ci := 0) (C := RX0) (T := TX0) (N := 13) hx hb hts fwX11_count_X0 hown hK hP 3 rfl rfl 2 (by decide) (hts _ (List.mem_of_getElem? (i := 5) rfl)) (fun _ h9 => h9) rfl dX11_count_69 ?_
    refine va_get (D := D) (ci := 9) (C := RX9) (T := TX9) (N := 6) hx hb hts fwX11_count_X9 hown hK hP 11 rfl rfl 0 (by decide) (hts _ (List.mem_of_getElem? (i := 6) rfl)) (fun _ h9 => h9) rfl dX11_count_72 ?_
    obtain ⟨hi1, hi2⟩ := Prod.mk.inj (Option.some.inj hf)
    subst hi1
    subst hi2
    exact hret _ _ _ _ dX11_count_75 rfl hP hS
  have hf := (if_neg h2).symm.trans hf
  by_cases h3 : a1 = (2 : Int32)
  · have hf := (if_pos h3).symm.trans hf
    refine lv_tableIn (tgt := 76) hx hb dX11_count_1 (by rw [h3]; decide) (by rw [h3]; decide) (by rw [h3]; rfl) (by decide) ?_
    refine lv_aload_n hx hb dX11_count_76 rfl (lv_at hl 0 rfl) ?_
    refine va_get (D := D) (ci := 11) (C := RX11) (T := TX11) (N := 9) hx hb hts fwX11_count_X11 hown hK hP 0 rfl rfl 1 (by decide) (hts _ (List.mem_of_getElem? (i := 1) rfl)) (fun _ h9 => h9) rfl dX11_count_77 ?_
    refine va_get (D := D) (ci := 2) (C := RX2) (T := TX2) (N := 4) hx hb hts fwX11_count_X2 hown hK hP 2 rfl rfl 1 (by decide) (hts _ (List.mem_of_getElem? (i := 7) rfl)) (fun _ h9 => h9) rfl dX11_count_80 ?_
    refine va_get (D := D) (ci := 7) (C := RX7) (T := TX7) (N := 4) hx hb hts fwX11_count_X7 hown hK hP 16 rfl rfl 0 (by decide) (hts _ (List.mem_of_getElem? (i := 8) rfl)) (fun _ h9 => h9) rfl dX11_count_83 ?_
    obtain ⟨hi1, hi2⟩ := Prod.mk.inj (Option.some.inj hf)
    subst hi1
    subst hi2
    exact hret _ _ _ _ dX11_count_86 rfl hP hS
  have hf := (if_neg h3).symm.trans hf
  by_cases h4 : a1 = (3 : Int32)
  · have hf := (if_pos h4).symm.trans hf
    refine lv_tableIn (tgt := 87) hx hb dX11_count_1 (by rw [h4]; decide) (by rw [h4]; decide) (by rw [h4]; rfl) (by decide) ?_
    refine lv_aload_n hx hb dX11_count_87 rfl (lv_at hl 0 rfl) ?_
    refine va_get (D := D) (ci := 11) (C := RX11) (T := TX11) (N := 9) hx hb hts fwX11_count_X11 hown hK hP 0 rfl rfl 1 (by decide) (hts _ (List.mem_of_getElem? (i := 1) rfl)) (fun _ h9 => h9) rfl dX11_count_88 ?_
    refine va_get (D := D) (ci := 2) (C := RX2) (T := TX2) (N := 4) hx hb hts fwX11_count_X2 hown hK hP 2 rfl rfl 0 (by decide) (hts _ (List.mem_of_getElem? (i := 2) rfl)) (fun _ h9 => h9) rfl dX11_count_91 ?_
    refine va_get (D := D) (ci := 0) (C := RX0) (T := TX0) (N := 13) hx hb hts fwX11_count_X0 hown hK hP 3 rfl rfl 1 (by decide) (hts _ (List.mem_of_getElem? (i := 9) rfl)) (fun _ h9 => h9) rfl dX11_count_94 ?_
    refine q_cVr (wf := (wX11 cI cZ cS ad)) (wc := wX4 cI cZ cS (fun i => ad (9 + i))) (rest := []) ⟨hx, hb, hml, hown, hts⟩ hK hZ hA hP hD hS hf (fun x ho => kX4_logged l D cI cZ cS zz (fun i => ad (9 + i)) (q_sb σ 9) x ho) (cwV 0 hts gX11_count_X4_logged rfl rfl rfl ndX4_logged ⟨Nat.le_of_ble_eq_true rfl, Nat.le_of_ble_eq_true rfl⟩) [9, 10] rfl rfl rfl rfl rfl rfl (hl.1) rfl (Nat.le_of_ble_eq_true rfl) dX11_count_97 ⟨Nat.zero_le _, Nat.zero_le _⟩ (fun r5 H locs hf hP hD hS => ?_)
    obtain ⟨hi1, hi2⟩ := Prod.mk.inj (Option.some.inj hf)
    subst hi1
    subst hi2
    exact hret _ _ _ _ dX11_count_100 rfl hP hS
  have hf := (if_neg h4).symm.trans hf
  by_cases h6 : a1 = (4 : Int32)
  · have hf := (if_pos h6).symm.trans hf
    refine lv_tableIn (tgt := 101) hx hb dX11_count_1 (by rw [h6]; decide) (by rw [h6]; decide) (by rw [h6]; rfl) (by decide) ?_
    refine lv_aload_n hx hb dX11_count_101 rfl (lv_at hl 0 rfl) ?_
    refine va_get (D := D) (ci := 11) (C := RX11) (T := TX11) (N := 9) hx hb hts fwX11_count_X11 hown hK hP 0 rfl rfl 1 (by decide) (hts _ (List.mem_of_getElem? (i := 1) rfl)) (fun _ h9 => h9) rfl dX11_count_102 ?_
    refine va_get (D := D) (ci := 2) (C := RX2) (T := TX2) (N := 4) hx hb hts fwX11_count_X2 hown hK hP 2 rfl rfl 0 (by decide) (hts _ (List.mem_of_getElem? (i := 2) rfl)) (fun _ h9 => h9) rfl dX11_count_105 ?_
    refine va_get (D := D) (ci := 0) (C := RX0) (T := TX0) (N := 13) hx hb hts fwX11_count_X0 hown hK hP 3 rfl rfl 4 (by decide) (hts _ (List.mem_of_getElem? (i := 10) rfl)) (fun _ h9 => h9) rfl dX11_count_108 ?_
    obtain ⟨hi1, hi2⟩ := Prod.mk.inj (Option.some.inj hf)
    subst hi1
    subst hi2
    exact hret _ _ _ _ dX11_count_111 rfl hP hS
  have hf := (if_neg h6).symm.trans hf
  by_cases h7 : a1 = (5 : Int32)
  · have hf := (if_pos h7).symm.trans hf
    refine lv_tableIn (tgt := 112) hx hb dX11_count_1 (by rw [h7]; decide) (by rw [h7]; decide) (by rw [h7]; rfl) (by decide) ?_
    refine lv_aload_n hx hb dX11_count_112 rfl (lv_at hl 0 rfl) ?_
    refine va_get (D := D) (ci := 11) (C := RX11) (T := TX11) (N := 9) hx hb hts fwX11_count_X11 hown hK hP 0 rfl rfl 4 (by decide) (hts _ (List.mem_of_getElem? (i := 11) rfl)) (fun _ h9 => h9) rfl dX11_count_113 ?_
    refine va_get (D := D) (ci := 8) (C := RX8) (T := TX8) (N := 2) hx hb hts fwX11_count_X8 hown hK hP 40 rfl rfl 1 (by decide) (hts _ (List.mem_of_getElem? (i := 12) rfl)) (fun _ h9 => h9) rfl dX11_count_116 ?_
    obtain ⟨hi1, hi2⟩ := Prod.mk.inj (Option.some.inj hf)
    subst hi1
    subst hi2
    exact hret _ _ _ _ dX11_count_119 rfl hP hS
  have hf := (if_neg h7).symm.trans hf
  by_cases h8 : a1 = (6 : Int32)
  · have hf := (if_pos h8).symm.trans hf
    refine lv_tableIn (tgt := 120) hx hb dX11_count_1 (by rw [h8]; decide) (by rw [h8]; decide) (by rw [h8]; rfl) (by decide) ?_
    refine lv_aload_n hx hb dX11_count_120 rfl (lv_at hl 0 rfl) ?_
    refine va_get (D := D) (ci := 11) (C := RX11) (T := TX11) (N := 9) hx hb hts fwX11_count_X11 hown hK hP 0 rfl rfl 1 (by decide) (hts _ (List.mem_of_getElem? (i := 1) rfl)) (fun _ h9 => h9) rfl dX11_count_121 ?_
    refine va_get (D := D) (ci := 2) (C := RX2) (T := TX2) (N := 4) hx hb hts fwX11_count_X2 hown hK hP 2 rfl rfl 3 (by decide) (hts _ (List.mem_of_getElem? (i := 13) rfl)) (fun _ h9 => h9) rfl dX11_count_124 ?_
    obtain ⟨hi1, hi2⟩ := Prod.mk.inj (Option.some.inj hf)
    subst hi1
    subst hi2
    exact hret _ _ _ _ dX11_count_127 rfl hP hS
  have hf := (if_neg h8).symm.trans hf
  by_cases h9 : a1 = (7 : Int32)
  · have hf := (if_pos h9).symm.trans hf
    refine lv_tableIn (tgt := 128) hx hb dX11_count_1 (by rw [h9]; decide) (by rw [h9]; decide) (by rw [h9]; rfl) (by decide) ?_
    refine lv_aload_n hx hb dX11_count_128 rfl (lv_at hl 0 rfl) ?_
    refine va_get (D := D) (ci := 11) (C := RX11) (T := TX11) (N := 9) hx hb hts fwX11_count_X11 hown hK hP 0 rfl rfl 1 (by decide) (hts _ (List.mem_of_getElem? (i := 1) rfl)) (fun _ h9 => h9) rfl dX11_count_129 ?_
    refine va_get (D := D) (ci := 2) (C := RX2) (T := TX2) (N := 4) hx hb hts fwX11_count_X2 hown hK hP 2 rfl rfl 0 (by decide) (hts _ (List.mem_of_getElem? (i := 2) rfl)) (fun _ h9 => h9) rfl dX11_count_132 ?_
    refine va_get (D := D) (ci := 0) (C := RX0) (T := TX0) (N := 13) hx hb hts fwX11_count_X0 hown hK hP 3 rfl rfl 2 (by decide) (hts _ (List.mem_of_getElem? (i := 5) rfl)) (fun _ h9 => h9) rfl dX11_count_135 ?_
    refine va_get (D := D) (ci := 9) (C := RX9) (T := TX9) (N := 6) hx hb hts fwX11_count_X9 hown hK hP 11 rfl rfl 4 (by decide) (hts _ (List.mem_of_getElem? (i := 14) rfl)) (fun _ h9 => h9) rfl dX11_count_138 ?_
    refine q_cSr (wf := (wX11 cI cZ cS ad)) (rest := []) ⟨hx, hb, hml, hown, hts⟩ hK hZ hA hP hD hS hf (fun x ho => kJ6_bitCount_0f7a4 l D cI cZ cS zz (σ 11 4) x ho) (va_cwS 1 hts gX11_count_J6_bitCount_0f7a4 rfl rfl rfl ndJ6_bitCount_0f7a4.2 ⟨Nat.le_of_ble_eq_true rfl, Nat.le_of_ble_eq_true rfl⟩) rfl (hl.1) rfl (Nat.le_of_ble_eq_true rfl) dX11_count_141 ⟨Nat.zero_le _, Nat.zero_le _⟩ (fun r10 H locs hf hP hD hS => ?_)
    obtain ⟨hi1, hi2⟩ := Prod.mk.inj (Option.some.inj hf)
    subst hi1
    subst hi2
    exact hret _ _ _ _ dX11_count_144 rfl hP hS
  have hf := (if_neg h9).symm.trans hf
  refine lv_tableOut (tgt := 145) hx hb dX11_count_1 (by have := q_ne h1 (z := 0) rfl; have := q_ne h2 (z := 1) rfl; have := q_ne h3 (z := 2) rfl; have := q_ne h4 (z := 3) rfl; have := q_ne h6 (z := 4) rfl; have := q_ne h7 (z := 5) rfl; have := q_ne h8 (z := 6) rfl; have := q_ne h9 (z := 7) rfl; omega) (by decide) ?_
  refine lv_aload_n hx hb dX11_count_145 rfl (lv_at hl 0 rfl) ?_
  refine lv_ldc (v := -1000001) hx hb hown (hts _ (List.mem_of_getElem? (i := 15) rfl)) dX11_count_146 ?_
  refine q_cVi (wf := (wX11 cI cZ cS ad)) (wc := wX11 cI cZ cS ad) (rest := []) ⟨hx, hb, hml, hown, hts⟩ hK hZ hA hP hD hS hf (fun x τ ho => kX11_tell l D cI cZ cS zz ad σ (-1000001 : Int32) x τ ho) (cwV 1 hts gX11_count_X11_tell rfl rfl rfl ndX11_tell ⟨Nat.le_of_ble_eq_true rfl, Nat.le_of_ble_eq_true rfl⟩) [0, 1, 2, 3, 4, 5, 6, 7, 8, 9, 10, 11, 12, 13, 14, 15, 16, 17, 18, 19, 20, 21, 22, 23, 24, 25, 26, 27, 28, 29, 30, 31, 32, 33, 34, 35, 36, 37, 38, 39, 40, 41, 42, 43, 44, 45, 46, 47, 48, 49, 50, 51, 52, 53, 54, 55, 56, 57, 58, 59, 60, 61, 62, 63, 64, 65, 66, 67, 68, 69, 70, 71] rfl rfl [some 0, some 1, some 2, some 3, some 4, some 5, some 6, some 7, some 8, some 9, some 10, some 11, some 12, some 13, some 14, some 15, some 16, some 17, some 18, some 19, some 20, some 21, some 22, some 23, some 24, some 25, some 26, some 27, some 28, some 29, some 30, some 31, some 32, some 33, some 34, some 35, some 36, some 37, some 38, some 39, some 40, some 41, some 42, some 43, some 44, some 45, some 46, some 47, some 48, some 49, some 50, some 51, some 52, some 53, some 54, some 55, some 56, some 57, some 58, some 59, some 60, some 61, some 62, some 63, some 64, some 65, some 66, some 67, some 68, some 69, some 70, some 71] (by decide +kernel) (Nat.le_of_ble_eq_true rfl) (fun _ => rfl) (fun _ => rfl) (fun _ => rfl) rfl rfl rfl rfl (hl.1) rfl (Nat.le_of_ble_eq_true rfl) dX11_count_148 ⟨Nat.zero_le _, Nat.zero_le _⟩ (fun r12 σ11 H locs hf hP hD hS => ?_)
  obtain ⟨hi1, hi2⟩ := Prod.mk.inj (Option.some.inj hf)
  subst hi1
  subst hi2
  exact hret _ _ _ _ dX11_count_151 rfl hP hS
def pX11_status (σ : SS) (a1 : Int32) : Option (Int32 × SS) := q_cr (pX11_within a1 (-1 : Int32) (6 : Int32)) (fun (r1 : Int32) => (if r1 = (0 : Int32) then q_ci (pX11_tell σ (-1000001 : Int32)) (fun (τ : SS) => τ) (fun (r14 : Int32) (σ13 : SS) => some (r14, σ13)) else (if a1 < (0 : Int32) then q_lp (fun _ _ => none) (fun (c6 : Int32 → Int32 → Option (Int32 × SS)) (x2_4 : Int32) (x3_5 : Int32) => (if (7 : Int32) ≤ x3_5 then some (x2_4, σ) else q_rd (σ 1) 7 x3_5 (fun (v10 : Int32) => q_lt (x2_4 + v10) (fun x2_11 => c6 x2_11 (x3_5 + (1 : Int32)))))) q_fu (0 : Int32) (0 : Int32) else q_rd (σ 1) 7 a1 (fun (v12 : Int32) => some (v12, σ)))))
theorem fwX11_status_X11 : ∀ w ∈ wsX110, w ∈ wsX11_status := fun _ h => List.mem_cons_of_mem _ (List.mem_append_right _ h)
abbrev rmX11_status : Room := { frames := 1, cells := 0, slots := 0, locals := 22 }
set_option maxHeartbeats 4000000 in
set_option maxRecDepth 100000 in
theorem kX11_status (l : Launch) (D : va_G) (cI cZ cS : ClassId) (zz : ZT) (ad : Nat → Nat) (σ : SS) (a1 : Int32) (rr : Int32) (σr : SS) (hf : pX11_status σ a1 = some (rr, σr)) : CI l yX11_status wsX11_status rmX11_status D (K3 cI cZ cS) zz [.ref (ad 0), .int a1] (wX11 cI cZ cS ad σ) (wX11 cI cZ cS ad σr) rr := by
  refine q_ofI (cc := cX11_status) (maxL := 4) (ty := .int) (by decide) rfl (Nat.le_of_ble_eq_true rfl) ?_
  intro p e s m below meth c Q A ls hx hb hml hown hts hK hZ hA hP hD hS hl hret
  have hl : lv_has ls 4 [(0, .ref (ad 0)), (1, .int a1)] := hl
  unfold pX11_status at hf
  refine lv_iload_n hx hb dX11_status_0 rfl (lv_at hl 1 rfl) ?_
  refine lv_iconst (v := -1) hx hb dX11_status_1 (by decide) ?_
  refine lv_bipush (v := 6) hx hb dX11_status_2 (by decide) ?_
  refine q_cSr (wf := (wX11 cI cZ cS ad)) (rest := []) ⟨hx, hb, hml, hown, hts⟩ hK hZ hA hP hD hS hf (fun x ho => kX11_within l D cI cZ cS zz a1 (-1 : Int32) (6 : Int32) x ho) (va_cwS 3 hts gX11_status_X11_within rfl rfl rfl ndX11_within.2 ⟨Nat.le_of_ble_eq_true rfl, Nat.le_of_ble_eq_true rfl⟩) rfl (hl.1) rfl (Nat.le_of_ble_eq_true rfl) dX11_status_4 ⟨Nat.zero_le _, Nat.zero_le _⟩ (fun r1 H locs hf hP hD hS => ?_)
  refine lv_if_ne (tgt := 17) hx hb dX11_status_7 (by decide) (fun h2 => ?_) (fun h2 => ?_)
  · have hf := (if_neg h2).symm.trans hf
    refine lv_iload_n hx hb dX11_status_17 rfl (lv_at hl 1 rfl) ?_
    refine lv_if_lt (tgt := 28) hx hb dX11_status_18 (by decide) (fun h3 => ?_) (fun h3 => ?_)
    · have hf := (if_pos h3).symm.trans hf
      refine lv_iconst (v := 0) hx hb dX11_status_28 (by decide) ?_
      refine lv_istore_n (lv' := [(2, .int (0 : Int32)), (0, .ref (ad 0)), (1, .int a1)]) hx hb dX11_status_29 rfl hl (by decide) rfl (fun ls hl => ?_)
      refine lv_iconst (v := 0) hx hb dX11_status_30 (by decide) ?_
      refine lv_istore_n (lv' := [(3, .int (0 : Int32)), (2, .int (0 : Int32)), (0, .ref (ad 0)), (1, .int a1)]) hx hb dX11_status_31 rfl hl (by decide) rfl (fun ls hl => ?_)
      refine q_lp_go (f := fun (zf : Int32 → Int32 → Option (Int32 × SS)) => zf (0 : Int32) (0 : Int32)) hf (fun z7 ez7 hf => ?_)
      have Lz7 : ∀ (n8 : Nat) (x2_4 : Int32) (x3_5 : Int32) (H : Heap) (locs : List Loc) (ls : Array Slot), va_P D vwCl ((wX11 cI cZ cS ad) σ) H → va_D A ((wX11 cI cZ cS ad) σ) → va_S A s.heap H locs → lv_has ls 4 [(0, .ref (ad 0)), (2, .int x2_4), (3, .int x3_5)] → q_lp (fun _ _ => none) z7 n8 x2_4 x3_5 = some (rr, σr) → W p l e rmX11_status s m ([.ref (ad 0), .int a1] : List Value).toArray below meth c H locs 0 0 Q (F0 m 32 ls []) := by
        intro n8
        induction n8 with
        | zero => exact fun _ _ _ _ _ _ _ _ _ hf => q_no hf
        | succ n8 ihz7 =>
          intro x2_4 x3_5 H locs ls hP hD hS hl hf
          have hf := (congrFun (congrFun (congrFun ez7 (q_lp (fun _ _ => none) z7 n8)) x2_4) x3_5).symm.trans hf
          refine lv_iload_n hx hb dX11_status_32 rfl (lv_at hl 2 rfl) ?_
          refine lv_bipush (v := 7) hx hb dX11_status_33 (by decide) ?_
          refine lv_icmp_ge (tgt := 53) hx hb dX11_status_35 (by decide) (fun h9 => ?_) (fun h9 => ?_)
          · have hf := (if_pos h9).symm.trans hf
            refine lv_iload_n hx hb dX11_status_53 rfl (lv_at hl 1 rfl) ?_
            obtain ⟨hi1, hi2⟩ := Prod.mk.inj (Option.some.inj hf)
            subst hi1
            subst hi2
            exact hret _ _ _ _ dX11_status_54 rfl hP hS
          · have hf := (if_neg h9).symm.trans hf
            refine lv_iload_n hx hb dX11_status_38 rfl (lv_at hl 1 rfl) ?_
            refine lv_aload_n hx hb dX11_status_39 rfl (lv_at hl 0 rfl) ?_
            refine va_get (D := D) (ci := 11) (C := RX11) (T := TX11) (N := 9) hx hb hts fwX11_status_X11 hown hK hP 0 rfl rfl 0 (by decide) (hts _ (List.mem_of_getElem? (i := 2) rfl)) (fun _ h9 => h9) rfl dX11_status_40 ?_
            refine lv_iload_n hx hb dX11_status_43 rfl (lv_at hl 2 rfl) ?_
            refine w_iald (wf := (wX11 cI cZ cS ad)) hx hb hK hP 1 0 rfl rfl hf dX11_status_44 (fun v10 hf => ?_)
            refine lv_iadd hx hb dX11_status_45 ?_
            refine lv_topi (fun x2_11 ex2_11 => ?_)
            have hf := q_lt_at ex2_11 hf
            refine lv_istore_n (lv' := [(2, .int x2_11), (0, .ref (ad 0)), (3, .int x3_5)]) hx hb dX11_status_46 rfl hl (by decide) rfl (fun ls hl => ?_)
            refine lv_iinc (v := (x3_5 + (1 : Int32))) (lv' := [(3, .int (x3_5 + (1 : Int32))), (2, .int x2_11), (0, .ref (ad 0))]) hx hb dX11_status_47 hl (k := 2) rfl rfl (by decide) rfl (fun ls hl => ?_)
            refine lv_goto (tgt := 32) hx hb dX11_status_50 (by decide) ?_
            exact ihz7 x2_11 (x3_5 + (1 : Int32)) _ _ _ hP hD hS (lv_sub hl [2, 1, 0] rfl) hf
      exact Lz7 q_fu (0 : Int32) (0 : Int32) _ _ _ hP hD hS (lv_sub hl [2, 1, 0] rfl) hf
    · have hf := (if_neg h3).symm.trans hf
      refine lv_aload_n hx hb dX11_status_21 rfl (lv_at hl 0 rfl) ?_
      refine va_get (D := D) (ci := 11) (C := RX11) (T := TX11) (N := 9) hx hb hts fwX11_status_X11 hown hK hP 0 rfl rfl 0 (by decide) (hts _ (List.mem_of_getElem? (i := 2) rfl)) (fun _ h9 => h9) rfl dX11_status_22 ?_
      refine lv_iload_n hx hb dX11_status_25 rfl (lv_at hl 1 rfl) ?_
      refine w_iald (wf := (wX11 cI cZ cS ad)) hx hb hK hP 1 0 rfl rfl hf dX11_status_26 (fun v12 hf => ?_)
      obtain ⟨hi1, hi2⟩ := Prod.mk.inj (Option.some.inj hf)
      subst hi1
      subst hi2
      exact hret _ _ _ _ dX11_status_27 rfl hP hS
  · have hf := (if_pos h2).symm.trans hf
    refine lv_aload_n hx hb dX11_status_10 rfl (lv_at hl 0 rfl) ?_
    refine lv_ldc (v := -1000001) hx hb hown (hts _ (List.mem_of_getElem? (i := 1) rfl)) dX11_status_11 ?_
    refine q_cVi (wf := (wX11 cI cZ cS ad)) (wc := wX11 cI cZ cS ad) (rest := []) ⟨hx, hb, hml, hown, hts⟩ hK hZ hA hP hD hS hf (fun x τ ho => kX11_tell l D cI cZ cS zz ad σ (-1000001 : Int32) x τ ho) (cwV 1 hts gX11_status_X11_tell rfl rfl rfl ndX11_tell ⟨Nat.le_of_ble_eq_true rfl, Nat.le_of_ble_eq_true rfl⟩) [0, 1, 2, 3, 4, 5, 6, 7, 8, 9, 10, 11, 12, 13, 14, 15, 16, 17, 18, 19, 20, 21, 22, 23, 24, 25, 26, 27, 28, 29, 30, 31, 32, 33, 34, 35, 36, 37, 38, 39, 40, 41, 42, 43, 44, 45, 46, 47, 48, 49, 50, 51, 52, 53, 54, 55, 56, 57, 58, 59, 60, 61, 62, 63, 64, 65, 66, 67, 68, 69, 70, 71] rfl rfl [some 0, some 1, some 2, some 3, some 4, some 5, some 6, some 7, some 8, some 9, some 10, some 11, some 12, some 13, some 14, some 15, some 16, some 17, some 18, some 19, some 20, some 21, some 22, some 23, some 24, some 25, some 26, some 27, some 28, some 29, some 30, some 31, some 32, some 33, some 34, some 35, some 36, some 37, some 38, some 39, some 40, some 41, some 42, some 43, some 44, some 45, some 46, some 47, some 48, some 49, some 50, some 51, some 52, some 53, some 54, some 55, some 56, some 57, some 58, some 59, some 60, some 61, some 62, some 63, some 64, some 65, some 66, some 67, some 68, some 69, some 70, some 71] (by decide +kernel) (Nat.le_of_ble_eq_true rfl) (fun _ => rfl) (fun _ => rfl) (fun _ => rfl) rfl rfl rfl rfl (hl.1) rfl (Nat.le_of_ble_eq_true rfl) dX11_status_13 ⟨Nat.zero_le _, Nat.zero_le _⟩ (fun r14 σ13 H locs hf hP hD hS => ?_)
    obtain ⟨hi1, hi2⟩ := Prod.mk.inj (Option.some.inj hf)
    subst hi1
    subst hi2
    exact hret _ _ _ _ dX11_status_16 rfl hP hS
