theorem st_arrI {s : State} {A : Array Value} (h : (Cond.arrayClass .int).before A s = true) : ∃ cA : ClassId, ArrOfT s cA .int ∧ va_RA s cA .int := by
  obtain ⟨c, k, comp, h1, h2, h3⟩ := Cond.arrayClass_spec h
  exact ⟨c, fun N z => ⟨(fun k h => by cases h), k, h2, comp, h3⟩, h1⟩
theorem st_arrZ {s : State} {A : Array Value} (h : (Cond.arrayClass .boolean).before A s = true) : ∃ cA : ClassId, ArrOfT s cA .boolean ∧ va_RA s cA .boolean := by
  obtain ⟨c, k, comp, h1, h2, h3⟩ := Cond.arrayClass_spec h
  exact ⟨c, fun N z => ⟨(fun k h => by cases h), k, h2, comp, h3⟩, h1⟩
theorem st_arrO {C : String} {s : State} (h : va_AO C s) : ∃ cA : ClassId, ArrOfT s cA (.object C) ∧ va_RA s cA (.object C) := by
  obtain ⟨comp, c, k, h1, h2, h3, h4, h5⟩ := Cond.arrayOver_spec h
  exact ⟨c, fun N z => ⟨(fun k h => by cases h), k, h3, comp, h4⟩, k, comp, h3, h4, h1, h5⟩

def k_i5 : Nat → Nat := fun i => ([58, 60, 62, 64, 66, 68, 70, 72, 78, 80] : List Nat).getD i 0
set_option maxRecDepth 100000 in
set_option maxHeartbeats 8000000 in
theorem st_a0 {s : State} {b : Nat} (hts : ∀ w ∈ lw_tbl, w.before #[Value.ref b] s = true) (hs : ∀ w ∈ flatC (Jvm.Cond.and given_1 narrow_1), w.before #[Value.ref b] s = true) : ∃ t : Nat, ZS "KIND_ABOVE" t 7 k_above (lA s) s s.heap := by
  have hA0 : ∀ a : Nat, a < s.heap.size → ¬ lA s a := fun a h => Nat.not_le.mpr h
  obtain ⟨t, e, h⟩ := va_Tof (tm := .static RX11 "KIND_ABOVE" "[I") (ty := .int) (N := 7) (f := fun j => .int (k_above j)) (A := lA s) (by decide) (hs _ (by decide +kernel)) (va_eqt (hs (.eq (.length (.static RX11 "KIND_ABOVE" "[I")) (.int 7)) (by decide +kernel))) (fun j hj => by
    rcases (show j = 0 ∨ j = 1 ∨ j = 2 ∨ j = 3 ∨ j = 4 ∨ j = 5 ∨ j = 6 by omega) with rfl | rfl | rfl | rfl | rfl | rfl | rfl <;> exact va_eqt (hs _ (by decide +kernel))) hA0
  exact ⟨t, va_Zref (hts _ (List.mem_append_right _ (List.mem_append_right _ (List.mem_append_right _ (List.mem_append_right _ (List.mem_append_left _ (List.mem_of_getElem? (l := tables_1_4) (i := 238) rfl))))))) (hts _ (List.mem_append_right _ (List.mem_append_left _ (List.mem_of_getElem? (l := tables_1_1) (i := 1) rfl)))) e hA0, h⟩
set_option maxRecDepth 100000 in
set_option maxHeartbeats 8000000 in
theorem st_a1 {s : State} {b : Nat} (hts : ∀ w ∈ lw_tbl, w.before #[Value.ref b] s = true) (hs : ∀ w ∈ flatC (Jvm.Cond.and given_1 narrow_1), w.before #[Value.ref b] s = true) : ∃ t : Nat, ZS "LEAST_SET" t 8 k_least (lA s) s s.heap := by
  have hA0 : ∀ a : Nat, a < s.heap.size → ¬ lA s a := fun a h => Nat.not_le.mpr h
  obtain ⟨t, e, h⟩ := va_Tof (tm := .static RX11 "LEAST_SET" "[I") (ty := .int) (N := 8) (f := fun j => .int (k_least j)) (A := lA s) (by decide) (hs _ (by decide +kernel)) (va_eqt (hs (.eq (.length (.static RX11 "LEAST_SET" "[I")) (.int 8)) (by decide +kernel))) (fun j hj => by
    rcases (show j = 0 ∨ j = 1 ∨ j = 2 ∨ j = 3 ∨ j = 4 ∨ j = 5 ∨ j = 6 ∨ j = 7 by omega) with rfl | rfl | rfl | rfl | rfl | rfl | rfl | rfl <;> exact va_eqt (hs _ (by decide +kernel))) hA0
  exact ⟨t, va_Zref (hts _ (List.mem_append_right _ (List.mem_append_right _ (List.mem_append_left _ (List.mem_of_getElem? (l := tables_1_2) (i := 202) rfl))))) (hts _ (List.mem_append_right _ (List.mem_append_left _ (List.mem_of_getElem? (l := tables_1_1) (i := 1) rfl)))) e hA0, h⟩
set_option maxRecDepth 100000 in
set_option maxHeartbeats 8000000 in
theorem st_a2 {s : State} {b : Nat} (hts : ∀ w ∈ lw_tbl, w.before #[Value.ref b] s = true) (hs : ∀ w ∈ flatC (Jvm.Cond.and given_1 narrow_1), w.before #[Value.ref b] s = true) : ∃ t : Nat, ZS "MOST_SET" t 8 k_most (lA s) s s.heap := by
  have hA0 : ∀ a : Nat, a < s.heap.size → ¬ lA s a := fun a h => Nat.not_le.mpr h
  obtain ⟨t, e, h⟩ := va_Tof (tm := .static RX11 "MOST_SET" "[I") (ty := .int) (N := 8) (f := fun j => .int (k_most j)) (A := lA s) (by decide) (hs _ (by decide +kernel)) (va_eqt (hs (.eq (.length (.static RX11 "MOST_SET" "[I")) (.int 8)) (by decide +kernel))) (fun j hj => by
    rcases (show j = 0 ∨ j = 1 ∨ j = 2 ∨ j = 3 ∨ j = 4 ∨ j = 5 ∨ j = 6 ∨ j = 7 by omega) with rfl | rfl | rfl | rfl | rfl | rfl | rfl | rfl <;> exact va_eqt (hs _ (by decide +kernel))) hA0
  exact ⟨t, va_Zref (hts _ (List.mem_append_right _ (List.mem_append_right _ (List.mem_append_left _ (List.mem_of_getElem? (l := tables_1_2) (i := 204) rfl))))) (hts _ (List.mem_append_right _ (List.mem_append_left _ (List.mem_of_getElem? (l := tables_1_1) (i := 1) rfl)))) e hA0, h⟩
set_option maxRecDepth 100000 in
set_option maxHeartbeats 8000000 in
theorem st_a3 {s : State} {b : Nat} (hts : ∀ w ∈ lw_tbl, w.before #[Value.ref b] s = true) (hs : ∀ w ∈ flatC (Jvm.Cond.and given_1 narrow_1), w.before #[Value.ref b] s = true) : ∃ t : Nat, ZS "LEAST_OF_DEED" t 6 k_ldeed (lA s) s s.heap := by
  have hA0 : ∀ a : Nat, a < s.heap.size → ¬ lA s a := fun a h => Nat.not_le.mpr h
  obtain ⟨t, e, h⟩ := va_Tof (tm := .static RX11 "LEAST_OF_DEED" "[I") (ty := .int) (N := 6) (f := fun j => .int (k_ldeed j)) (A := lA s) (by decide) (hs _ (by decide +kernel)) (va_eqt (hs (.eq (.length (.static RX11 "LEAST_OF_DEED" "[I")) (.int 6)) (by decide +kernel))) (fun j hj => by
    rcases (show j = 0 ∨ j = 1 ∨ j = 2 ∨ j = 3 ∨ j = 4 ∨ j = 5 by omega) with rfl | rfl | rfl | rfl | rfl | rfl <;> exact va_eqt (hs _ (by decide +kernel))) hA0
  exact ⟨t, va_Zref (hts _ (List.mem_append_right _ (List.mem_append_right _ (List.mem_append_right _ (List.mem_append_left _ (List.mem_of_getElem? (l := tables_1_3) (i := 236) rfl)))))) (hts _ (List.mem_append_right _ (List.mem_append_left _ (List.mem_of_getElem? (l := tables_1_1) (i := 1) rfl)))) e hA0, h⟩
set_option maxRecDepth 100000 in
set_option maxHeartbeats 8000000 in
theorem st_a4 {s : State} {b : Nat} (hts : ∀ w ∈ lw_tbl, w.before #[Value.ref b] s = true) (hs : ∀ w ∈ flatC (Jvm.Cond.and given_1 narrow_1), w.before #[Value.ref b] s = true) : ∃ t : Nat, ZS "MOST_OF_DEED" t 6 k_mdeed (lA s) s s.heap := by
  have hA0 : ∀ a : Nat, a < s.heap.size → ¬ lA s a := fun a h => Nat.not_le.mpr h
  obtain ⟨t, e, h⟩ := va_Tof (tm := .static RX11 "MOST_OF_DEED" "[I") (ty := .int) (N := 6) (f := fun j => .int (k_mdeed j)) (A := lA s) (by decide) (hs _ (by decide +kernel)) (va_eqt (hs (.eq (.length (.static RX11 "MOST_OF_DEED" "[I")) (.int 6)) (by decide +kernel))) (fun j hj => by
    rcases (show j = 0 ∨ j = 1 ∨ j = 2 ∨ j = 3 ∨ j = 4 ∨ j = 5 by omega) with rfl | rfl | rfl | rfl | rfl | rfl <;> exact va_eqt (hs _ (by decide +kernel))) hA0
  exact ⟨t, va_Zref (hts _ (List.mem_append_right _ (List.mem_append_right _ (List.mem_append_right _ (List.mem_append_left _ (List.mem_of_getElem? (l := tables_1_3) (i := 238) rfl)))))) (hts _ (List.mem_append_right _ (List.mem_append_left _ (List.mem_of_getElem? (l := tables_1_1) (i := 1) rfl)))) e hA0, h⟩
set_option maxRecDepth 100000 in
set_option maxHeartbeats 8000000 in
theorem st_s1 {s : State} {b : Nat} (hs : ∀ w ∈ flatC (Jvm.Cond.and given_1 narrow_1), w.before #[Value.ref b] s = true) : ∀ i : Nat, i < 10 → (Cond.exactly (Term.string RX5 (k_i5 i)) "java/lang/String").before #[Value.ref b] s = true := fun i hi => by rcases (show i = 0 ∨ i = 1 ∨ i = 2 ∨ i = 3 ∨ i = 4 ∨ i = 5 ∨ i = 6 ∨ i = 7 ∨ i = 8 ∨ i = 9 by omega) with rfl | rfl | rfl | rfl | rfl | rfl | rfl | rfl | rfl | rfl <;> exact hs _ (by decide +kernel)
set_option maxRecDepth 100000 in
set_option maxHeartbeats 8000000 in
theorem st_s2 {s : State} {b : Nat} (hs : ∀ w ∈ flatC (Jvm.Cond.and given_1 narrow_1), w.before #[Value.ref b] s = true) : ∀ i : Nat, i < 10 → (Cond.eq (.field (Term.string RX5 (k_i5 i)) "java/lang/String" "coder" "B") (.int 0)).before #[Value.ref b] s = true := fun i hi => by rcases (show i = 0 ∨ i = 1 ∨ i = 2 ∨ i = 3 ∨ i = 4 ∨ i = 5 ∨ i = 6 ∨ i = 7 ∨ i = 8 ∨ i = 9 by omega) with rfl | rfl | rfl | rfl | rfl | rfl | rfl | rfl | rfl | rfl <;> exact hs _ (by decide +kernel)
set_option maxRecDepth 100000 in
set_option maxHeartbeats 8000000 in
theorem st_s3 {s : State} {b : Nat} (hs : ∀ w ∈ flatC (Jvm.Cond.and given_1 narrow_1), w.before #[Value.ref b] s = true) : ∀ i : Nat, i < 10 → (Cond.arrayOf (.field (Term.string RX5 (k_i5 i)) "java/lang/String" "value" "[B") .byte).before #[Value.ref b] s = true := fun i hi => by rcases (show i = 0 ∨ i = 1 ∨ i = 2 ∨ i = 3 ∨ i = 4 ∨ i = 5 ∨ i = 6 ∨ i = 7 ∨ i = 8 ∨ i = 9 by omega) with rfl | rfl | rfl | rfl | rfl | rfl | rfl | rfl | rfl | rfl <;> exact hs _ (by decide +kernel)
set_option maxRecDepth 100000 in
set_option maxHeartbeats 8000000 in
theorem st_s4 {s : State} {b : Nat} (hs : ∀ w ∈ flatC (Jvm.Cond.and given_1 narrow_1), w.before #[Value.ref b] s = true) : ∀ i : Nat, i < 10 → (Cond.eq (.length (.field (Term.string RX5 (k_i5 i)) "java/lang/String" "value" "[B")) (.int (Int32.ofNat (k_len.getD i 0)))).before #[Value.ref b] s = true := fun i hi => by rcases (show i = 0 ∨ i = 1 ∨ i = 2 ∨ i = 3 ∨ i = 4 ∨ i = 5 ∨ i = 6 ∨ i = 7 ∨ i = 8 ∨ i = 9 by omega) with rfl | rfl | rfl | rfl | rfl | rfl | rfl | rfl | rfl | rfl <;> exact hs _ (by decide +kernel)
set_option maxRecDepth 100000 in
set_option maxHeartbeats 8000000 in
theorem st_s5 {s : State} {b : Nat} (hs : ∀ w ∈ flatC (Jvm.Cond.and given_1 narrow_1), w.before #[Value.ref b] s = true) : ∀ i : Nat, i < 10 → ∀ j : Nat, j < k_len.getD i 0 → (Cond.eq (.elem (.field (Term.string RX5 (k_i5 i)) "java/lang/String" "value" "[B") (.int (Int32.ofNat j))) (.int ((k_byt.getD i []).getD j 0))).before #[Value.ref b] s = true := fun i hi => by
  rcases (show i = 0 ∨ i = 1 ∨ i = 2 ∨ i = 3 ∨ i = 4 ∨ i = 5 ∨ i = 6 ∨ i = 7 ∨ i = 8 ∨ i = 9 by omega) with rfl | rfl | rfl | rfl | rfl | rfl | rfl | rfl | rfl | rfl
  · intro j hj; replace hj : j < 4 := hj; rcases (show j = 0 ∨ j = 1 ∨ j = 2 ∨ j = 3 by omega) with rfl | rfl | rfl | rfl <;> exact hs _ (by decide +kernel)
  · intro j hj; replace hj : j < 4 := hj; rcases (show j = 0 ∨ j = 1 ∨ j = 2 ∨ j = 3 by omega) with rfl | rfl | rfl | rfl <;> exact hs _ (by decide +kernel)
  · intro j hj; replace hj : j < 7 := hj; rcases (show j = 0 ∨ j = 1 ∨ j = 2 ∨ j = 3 ∨ j = 4 ∨ j = 5 ∨ j = 6 by omega) with rfl | rfl | rfl | rfl | rfl | rfl | rfl <;> exact hs _ (by decide +kernel)
  · intro j hj; replace hj : j < 4 := hj; rcases (show j = 0 ∨ j = 1 ∨ j = 2 ∨ j = 3 by omega) with rfl | rfl | rfl | rfl <;> exact hs _ (by decide +kernel)
  · intro j hj; replace hj : j < 7 := hj; rcases (show j = 0 ∨ j = 1 ∨ j = 2 ∨ j = 3 ∨ j = 4 ∨ j = 5 ∨ j = 6 by omega) with rfl | rfl | rfl | rfl | rfl | rfl | rfl <;> exact hs _ (by decide +kernel)
  · intro j hj; replace hj : j < 4 := hj; rcases (show j = 0 ∨ j = 1 ∨ j = 2 ∨ j = 3 by omega) with rfl | rfl | rfl | rfl <;> exact hs _ (by decide +kernel)
  · intro j hj; replace hj : j < 2 := hj; rcases (show j = 0 ∨ j = 1 by omega) with rfl | rfl <;> exact hs _ (by decide +kernel)
  · intro j hj; replace hj : j < 3 := hj; rcases (show j = 0 ∨ j = 1 ∨ j = 2 by omega) with rfl | rfl | rfl <;> exact hs _ (by decide +kernel)
  · intro j hj; replace hj : j < 6 := hj; rcases (show j = 0 ∨ j = 1 ∨ j = 2 ∨ j = 3 ∨ j = 4 ∨ j = 5 by omega) with rfl | rfl | rfl | rfl | rfl | rfl <;> exact hs _ (by decide +kernel)
  · intro j hj; replace hj : j < 5 := hj; rcases (show j = 0 ∨ j = 1 ∨ j = 2 ∨ j = 3 ∨ j = 4 by omega) with rfl | rfl | rfl | rfl | rfl <;> exact hs _ (by decide +kernel)
set_option maxRecDepth 100000 in
set_option maxHeartbeats 8000000 in
theorem st_s6 {s : State} {b : Nat} (hs : ∀ w ∈ flatC (Jvm.Cond.and given_1 narrow_1), w.before #[Value.ref b] s = true) : ∀ i j : Nat, i < 10 → j < 10 → i ≠ j → (Cond.not (Cond.eq (Term.string RX5 (k_i5 i)) (Term.string RX5 (k_i5 j)))).before #[Value.ref b] s = true ∨ (Cond.not (Cond.eq (Term.string RX5 (k_i5 j)) (Term.string RX5 (k_i5 i)))).before #[Value.ref b] s = true := fun i j hi hj hn => by
  rcases (show i = 0 ∨ i = 1 ∨ i = 2 ∨ i = 3 ∨ i = 4 ∨ i = 5 ∨ i = 6 ∨ i = 7 ∨ i = 8 ∨ i = 9 by omega) with rfl | rfl | rfl | rfl | rfl | rfl | rfl | rfl | rfl | rfl
  · rcases (show j = 1 ∨ j = 2 ∨ j = 3 ∨ j = 4 ∨ j = 5 ∨ j = 6 ∨ j = 7 ∨ j = 8 ∨ j = 9 by omega) with rfl | rfl | rfl | rfl | rfl | rfl | rfl | rfl | rfl
    · exact Or.inl (hs _ (by decide +kernel))
    · exact Or.inl (hs _ (by decide +kernel))
    · exact Or.inl (hs _ (by decide +kernel))
    · exact Or.inl (hs _ (by decide +kernel))
    · exact Or.inl (hs _ (by decide +kernel))
    · exact Or.inl (hs _ (by decide +kernel))
    · exact Or.inl (hs _ (by decide +kernel))
    · exact Or.inl (hs _ (by decide +kernel))
    · exact Or.inl (hs _ (by decide +kernel))
  · rcases (show j = 0 ∨ j = 2 ∨ j = 3 ∨ j = 4 ∨ j = 5 ∨ j = 6 ∨ j = 7 ∨ j = 8 ∨ j = 9 by omega) with rfl | rfl | rfl | rfl | rfl | rfl | rfl | rfl | rfl
    · exact Or.inr (hs _ (by decide +kernel))
    · exact Or.inl (hs _ (by decide +kernel))
    · exact Or.inl (hs _ (by decide +kernel))
    · exact Or.inl (hs _ (by decide +kernel))
    · exact Or.inl (hs _ (by decide +kernel))
    · exact Or.inl (hs _ (by decide +kernel))
    · exact Or.inl (hs _ (by decide +kernel))
    · exact Or.inl (hs _ (by decide +kernel))
    · exact Or.inl (hs _ (by decide +kernel))
  · rcases (show j = 0 ∨ j = 1 ∨ j = 3 ∨ j = 4 ∨ j = 5 ∨ j = 6 ∨ j = 7 ∨ j = 8 ∨ j = 9 by omega) with rfl | rfl | rfl | rfl | rfl | rfl | rfl | rfl | rfl
    · exact Or.inr (hs _ (by decide +kernel))
    · exact Or.inr (hs _ (by decide +kernel))
    · exact Or.inl (hs _ (by decide +kernel))
    · exact Or.inl (hs _ (by decide +kernel))
    · exact Or.inl (hs _ (by decide +kernel))
    · exact Or.inl (hs _ (by decide +kernel))
    · exact Or.inl (hs _ (by decide +kernel))
    · exact Or.inl (hs _ (by decide +kernel))
    · exact Or.inl (hs _ (by decide +kernel))
  · rcases (show j = 0 ∨ j = 1 ∨ j = 2 ∨ j = 4 ∨ j = 5 ∨ j = 6 ∨ j = 7 ∨ j = 8 ∨ j = 9 by omega) with rfl | rfl | rfl | rfl | rfl | rfl | rfl | rfl | rfl
    · exact Or.inr (hs _ (by decide +kernel))
    · exact Or.inr (hs _ (by decide +kernel))
    · exact Or.inr (hs _ (by decide +kernel))
    · exact Or.inl (hs _ (by decide +kernel))
    · exact Or.inl (hs _ (by decide +kernel))
    · exact Or.inl (hs _ (by decide +kernel))
    · exact Or.inl (hs _ (by decide +kernel))
    · exact Or.inl (hs _ (by decide +kernel))
    · exact Or.inl (hs _ (by decide +kernel))
  · rcases (show j = 0 ∨ j = 1 ∨ j = 2 ∨ j = 3 ∨ j = 5 ∨ j = 6 ∨ j = 7 ∨ j = 8 ∨ j = 9 by omega) with rfl | rfl | rfl | rfl | rfl | rfl | rfl | rfl | rfl
    · exact Or.inr (hs _ (by decide +kernel))
    · exact Or.inr (hs _ (by decide +kernel))
    · exact Or.inr (hs _ (by decide +kernel))
    · exact Or.inr (hs _ (by decide +kernel))
    · exact Or.inl (hs _ (by decide +kernel))
    · exact Or.inl (hs _ (by decide +kernel))
    · exact Or.inl (hs _ (by decide +kernel))
    · exact Or.inl (hs _ (by decide +kernel))
    · exact Or.inl (hs _ (by decide +kernel))
  · rcases (show j = 0 ∨ j = 1 ∨ j = 2 ∨ j = 3 ∨ j = 4 ∨ j = 6 ∨ j = 7 ∨ j = 8 ∨ j = 9 by omega) with rfl | rfl | rfl | rfl | rfl | rfl | rfl | rfl | rfl
    · exact Or.inr (hs _ (by decide +kernel))
    · exact Or.inr (hs _ (by decide +kernel))
    · exact Or.inr (hs _ (by decide +kernel))
    · exact Or.inr (hs _ (by decide +kernel))
    · exact Or.inr (hs _ (by decide +kernel))
    · exact Or.inl (hs _ (by decide +kernel))
    · exact Or.inl (hs _ (by decide +kernel))
    · exact Or.inl (hs _ (by decide +kernel))
    · exact Or.inl (hs _ (by decide +kernel))
  · rcases (show j = 0 ∨ j = 1 ∨ j = 2 ∨ j = 3 ∨ j = 4 ∨ j = 5 ∨ j = 7 ∨ j = 8 ∨ j = 9 by omega) with rfl | rfl | rfl | rfl | rfl | rfl | rfl | rfl | rfl
    · exact Or.inr (hs _ (by decide +kernel))
    · exact Or.inr (hs _ (by decide +kernel))
    · exact Or.inr (hs _ (by decide +kernel))
    · exact Or.inr (hs _ (by decide +kernel))
    · exact Or.inr (hs _ (by decide +kernel))
    · exact Or.inr (hs _ (by decide +kernel))
    · exact Or.inl (hs _ (by decide +kernel))
    · exact Or.inl (hs _ (by decide +kernel))
    · exact Or.inl (hs _ (by decide +kernel))
  · rcases (show j = 0 ∨ j = 1 ∨ j = 2 ∨ j = 3 ∨ j = 4 ∨ j = 5 ∨ j = 6 ∨ j = 8 ∨ j = 9 by omega) with rfl | rfl | rfl | rfl | rfl | rfl | rfl | rfl | rfl
    · exact Or.inr (hs _ (by decide +kernel))
    · exact Or.inr (hs _ (by decide +kernel))
    · exact Or.inr (hs _ (by decide +kernel))
    · exact Or.inr (hs _ (by decide +kernel))
    · exact Or.inr (hs _ (by decide +kernel))
    · exact Or.inr (hs _ (by decide +kernel))
    · exact Or.inr (hs _ (by decide +kernel))
    · exact Or.inl (hs _ (by decide +kernel))
    · exact Or.inl (hs _ (by decide +kernel))
  · rcases (show j = 0 ∨ j = 1 ∨ j = 2 ∨ j = 3 ∨ j = 4 ∨ j = 5 ∨ j = 6 ∨ j = 7 ∨ j = 9 by omega) with rfl | rfl | rfl | rfl | rfl | rfl | rfl | rfl | rfl
    · exact Or.inr (hs _ (by decide +kernel))
    · exact Or.inr (hs _ (by decide +kernel))
    · exact Or.inr (hs _ (by decide +kernel))
    · exact Or.inr (hs _ (by decide +kernel))
    · exact Or.inr (hs _ (by decide +kernel))
    · exact Or.inr (hs _ (by decide +kernel))
    · exact Or.inr (hs _ (by decide +kernel))
    · exact Or.inr (hs _ (by decide +kernel))
    · exact Or.inl (hs _ (by decide +kernel))
  · rcases (show j = 0 ∨ j = 1 ∨ j = 2 ∨ j = 3 ∨ j = 4 ∨ j = 5 ∨ j = 6 ∨ j = 7 ∨ j = 8 by omega) with rfl | rfl | rfl | rfl | rfl | rfl | rfl | rfl | rfl
    · exact Or.inr (hs _ (by decide +kernel))
    · exact Or.inr (hs _ (by decide +kernel))
    · exact Or.inr (hs _ (by decide +kernel))
    · exact Or.inr (hs _ (by decide +kernel))
    · exact Or.inr (hs _ (by decide +kernel))
    · exact Or.inr (hs _ (by decide +kernel))
    · exact Or.inr (hs _ (by decide +kernel))
    · exact Or.inr (hs _ (by decide +kernel))
    · exact Or.inr (hs _ (by decide +kernel))
set_option maxRecDepth 100000 in
set_option maxHeartbeats 8000000 in
theorem st_zk {s : State} {b : Nat} (hts : ∀ w ∈ lw_tbl, w.before #[Value.ref b] s = true) (hs : ∀ w ∈ flatC (Jvm.Cond.and given_1 narrow_1), w.before #[Value.ref b] s = true) : ∃ zz : ZT, ZK zz (lA s) s s.heap := by
  have hA0 : ∀ a : Nat, a < s.heap.size → ¬ lA s a := fun a h => Nat.not_le.mpr h
  obtain ⟨t0, h0⟩ := st_a0 hts hs
  obtain ⟨t1, h1⟩ := st_a1 hts hs
  obtain ⟨t2, h2⟩ := st_a2 hts hs
  obtain ⟨t3, h3⟩ := st_a3 hts hs
  obtain ⟨t4, h4⟩ := st_a4 hts hs
  obtain ⟨adK, adV, hSS, hev⟩ := vk_Sof (N := 10) (tm := fun i => Term.string RX5 (k_i5 i)) (len := k_len) (byt := k_byt) (A := lA s) (fun i hi => Nat.lt_of_lt_of_le (k_len_lt i hi) (Nat.le_of_ble_eq_true rfl)) (st_s1 hs) (st_s2 hs) (st_s3 hs) (st_s4 hs) (st_s5 hs) (st_s6 hs) hA0
  refine ⟨(fun i => if i = 0 then t0 else if i = 1 then t1 else if i = 2 then t2 else if i = 3 then t3 else t4, adK, adV), h0, h1, h2, h3, h4, ?_, hSS, ?_, ?_⟩
  · exact ⟨va_Nw.of rfl (hts _ (List.mem_append_right _ (List.mem_append_right _ (List.mem_append_right _ (List.mem_append_left _ (List.mem_of_getElem? (l := tables_1_3) (i := 6) rfl)))))), va_Nw.of rfl (hts _ (List.mem_append_right _ (List.mem_append_right _ (List.mem_append_right _ (List.mem_append_left _ (List.mem_of_getElem? (l := tables_1_3) (i := 235) rfl)))))), va_Nw.of rfl (hts _ (List.mem_append_right _ (List.mem_append_right _ (List.mem_append_right _ (List.mem_append_left _ (List.mem_of_getElem? (l := tables_1_3) (i := 237) rfl)))))), va_Nw.of rfl (hts _ (List.mem_append_right _ (List.mem_append_right _ (List.mem_append_right _ (List.mem_append_right _ (List.mem_append_left _ (List.mem_of_getElem? (l := tables_1_4) (i := 237) rfl))))))), va_Nw.of rfl (hts _ (List.mem_append_right _ (List.mem_append_right _ (List.mem_append_right _ (List.mem_append_left _ (List.mem_of_getElem? (l := tables_1_3) (i := 239) rfl)))))), va_Nw.of rfl (hts _ (List.mem_append_right _ (List.mem_append_right _ (List.mem_append_right _ (List.mem_append_left _ (List.mem_of_getElem? (l := tables_1_3) (i := 144) rfl)))))), va_Nw.of rfl (hts _ (List.mem_append_right _ (List.mem_append_right _ (List.mem_append_left _ (List.mem_of_getElem? (l := tables_1_2) (i := 29) rfl))))), va_Nw.of rfl (hts _ (List.mem_append_right _ (List.mem_append_right _ (List.mem_append_left _ (List.mem_of_getElem? (l := tables_1_2) (i := 110) rfl))))), va_Nw.of rfl (hts _ (List.mem_append_right _ (List.mem_append_left _ (List.mem_of_getElem? (l := tables_1_1) (i := 44) rfl)))), va_Nw.of rfl (hts _ (List.mem_append_right _ (List.mem_append_left _ (List.mem_of_getElem? (l := tables_1_1) (i := 77) rfl)))), va_Nw.of rfl (hts _ (List.mem_append_right _ (List.mem_append_left _ (List.mem_of_getElem? (l := tables_1_1) (i := 135) rfl)))), va_Nw.of rfl (hts _ (List.mem_append_right _ (List.mem_append_left _ (List.mem_of_getElem? (l := tables_1_1) (i := 38) rfl)))), va_Nw.of rfl (hts _ (List.mem_append_right _ (List.mem_append_left _ (List.mem_of_getElem? (l := tables_1_1) (i := 228) rfl)))), va_Nw.of rfl (hts _ (List.mem_append_right _ (List.mem_append_right _ (List.mem_append_left _ (List.mem_of_getElem? (l := tables_1_2) (i := 74) rfl)))))⟩
  · exact ⟨⟨vk_R.of (hts _ (List.mem_append_right _ (List.mem_append_right _ (List.mem_append_right _ (List.mem_append_left _ (List.mem_of_getElem? (l := tables_1_3) (i := 165) rfl)))))) (hev 0 (by decide)), vk_R.of (hts _ (List.mem_append_right _ (List.mem_append_right _ (List.mem_append_right _ (List.mem_append_right _ (List.mem_append_right _ (List.mem_append_right _ (List.mem_append_left _ (List.mem_of_getElem? (l := tables_1_6) (i := 70) rfl))))))))) (by obtain ⟨y, g1, g2⟩ := Cond.eq_one (hs (.eq (.string RX5 58) (.string RX12 151)) (by decide +kernel)); have g3 := g1.symm.trans (hev 0 (by decide)); rw [Option.some.inj g3] at g2; exact g2)⟩,
      ⟨vk_R.of (hts _ (List.mem_append_right _ (List.mem_append_right _ (List.mem_append_right _ (List.mem_append_left _ (List.mem_of_getElem? (l := tables_1_3) (i := 166) rfl)))))) (hev 1 (by decide)), vk_R.of (hts _ (List.mem_append_right _ (List.mem_append_right _ (List.mem_append_right _ (List.mem_append_right _ (List.mem_append_right _ (List.mem_append_right _ (List.mem_append_left _ (List.mem_of_getElem? (l := tables_1_6) (i := 89) rfl))))))))) (by obtain ⟨y, g1, g2⟩ := Cond.eq_one (hs (.eq (.string RX5 60) (.string RX12 159)) (by decide +kernel)); have g3 := g1.symm.trans (hev 1 (by decide)); rw [Option.some.inj g3] at g2; exact g2)⟩,
      ⟨vk_R.of (hts _ (List.mem_append_right _ (List.mem_append_right _ (List.mem_append_right _ (List.mem_append_left _ (List.mem_of_getElem? (l := tables_1_3) (i := 167) rfl)))))) (hev 2 (by decide)), vk_R.of (hts _ (List.mem_append_right _ (List.mem_append_right _ (List.mem_append_right _ (List.mem_append_right _ (List.mem_append_right _ (List.mem_append_right _ (List.mem_append_left _ (List.mem_of_getElem? (l := tables_1_6) (i := 90) rfl))))))))) (by obtain ⟨y, g1, g2⟩ := Cond.eq_one (hs (.eq (.string RX5 62) (.string RX12 161)) (by decide +kernel)); have g3 := g1.symm.trans (hev 2 (by decide)); rw [Option.some.inj g3] at g2; exact g2)⟩,
      ⟨vk_R.of (hts _ (List.mem_append_right _ (List.mem_append_right _ (List.mem_append_right _ (List.mem_append_left _ (List.mem_of_getElem? (l := tables_1_3) (i := 168) rfl)))))) (hev 3 (by decide)), vk_R.of (hts _ (List.mem_append_right _ (List.mem_append_right _ (List.mem_append_right _ (List.mem_append_right _ (List.mem_append_right _ (List.mem_append_right _ (List.mem_append_left _ (List.mem_of_getElem? (l := tables_1_6) (i := 97) rfl))))))))) (by obtain ⟨y, g1, g2⟩ := Cond.eq_one (hs (.eq (.string RX5 64) (.string RX12 171)) (by decide +kernel)); have g3 := g1.symm.trans (hev 3 (by decide)); rw [Option.some.inj g3] at g2; exact g2)⟩,
      ⟨vk_R.of (hts _ (List.mem_append_right _ (List.mem_append_right _ (List.mem_append_right _ (List.mem_append_left _ (List.mem_of_getElem? (l := tables_1_3) (i := 169) rfl)))))) (hev 4 (by decide)), vk_R.of (hts _ (List.mem_append_right _ (List.mem_append_right _ (List.mem_append_right _ (List.mem_append_right _ (List.mem_append_right _ (List.mem_append_right _ (List.mem_append_left _ (List.mem_of_getElem? (l := tables_1_6) (i := 100) rfl))))))))) (by obtain ⟨y, g1, g2⟩ := Cond.eq_one (hs (.eq (.string RX5 66) (.string RX12 177)) (by decide +kernel)); have g3 := g1.symm.trans (hev 4 (by decide)); rw [Option.some.inj g3] at g2; exact g2)⟩,
      ⟨vk_R.of (hts _ (List.mem_append_right _ (List.mem_append_right _ (List.mem_append_right _ (List.mem_append_left _ (List.mem_of_getElem? (l := tables_1_3) (i := 170) rfl)))))) (hev 5 (by decide)), vk_R.of (hts _ (List.mem_append_right _ (List.mem_append_right _ (List.mem_append_right _ (List.mem_append_right _ (List.mem_append_right _ (List.mem_append_right _ (List.mem_append_left _ (List.mem_of_getElem? (l := tables_1_6) (i := 101) rfl))))))))) (by obtain ⟨y, g1, g2⟩ := Cond.eq_one (hs (.eq (.string RX5 68) (.string RX12 179)) (by decide +kernel)); have g3 := g1.symm.trans (hev 5 (by decide)); rw [Option.some.inj g3] at g2; exact g2)⟩,
      ⟨vk_R.of (hts _ (List.mem_append_right _ (List.mem_append_right _ (List.mem_append_right _ (List.mem_append_left _ (List.mem_of_getElem? (l := tables_1_3) (i := 227) rfl)))))) (hev 6 (by decide)), vk_R.of (hts _ (List.mem_append_right _ (List.mem_append_right _ (List.mem_append_right _ (List.mem_append_right _ (List.mem_append_right _ (List.mem_append_right _ (List.mem_append_left _ (List.mem_of_getElem? (l := tables_1_6) (i := 91) rfl))))))))) (by obtain ⟨y, g1, g2⟩ := Cond.eq_one (hs (.eq (.string RX5 70) (.string RX12 163)) (by decide +kernel)); have g3 := g1.symm.trans (hev 6 (by decide)); rw [Option.some.inj g3] at g2; exact g2)⟩,
      ⟨vk_R.of (hts _ (List.mem_append_right _ (List.mem_append_right _ (List.mem_append_right _ (List.mem_append_left _ (List.mem_of_getElem? (l := tables_1_3) (i := 228) rfl)))))) (hev 7 (by decide)), vk_R.of (hts _ (List.mem_append_right _ (List.mem_append_right _ (List.mem_append_right _ (List.mem_append_right _ (List.mem_append_right _ (List.mem_append_right _ (List.mem_append_left _ (List.mem_of_getElem? (l := tables_1_6) (i := 92) rfl))))))))) (by obtain ⟨y, g1, g2⟩ := Cond.eq_one (hs (.eq (.string RX5 72) (.string RX12 165)) (by decide +kernel)); have g3 := g1.symm.trans (hev 7 (by decide)); rw [Option.some.inj g3] at g2; exact g2)⟩,
      ⟨vk_R.of (hts _ (List.mem_append_right _ (List.mem_append_right _ (List.mem_append_right _ (List.mem_append_left _ (List.mem_of_getElem? (l := tables_1_3) (i := 233) rfl)))))) (hev 8 (by decide)), vk_R.of (hts _ (List.mem_append_right _ (List.mem_append_right _ (List.mem_append_right _ (List.mem_append_right _ (List.mem_append_right _ (List.mem_append_right _ (List.mem_append_left _ (List.mem_of_getElem? (l := tables_1_6) (i := 98) rfl))))))))) (by obtain ⟨y, g1, g2⟩ := Cond.eq_one (hs (.eq (.string RX5 78) (.string RX12 173)) (by decide +kernel)); have g3 := g1.symm.trans (hev 8 (by decide)); rw [Option.some.inj g3] at g2; exact g2)⟩,
      ⟨vk_R.of (hts _ (List.mem_append_right _ (List.mem_append_right _ (List.mem_append_right _ (List.mem_append_left _ (List.mem_of_getElem? (l := tables_1_3) (i := 234) rfl)))))) (hev 9 (by decide)), vk_R.of (hts _ (List.mem_append_right _ (List.mem_append_right _ (List.mem_append_right _ (List.mem_append_right _ (List.mem_append_right _ (List.mem_append_right _ (List.mem_append_left _ (List.mem_of_getElem? (l := tables_1_6) (i := 99) rfl))))))))) (by obtain ⟨y, g1, g2⟩ := Cond.eq_one (hs (.eq (.string RX5 80) (.string RX12 175)) (by decide +kernel)); have g3 := g1.symm.trans (hev 9 (by decide)); rw [Option.some.inj g3] at g2; exact g2)⟩⟩
  · exact ⟨va_Zof (hts _ (List.mem_append_right _ (List.mem_append_right _ (List.mem_append_right _ (List.mem_append_left _ (List.mem_of_getElem? (l := tables_1_3) (i := 184) rfl)))))) (hts _ (List.mem_append_right _ (List.mem_append_left _ (List.mem_of_getElem? (l := tables_1_1) (i := 16) rfl)))) (va_eqi (hs _ (by decide +kernel))) hA0, va_Zqof (hts _ (List.mem_append_right _ (List.mem_append_right _ (List.mem_append_right _ (List.mem_append_left _ (List.mem_of_getElem? (l := tables_1_3) (i := 200) rfl)))))) (hts _ (List.mem_append_right _ (List.mem_append_left _ (List.mem_of_getElem? (l := tables_1_1) (i := 18) rfl)))) (hs _ (by decide +kernel)) hA0⟩
set_option maxRecDepth 100000 in
set_option maxHeartbeats 8000000 in
theorem st_k {s : State} {b : Nat} (hts : ∀ w ∈ lw_tbl, w.before #[Value.ref b] s = true) : ∃ (D : va_G) (cI cZ cS : ClassId), va_K D vwCl (K3 cI cZ cS) s := by
  obtain ⟨c0, i0, h0⟩ := u_known (C := RX0) (T := TX0) (N := 13) (n := 13) hts inX0 (hts _ (List.mem_append_right _ (List.mem_append_left _ (List.mem_of_getElem? (l := tables_1_1) (i := 37) rfl))))
  obtain ⟨c1, i1, h1⟩ := u_known (C := RX1) (T := TX1) (N := 5) (n := 5) hts inX1 (hts _ (List.mem_append_right _ (List.mem_append_right _ (List.mem_append_left _ (List.mem_of_getElem? (l := tables_1_2) (i := 86) rfl)))))
  obtain ⟨c2, i2, h2⟩ := u_known (C := RX2) (T := TX2) (N := 4) (n := 4) hts inX2 (hts _ (List.mem_append_right _ (List.mem_append_left _ (List.mem_of_getElem? (l := tables_1_1) (i := 31) rfl))))
  obtain ⟨c3, i3, h3⟩ := u_known (C := RX3) (T := TX3) (N := 3) (n := 3) hts inX3 (hts _ (List.mem_append_right _ (List.mem_append_right _ (List.mem_append_left _ (List.mem_of_getElem? (l := tables_1_2) (i := 68) rfl)))))
  obtain ⟨c4, i4, h4⟩ := u_known (C := RX4) (T := TX4) (N := 11) (n := 11) hts inX4 (hts _ (List.mem_append_right _ (List.mem_append_left _ (List.mem_of_getElem? (l := tables_1_1) (i := 76) rfl))))
  obtain ⟨c5, i5, h5⟩ := u_known (C := RX5) (T := TX5) (N := 5) (n := 5) hts inX5 (hts _ (List.mem_append_right _ (List.mem_append_right _ (List.mem_append_left _ (List.mem_of_getElem? (l := tables_1_2) (i := 44) rfl)))))
  obtain ⟨c6, i6, h6⟩ := u_known (C := RX6) (T := TX6) (N := 3) (n := 3) hts inX6 (hts _ (List.mem_append_right _ (List.mem_append_right _ (List.mem_append_left _ (List.mem_of_getElem? (l := tables_1_2) (i := 109) rfl)))))
  obtain ⟨c7, i7, h7⟩ := u_known (C := RX7) (T := TX7) (N := 4) (n := 4) hts inX7 (hts _ (List.mem_append_right _ (List.mem_append_left _ (List.mem_of_getElem? (l := tables_1_1) (i := 227) rfl))))
  obtain ⟨c8, i8, h8⟩ := u_known (C := RX8) (T := TX8) (N := 2) (n := 2) hts inX8 (hts _ (List.mem_append_right _ (List.mem_append_right _ (List.mem_append_left _ (List.mem_of_getElem? (l := tables_1_2) (i := 28) rfl)))))
  obtain ⟨c9, i9, h9⟩ := u_known (C := RX9) (T := TX9) (N := 6) (n := 6) hts inX9 (hts _ (List.mem_append_right _ (List.mem_append_left _ (List.mem_of_getElem? (l := tables_1_1) (i := 134) rfl))))
  obtain ⟨c10, i10, h10⟩ := u_known (C := RX10) (T := TX10) (N := 5) (n := 5) hts inX10 (hts _ (List.mem_append_right _ (List.mem_append_left _ (List.mem_of_getElem? (l := tables_1_1) (i := 43) rfl))))
  obtain ⟨c11, i11, h11⟩ := u_known (C := RX11) (T := TX11) (N := 9) (n := 9) hts inX11 (hts _ (List.mem_append_right _ (List.mem_append_left _ (List.mem_of_getElem? (l := tables_1_1) (i := 23) rfl))))
  obtain ⟨c12, i12, h12⟩ := u_known (C := RX12) (T := TX12) (N := 19) (n := 19) hts inX12 (hts _ (List.mem_append_right _ (List.mem_append_right _ (List.mem_append_right _ (List.mem_append_right _ (List.mem_append_right _ (List.mem_append_left _ (List.mem_of_getElem? (l := tables_1_5) (i := 85) rfl))))))))
  obtain ⟨cI, g1, g2⟩ := st_arrI (hts _ (List.mem_append_right _ (List.mem_append_left _ (List.mem_of_getElem? (l := tables_1_1) (i := 74) rfl))))
  obtain ⟨cZ, g3, g4⟩ := st_arrZ (hts _ (List.mem_append_right _ (List.mem_append_right _ (List.mem_append_left _ (List.mem_of_getElem? (l := tables_1_2) (i := 108) rfl)))))
  obtain ⟨cS, g5, g6⟩ := st_arrO (C := RX6) (va_AO.of (hts _ (List.mem_append_right _ (List.mem_append_right _ (List.mem_append_left _ (List.mem_of_getElem? (l := tables_1_2) (i := 66) rfl))))))
  refine ⟨(fun k => if k = 0 then c0 else if k = 1 then c1 else if k = 2 then c2 else if k = 3 then c3 else if k = 4 then c4 else if k = 5 then c5 else if k = 6 then c6 else if k = 7 then c7 else if k = 8 then c8 else if k = 9 then c9 else if k = 10 then c10 else if k = 11 then c11 else c12, fun k => if k = 0 then i0 else if k = 1 then i1 else if k = 2 then i2 else if k = 3 then i3 else if k = 4 then i4 else if k = 5 then i5 else if k = 6 then i6 else if k = 7 then i7 else if k = 8 then i8 else if k = 9 then i9 else if k = 10 then i10 else if k = 11 then i11 else i12), cI, cZ, cS, ?_, ?_⟩
  · intro k q hq
    match k, hq with
    | 0, hq => cases hq; exact h0
    | 1, hq => cases hq; exact h1
    | 2, hq => cases hq; exact h2
    | 3, hq => cases hq; exact h3
    | 4, hq => cases hq; exact h4
    | 5, hq => cases hq; exact h5
    | 6, hq => cases hq; exact h6
    | 7, hq => cases hq; exact h7
    | 8, hq => cases hq; exact h8
    | 9, hq => cases hq; exact h9
    | 10, hq => cases hq; exact h10
    | 11, hq => cases hq; exact h11
    | 12, hq => cases hq; exact h12
    | k + 13, hq => simp [vwCl] at hq
  · intro k q hq
    match k, hq with
    | 0, hq => cases hq; exact ⟨g1, g2⟩
    | 1, hq => cases hq; exact ⟨g3, g4⟩
    | 2, hq => cases hq; exact ⟨g5, g6⟩
    | k + 3, hq => simp [K3] at hq
set_option maxRecDepth 100000 in
set_option maxHeartbeats 8000000 in
theorem whole_start_of {Rel : SS → SS → Prop} (sims : Sims Rel) (first : ∀ σ τ : SS, iX11 σ → iX12 τ → Rel σ τ) {p : Program} {e : Env} {s : State} {m : MethodId} {below : List Frame} {meth : Method} {c : Code} (l : Launch) {b L : Nat} {xs : Nat → Int32} (hL : L ≤ 384) (C0 : lw_At p s m meth c b L xs) : W p l e room_1 s m #[Value.ref b] below meth c s.heap [] 0 0 (lw_Z below #[Value.ref b] s) (entryFrame m ([Value.ref b] : List Value).toArray 4) := by
  obtain ⟨hx, hb, hr, hml, hown, hts, hX, hbl, hlocks, hgv⟩ := id C0
  have hs := flat_of_before _ hgv
  have hA : ∀ q : Nat, s.heap.size ≤ q → lA s q := fun _ h => h
  obtain ⟨zz, hZ⟩ := st_zk hts hs
  obtain ⟨D, cI, cZ, cS, hK⟩ := st_k hts
  have hE : va_AO RX6 s := va_AO.of (hts _ (List.mem_append_right _ (List.mem_append_right _ (List.mem_append_left _ (List.mem_of_getElem? (l := tables_1_2) (i := 66) rfl)))))
  have hS : va_S (lA s) s.heap s.heap [] := va_S.rf
  have hP : va_P D vwCl [] s.heap := fun k q h => by simp at h
  have hD : va_D (lA s) [] := ⟨fun i j p q h => by simp at h, fun k q h => by simp at h⟩
  have C : LX p s m meth c b L xs D cI cZ cS zz := ⟨hx, hb, hml, hown, hts, hK, hZ, hX, hbl, hlocks, hr⟩
  have hl := lv_entry ([.ref b]) (n := 4) (Nat.le_of_ble_eq_true rfl)
  rw [lg_entry_eq]
  generalize (lg_sl ([.ref b]) ++ List.replicate (4 - (lg_sl ([.ref b])).length) Slot.unset).toArray = ls at hl ⊢
  have hl : lv_has ls 4 [(0, .ref b)] := hl
  refine va_new (ci := 11) (fs := [.null, .null, .null, .int (0 : Int32), .null, .null, .null, .null, .null]) (C := RX11) (T := TX11) (N := 9) hx hb hts inX11 tyX11 tyX11_ok hown (hts _ (List.mem_append_right _ (List.mem_append_left _ (List.mem_of_getElem? (l := tables_1_1) (i := 22) rfl)))) (hts _ (List.mem_append_right _ (List.mem_append_left _ (List.mem_of_getElem? (l := tables_1_1) (i := 23) rfl)))) (hts _ (List.mem_append_right _ (List.mem_append_left _ (List.mem_of_getElem? (l := tables_1_1) (i := 1) rfl)))) hK hP hD hS hA rfl (fun j hj => by rcases (show j = 0 ∨ j = 1 ∨ j = 2 ∨ j = 3 ∨ j = 4 ∨ j = 5 ∨ j = 6 ∨ j = 7 ∨ j = 8 by omega) with rfl | rfl | rfl | rfl | rfl | rfl | rfl | rfl | rfl <;> rfl) (Nat.le_of_ble_eq_true rfl) (Nat.le_of_ble_eq_true rfl) dL_law_0 (fun q1 H hP hD hS => ?_)
  have hP : va_P D vwCl [(q1, .inr (11, [.null, .null, .null, .int (0 : Int32), .null, .null, .null, .null, .null]))] H := hP
  have hD : va_D (lA s) [(q1, .inr (11, [.null, .null, .null, .int (0 : Int32), .null, .null, .null, .null, .null]))] := hD
  refine W.widen (k := 1) (n := 9) (Nat.le_of_ble_eq_true rfl) (Nat.le_of_ble_eq_true rfl) ?_
  refine lv_dup hx hb dL_law_3 rfl ?_
  refine q_cN (wr := []) (wpost := wX11 cI cZ cS) (rest := [.ref q1]) ⟨hx, hb, hml, hown, hts⟩ hK hZ hA hP hD hS (kX11_init l D cI cZ cS zz q1) (fun U g mk a h => h) (fun U hW => va_AO.moved hW.alike hE) (cwI 0 hts gl_X11_init rfl rfl rfl (hts _ (List.mem_append_right _ (List.mem_append_left _ (List.mem_of_getElem? (l := tables_1_1) (i := 1) rfl)))) (hts _ (List.mem_append_right _ (List.mem_append_left _ (List.mem_of_getElem? (l := tables_1_1) (i := 24) rfl)))) (hts _ (List.mem_append_right _ (List.mem_append_left _ (List.mem_of_getElem? (l := tables_1_1) (i := 25) rfl)))) rfl ndX11_init.2 ⟨Nat.le_of_ble_eq_true rfl, Nat.le_of_ble_eq_true rfl⟩) 0 rfl [] rfl rfl (by decide) rfl (hl.1) rfl (Nat.le_of_ble_eq_true rfl) dL_law_4 ⟨Nat.le_of_ble_eq_true rfl, Nat.le_of_ble_eq_true rfl⟩ (fun ad σ H locs hq hI hP hD hS => ?_)
  refine W.eq (g2 := F0 m 7 ls [.ref (ad 0)]) (by rw [hq]) ?_
  have hP : va_P D vwCl (wX11 cI cZ cS ad σ) H := hP
  have hD : va_D (lA s) (wX11 cI cZ cS ad σ) := hD
  refine W.widen (k := 72) (n := 4348) (Nat.le_of_ble_eq_true rfl) (Nat.le_of_ble_eq_true rfl) ?_
  refine lv_astore_n (lv' := [(1, .ref (ad 0)), (0, .ref b)]) hx hb dL_law_7 rfl hl (by decide) rfl (fun ls hl => ?_)
  refine va_new (ci := 12) (fs := [.null, .null, .null, .int (0 : Int32), .null, .int (0 : Int32), .null, .int (0 : Int32), .int (0 : Int32), .int (0 : Int32), .int (0 : Int32), .int (0 : Int32), .null, .int (0 : Int32), .null, .null, .null, .null, .null]) (C := RX12) (T := TX12) (N := 19) hx hb hts inX12 tyX12 tyX12_ok hown (hts _ (List.mem_append_right _ (List.mem_append_right _ (List.mem_append_right _ (List.mem_append_right _ (List.mem_append_right _ (List.mem_append_left _ (List.mem_of_getElem? (l := tables_1_5) (i := 84) rfl)))))))) (hts _ (List.mem_append_right _ (List.mem_append_right _ (List.mem_append_right _ (List.mem_append_right _ (List.mem_append_right _ (List.mem_append_left _ (List.mem_of_getElem? (l := tables_1_5) (i := 85) rfl)))))))) (hts _ (List.mem_append_right _ (List.mem_append_left _ (List.mem_of_getElem? (l := tables_1_1) (i := 14) rfl)))) hK hP hD hS hA rfl (fun j hj => by rcases (show j = 0 ∨ j = 1 ∨ j = 2 ∨ j = 3 ∨ j = 4 ∨ j = 5 ∨ j = 6 ∨ j = 7 ∨ j = 8 ∨ j = 9 ∨ j = 10 ∨ j = 11 ∨ j = 12 ∨ j = 13 ∨ j = 14 ∨ j = 15 ∨ j = 16 ∨ j = 17 ∨ j = 18 by omega) with rfl | rfl | rfl | rfl | rfl | rfl | rfl | rfl | rfl | rfl | rfl | rfl | rfl | rfl | rfl | rfl | rfl | rfl | rfl <;> rfl) (Nat.le_of_ble_eq_true rfl) (Nat.le_of_ble_eq_true rfl) dL_law_8 (fun q2 H hP hD hS => ?_)
  refine W.widen (k := 73) (n := 4367) (Nat.le_of_ble_eq_true rfl) (Nat.le_of_ble_eq_true rfl) ?_
  refine lv_dup hx hb dL_law_11 rfl ?_
  refine q_cN (wr := wX11 cI cZ cS ad σ) (wpost := wX12 cI cZ cS) (rest := [.ref q2]) ⟨hx, hb, hml, hown, hts⟩ hK hZ hA hP hD hS (kX12_init l D cI cZ cS zz q2) (fun U g mk a h => h) (fun U hW => trivial) (cwI 0 hts gl_X12_init rfl rfl rfl (hts _ (List.mem_append_right _ (List.mem_append_left _ (List.mem_of_getElem? (l := tables_1_1) (i := 14) rfl)))) (hts _ (List.mem_append_right _ (List.mem_append_right _ (List.mem_append_right _ (List.mem_append_right _ (List.mem_append_right _ (List.mem_append_left _ (List.mem_of_getElem? (l := tables_1_5) (i := 86) rfl)))))))) (hts _ (List.mem_append_right _ (List.mem_append_right _ (List.mem_append_right _ (List.mem_append_right _ (List.mem_append_right _ (List.mem_append_left _ (List.mem_of_getElem? (l := tables_1_5) (i := 87) rfl)))))))) rfl ndX12_init.2 ⟨Nat.le_of_ble_eq_true rfl, Nat.le_of_ble_eq_true rfl⟩) 72 rfl isA rfl rfl (by decide) rfl (hl.1) rfl (Nat.le_of_ble_eq_true rfl) dL_law_12 ⟨Nat.le_of_ble_eq_true rfl, Nat.le_of_ble_eq_true rfl⟩ (fun bd τ H locs hq2 hI2 hP hD hS => ?_)
  refine W.eq (g2 := F0 m 15 ls [.ref (bd 0)]) (by rw [hq2]) ?_
  have hP : va_P D vwCl (wL cI cZ cS ad bd σ τ) H := hP
  have hD : va_D (lA s) (wL cI cZ cS ad bd σ τ) := hD
  refine W.widen (k := 84) (n := 5639) (Nat.le_of_ble_eq_true rfl) (Nat.le_of_ble_eq_true rfl) ?_
  refine lv_astore_n (lv' := [(2, .ref (bd 0)), (1, .ref (ad 0)), (0, .ref b)]) hx hb dL_law_15 rfl hl (by decide) rfl (fun ls hl => ?_)
  refine lv_iconst (v := 0) hx hb dL_law_16 (by decide) ?_
  refine lv_istore_n (lv' := [(3, .int 0), (2, .ref (bd 0)), (1, .ref (ad 0)), (0, .ref b)]) hx hb dL_law_17 rfl hl (by decide) rfl (fun ls hl => ?_)
  exact law_loop C sims hL ad bd (L + 7) 0 0 (Nat.zero_le _) (by omega) nI_0.symm σ τ _ _ _ (first σ τ hI hI2) hP hD hS (lv_sub hl [3, 2, 1, 0] rfl)
