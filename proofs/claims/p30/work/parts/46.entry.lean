/-! ===== the entry: what the tables and the premises give ===== -/
abbrev gvC : Cond := Jvm.Cond.and given_1 narrow_1
theorem e_str : ∀ q ∈ eStr, Cond.stringRef q.1 q.2.1 q.2.2 ∈ lw_tbl := List.forall_mem_cons.mpr ⟨List.mem_of_getElem? (i := 347) (by decide +kernel), List.forall_mem_cons.mpr ⟨List.mem_of_getElem? (i := 381) (by decide +kernel), List.forall_mem_cons.mpr ⟨List.mem_of_getElem? (i := 409) (by decide +kernel), List.forall_mem_cons.mpr ⟨List.mem_of_getElem? (i := 527) (by decide +kernel), List.forall_mem_cons.mpr ⟨List.mem_of_getElem? (i := 528) (by decide +kernel), List.forall_mem_cons.mpr ⟨List.mem_of_getElem? (i := 580) (by decide +kernel), List.forall_mem_cons.mpr ⟨List.mem_of_getElem? (i := 585) (by decide +kernel), List.forall_mem_cons.mpr ⟨List.mem_of_getElem? (i := 611) (by decide +kernel), List.forall_mem_cons.mpr ⟨List.mem_of_getElem? (i := 632) (by decide +kernel), List.forall_mem_cons.mpr ⟨List.mem_of_getElem? (i := 641) (by decide +kernel), List.forall_mem_cons.mpr ⟨List.mem_of_getElem? (i := 644) (by decide +kernel), List.forall_mem_cons.mpr ⟨List.mem_of_getElem? (i := 652) (by decide +kernel), List.forall_mem_cons.mpr ⟨List.mem_of_getElem? (i := 658) (by decide +kernel), List.forall_mem_cons.mpr ⟨List.mem_of_getElem? (i := 680) (by decide +kernel), fun _ h => absurd h List.not_mem_nil⟩⟩⟩⟩⟩⟩⟩⟩⟩⟩⟩⟩⟩⟩
theorem e_nf : ∀ q ∈ eNF, Cond.fieldLinkNest q.1 q.2.1 q.2.2.1 q.2.2.2.1 q.2.2.2.2.1 q.2.2.2.2.2 ∈ lw_tbl := List.forall_mem_cons.mpr ⟨List.mem_of_getElem? (i := 91) (by decide +kernel), List.forall_mem_cons.mpr ⟨List.mem_of_getElem? (i := 101) (by decide +kernel), List.forall_mem_cons.mpr ⟨List.mem_of_getElem? (i := 103) (by decide +kernel), List.forall_mem_cons.mpr ⟨List.mem_of_getElem? (i := 104) (by decide +kernel), List.forall_mem_cons.mpr ⟨List.mem_of_getElem? (i := 106) (by decide +kernel), List.forall_mem_cons.mpr ⟨List.mem_of_getElem? (i := 107) (by decide +kernel), List.forall_mem_cons.mpr ⟨List.mem_of_getElem? (i := 158) (by decide +kernel), List.forall_mem_cons.mpr ⟨List.mem_of_getElem? (i := 160) (by decide +kernel), List.forall_mem_cons.mpr ⟨List.mem_of_getElem? (i := 162) (by decide +kernel), List.forall_mem_cons.mpr ⟨List.mem_of_getElem? (i := 165) (by decide +kernel), List.forall_mem_cons.mpr ⟨List.mem_of_getElem? (i := 168) (by decide +kernel), List.forall_mem_cons.mpr ⟨List.mem_of_getElem? (i := 472) (by decide +kernel), List.forall_mem_cons.mpr ⟨List.mem_of_getElem? (i := 474) (by decide +kernel), fun _ h => absurd h List.not_mem_nil⟩⟩⟩⟩⟩⟩⟩⟩⟩⟩⟩⟩⟩
theorem e_nm : ∀ q ∈ eNM, Cond.methodLinkNest q.1 q.2.1 q.2.2.1 q.2.2.2 ∈ lw_tbl := List.forall_mem_cons.mpr ⟨List.mem_of_getElem? (i := 93) (by decide +kernel), List.forall_mem_cons.mpr ⟨List.mem_of_getElem? (i := 292) (by decide +kernel), List.forall_mem_cons.mpr ⟨List.mem_of_getElem? (i := 473) (by decide +kernel), List.forall_mem_cons.mpr ⟨List.mem_of_getElem? (i := 498) (by decide +kernel), fun _ h => absurd h List.not_mem_nil⟩⟩⟩⟩
theorem e_nc : ∀ q ∈ eNC, Cond.castable q.1 q.2 ∈ lw_tbl := List.forall_mem_cons.mpr ⟨List.mem_of_getElem? (i := 308) (by decide +kernel), List.forall_mem_cons.mpr ⟨List.mem_of_getElem? (i := 402) (by decide +kernel), List.forall_mem_cons.mpr ⟨List.mem_of_getElem? (i := 604) (by decide +kernel), fun _ h => absurd h List.not_mem_nil⟩⟩⟩
theorem e_nd : ∀ q ∈ eND, Cond.declares q ∈ lw_tbl := List.forall_mem_cons.mpr ⟨List.mem_of_getElem? (i := 310) (by decide +kernel), List.forall_mem_cons.mpr ⟨List.mem_of_getElem? (i := 312) (by decide +kernel), List.forall_mem_cons.mpr ⟨List.mem_of_getElem? (i := 314) (by decide +kernel), fun _ h => absurd h List.not_mem_nil⟩⟩⟩
theorem e_nn : ∀ q ∈ eNN, Cond.not (Cond.castable q.1 q.2) ∈ flatC gvC := fun _ h => absurd h List.not_mem_nil
section PEN
variable {s : State} {b : Nat} {A : Nat → Prop}
theorem e_tab0 (hs : ∀ w ∈ flatC gvC, w.before #[Value.ref b] s = true) (hts : ∀ w ∈ lw_tbl, w.before #[Value.ref b] s = true) (hA : ∀ a : Nat, a < s.heap.size → ¬ A a) : ∃ t : Nat, va_Z "LatticeGestures" (tbN 0) "[I" (.ref t) A s s.heap ∧ va_T .int t (tbV 0).length (tbF 0) A s s.heap := by
  have hel : ∀ j : Nat, j < 5 → (Term.elem (.static "LatticeGestures" "FIRST_VALUE" "[I") (.int (Int32.ofNat j))).eval #[Value.ref b] s none [] s = some (tbF 0 j) := by
    intro j hj
    match j, hj with
    | 0, _ => exact (va_eqt (z := 2) (hs (.eq (.elem (.static "LatticeGestures" "FIRST_VALUE" "[I") (.int 0)) (.int (2))) (List.mem_of_getElem? (i := 7) (by decide +kernel)))).trans (congrArg (fun z => some (Value.int z)) (by decide))
    | 1, _ => exact (va_eqt (z := 2) (hs (.eq (.elem (.static "LatticeGestures" "FIRST_VALUE" "[I") (.int 1)) (.int (2))) (List.mem_of_getElem? (i := 8) (by decide +kernel)))).trans (congrArg (fun z => some (Value.int z)) (by decide))
    | 2, _ => exact (va_eqt (z := 2) (hs (.eq (.elem (.static "LatticeGestures" "FIRST_VALUE" "[I") (.int 2)) (.int (2))) (List.mem_of_getElem? (i := 9) (by decide +kernel)))).trans (congrArg (fun z => some (Value.int z)) (by decide))
    | 3, _ => exact (va_eqt (z := 3) (hs (.eq (.elem (.static "LatticeGestures" "FIRST_VALUE" "[I") (.int 3)) (.int (3))) (List.mem_of_getElem? (i := 10) (by decide +kernel)))).trans (congrArg (fun z => some (Value.int z)) (by decide))
    | 4, _ => exact (va_eqt (z := 2) (hs (.eq (.elem (.static "LatticeGestures" "FIRST_VALUE" "[I") (.int 4)) (.int (2))) (List.mem_of_getElem? (i := 11) (by decide +kernel)))).trans (congrArg (fun z => some (Value.int z)) (by decide))
    | j + 5, hj => exact absurd hj (by omega)
  obtain ⟨t, ht, hT⟩ := va_Tof (tm := .static "LatticeGestures" "FIRST_VALUE" "[I") (ty := .int) (N := 5) (f := tbF 0) (by decide) (hs _ (List.mem_of_getElem? (i := 5) (by decide +kernel))) (va_eqt (z := 5) (hs (.eq (.length (.static "LatticeGestures" "FIRST_VALUE" "[I")) (.int 5)) (List.mem_of_getElem? (i := 6) (by decide +kernel)))) hel hA
  exact ⟨t, va_Zref (hts (.laysStatic "LatticeGestures" "FIRST_VALUE" "[I") (List.mem_of_getElem? (i := 92) (by decide +kernel))) (hts (.initialized "LatticeGestures") (List.mem_of_getElem? (i := 13) (by decide +kernel))) ht hA, hT⟩
theorem e_tab1 (hs : ∀ w ∈ flatC gvC, w.before #[Value.ref b] s = true) (hts : ∀ w ∈ lw_tbl, w.before #[Value.ref b] s = true) (hA : ∀ a : Nat, a < s.heap.size → ¬ A a) : ∃ t : Nat, va_Z "LatticeGestures" (tbN 1) "[I" (.ref t) A s s.heap ∧ va_T .int t (tbV 1).length (tbF 1) A s s.heap := by
  have hel : ∀ j : Nat, j < 5 → (Term.elem (.static "LatticeGestures" "LEAST_VALUE" "[I") (.int (Int32.ofNat j))).eval #[Value.ref b] s none [] s = some (tbF 1 j) := by
    intro j hj
    match j, hj with
    | 0, _ => exact (va_eqt (z := 1) (hs (.eq (.elem (.static "LatticeGestures" "LEAST_VALUE" "[I") (.int 0)) (.int (1))) (List.mem_of_getElem? (i := 39) (by decide +kernel)))).trans (congrArg (fun z => some (Value.int z)) (by decide))
    | 1, _ => exact (va_eqt (z := 0) (hs (.eq (.elem (.static "LatticeGestures" "LEAST_VALUE" "[I") (.int 1)) (.int (0))) (List.mem_of_getElem? (i := 40) (by decide +kernel)))).trans (congrArg (fun z => some (Value.int z)) (by decide))
    | 2, _ => exact (va_eqt (z := 1) (hs (.eq (.elem (.static "LatticeGestures" "LEAST_VALUE" "[I") (.int 2)) (.int (1))) (List.mem_of_getElem? (i := 41) (by decide +kernel)))).trans (congrArg (fun z => some (Value.int z)) (by decide))
    | 3, _ => exact (va_eqt (z := 1) (hs (.eq (.elem (.static "LatticeGestures" "LEAST_VALUE" "[I") (.int 3)) (.int (1))) (List.mem_of_getElem? (i := 42) (by decide +kernel)))).trans (congrArg (fun z => some (Value.int z)) (by decide))
    | 4, _ => exact (va_eqt (z := 0) (hs (.eq (.elem (.static "LatticeGestures" "LEAST_VALUE" "[I") (.int 4)) (.int (0))) (List.mem_of_getElem? (i := 43) (by decide +kernel)))).trans (congrArg (fun z => some (Value.int z)) (by decide))
    | j + 5, hj => exact absurd hj (by omega)
  obtain ⟨t, ht, hT⟩ := va_Tof (tm := .static "LatticeGestures" "LEAST_VALUE" "[I") (ty := .int) (N := 5) (f := tbF 1) (by decide) (hs _ (List.mem_of_getElem? (i := 37) (by decide +kernel))) (va_eqt (z := 5) (hs (.eq (.length (.static "LatticeGestures" "LEAST_VALUE" "[I")) (.int 5)) (List.mem_of_getElem? (i := 38) (by decide +kernel)))) hel hA
  exact ⟨t, va_Zref (hts (.laysStatic "LatticeGestures" "LEAST_VALUE" "[I") (List.mem_of_getElem? (i := 638) (by decide +kernel))) (hts (.initialized "LatticeGestures") (List.mem_of_getElem? (i := 13) (by decide +kernel))) ht hA, hT⟩
theorem e_tab2 (hs : ∀ w ∈ flatC gvC, w.before #[Value.ref b] s = true) (hts : ∀ w ∈ lw_tbl, w.before #[Value.ref b] s = true) (hA : ∀ a : Nat, a < s.heap.size → ¬ A a) : ∃ t : Nat, va_Z "LatticeGestures" (tbN 2) "[I" (.ref t) A s s.heap ∧ va_T .int t (tbV 2).length (tbF 2) A s s.heap := by
  have hel : ∀ j : Nat, j < 5 → (Term.elem (.static "LatticeGestures" "GREATEST_VALUE" "[I") (.int (Int32.ofNat j))).eval #[Value.ref b] s none [] s = some (tbF 2 j) := by
    intro j hj
    match j, hj with
    | 0, _ => exact (va_eqt (z := 9) (hs (.eq (.elem (.static "LatticeGestures" "GREATEST_VALUE" "[I") (.int 0)) (.int (9))) (List.mem_of_getElem? (i := 47) (by decide +kernel)))).trans (congrArg (fun z => some (Value.int z)) (by decide))
    | 1, _ => exact (va_eqt (z := 9) (hs (.eq (.elem (.static "LatticeGestures" "GREATEST_VALUE" "[I") (.int 1)) (.int (9))) (List.mem_of_getElem? (i := 48) (by decide +kernel)))).trans (congrArg (fun z => some (Value.int z)) (by decide))
    | 2, _ => exact (va_eqt (z := 9) (hs (.eq (.elem (.static "LatticeGestures" "GREATEST_VALUE" "[I") (.int 2)) (.int (9))) (List.mem_of_getElem? (i := 49) (by decide +kernel)))).trans (congrArg (fun z => some (Value.int z)) (by decide))
    | 3, _ => exact (va_eqt (z := 9) (hs (.eq (.elem (.static "LatticeGestures" "GREATEST_VALUE" "[I") (.int 3)) (.int (9))) (List.mem_of_getElem? (i := 50) (by decide +kernel)))).trans (congrArg (fun z => some (Value.int z)) (by decide))
    | 4, _ => exact (va_eqt (z := 20) (hs (.eq (.elem (.static "LatticeGestures" "GREATEST_VALUE" "[I") (.int 4)) (.int (20))) (List.mem_of_getElem? (i := 51) (by decide +kernel)))).trans (congrArg (fun z => some (Value.int z)) (by decide))
    | j + 5, hj => exact absurd hj (by omega)
  obtain ⟨t, ht, hT⟩ := va_Tof (tm := .static "LatticeGestures" "GREATEST_VALUE" "[I") (ty := .int) (N := 5) (f := tbF 2) (by decide) (hs _ (List.mem_of_getElem? (i := 45) (by decide +kernel))) (va_eqt (z := 5) (hs (.eq (.length (.static "LatticeGestures" "GREATEST_VALUE" "[I")) (.int 5)) (List.mem_of_getElem? (i := 46) (by decide +kernel)))) hel hA
  exact ⟨t, va_Zref (hts (.laysStatic "LatticeGestures" "GREATEST_VALUE" "[I") (List.mem_of_getElem? (i := 640) (by decide +kernel))) (hts (.initialized "LatticeGestures") (List.mem_of_getElem? (i := 13) (by decide +kernel))) ht hA, hT⟩
theorem e_tab3 (hs : ∀ w ∈ flatC gvC, w.before #[Value.ref b] s = true) (hts : ∀ w ∈ lw_tbl, w.before #[Value.ref b] s = true) (hA : ∀ a : Nat, a < s.heap.size → ¬ A a) : ∃ t : Nat, va_Z "LatticeGestures" (tbN 3) "[I" (.ref t) A s s.heap ∧ va_T .int t (tbV 3).length (tbF 3) A s s.heap := by
  have hel : ∀ j : Nat, j < 8 → (Term.elem (.static "LatticeGestures" "STEP_X" "[I") (.int (Int32.ofNat j))).eval #[Value.ref b] s none [] s = some (tbF 3 j) := by
    intro j hj
    match j, hj with
    | 0, _ => exact (va_eqt (z := 1) (hs (.eq (.elem (.static "LatticeGestures" "STEP_X" "[I") (.int 0)) (.int (1))) (List.mem_of_getElem? (i := 17) (by decide +kernel)))).trans (congrArg (fun z => some (Value.int z)) (by decide))
    | 1, _ => exact (va_eqt (z := 1) (hs (.eq (.elem (.static "LatticeGestures" "STEP_X" "[I") (.int 1)) (.int (1))) (List.mem_of_getElem? (i := 18) (by decide +kernel)))).trans (congrArg (fun z => some (Value.int z)) (by decide))
    | 2, _ => exact (va_eqt (z := 0) (hs (.eq (.elem (.static "LatticeGestures" "STEP_X" "[I") (.int 2)) (.int (0))) (List.mem_of_getElem? (i := 19) (by decide +kernel)))).trans (congrArg (fun z => some (Value.int z)) (by decide))
    | 3, _ => exact (va_eqt (z := -1) (hs (.eq (.elem (.static "LatticeGestures" "STEP_X" "[I") (.int 3)) (.int (-1))) (List.mem_of_getElem? (i := 20) (by decide +kernel)))).trans (congrArg (fun z => some (Value.int z)) (by decide))
    | 4, _ => exact (va_eqt (z := -1) (hs (.eq (.elem (.static "LatticeGestures" "STEP_X" "[I") (.int 4)) (.int (-1))) (List.mem_of_getElem? (i := 21) (by decide +kernel)))).trans (congrArg (fun z => some (Value.int z)) (by decide))
    | 5, _ => exact (va_eqt (z := -1) (hs (.eq (.elem (.static "LatticeGestures" "STEP_X" "[I") (.int 5)) (.int (-1))) (List.mem_of_getElem? (i := 22) (by decide +kernel)))).trans (congrArg (fun z => some (Value.int z)) (by decide))
    | 6, _ => exact (va_eqt (z := 0) (hs (.eq (.elem (.static "LatticeGestures" "STEP_X" "[I") (.int 6)) (.int (0))) (List.mem_of_getElem? (i := 23) (by decide +kernel)))).trans (congrArg (fun z => some (Value.int z)) (by decide))
    | 7, _ => exact (va_eqt (z := 1) (hs (.eq (.elem (.static "LatticeGestures" "STEP_X" "[I") (.int 7)) (.int (1))) (List.mem_of_getElem? (i := 24) (by decide +kernel)))).trans (congrArg (fun z => some (Value.int z)) (by decide))
    | j + 8, hj => exact absurd hj (by omega)
  obtain ⟨t, ht, hT⟩ := va_Tof (tm := .static "LatticeGestures" "STEP_X" "[I") (ty := .int) (N := 8) (f := tbF 3) (by decide) (hs _ (List.mem_of_getElem? (i := 15) (by decide +kernel))) (va_eqt (z := 8) (hs (.eq (.length (.static "LatticeGestures" "STEP_X" "[I")) (.int 8)) (List.mem_of_getElem? (i := 16) (by decide +kernel)))) hel hA
  exact ⟨t, va_Zref (hts (.laysStatic "LatticeGestures" "STEP_X" "[I") (List.mem_of_getElem? (i := 392) (by decide +kernel))) (hts (.initialized "LatticeGestures") (List.mem_of_getElem? (i := 13) (by decide +kernel))) ht hA, hT⟩
theorem e_tab4 (hs : ∀ w ∈ flatC gvC, w.before #[Value.ref b] s = true) (hts : ∀ w ∈ lw_tbl, w.before #[Value.ref b] s = true) (hA : ∀ a : Nat, a < s.heap.size → ¬ A a) : ∃ t : Nat, va_Z "LatticeGestures" (tbN 4) "[I" (.ref t) A s s.heap ∧ va_T .int t (tbV 4).length (tbF 4) A s s.heap := by
  have hel : ∀ j : Nat, j < 8 → (Term.elem (.static "LatticeGestures" "STEP_Y" "[I") (.int (Int32.ofNat j))).eval #[Value.ref b] s none [] s = some (tbF 4 j) := by
    intro j hj
    match j, hj with
    | 0, _ => exact (va_eqt (z := 0) (hs (.eq (.elem (.static "LatticeGestures" "STEP_Y" "[I") (.int 0)) (.int (0))) (List.mem_of_getElem? (i := 28) (by decide +kernel)))).trans (congrArg (fun z => some (Value.int z)) (by decide))
    | 1, _ => exact (va_eqt (z := 1) (hs (.eq (.elem (.static "LatticeGestures" "STEP_Y" "[I") (.int 1)) (.int (1))) (List.mem_of_getElem? (i := 29) (by decide +kernel)))).trans (congrArg (fun z => some (Value.int z)) (by decide))
    | 2, _ => exact (va_eqt (z := 1) (hs (.eq (.elem (.static "LatticeGestures" "STEP_Y" "[I") (.int 2)) (.int (1))) (List.mem_of_getElem? (i := 30) (by decide +kernel)))).trans (congrArg (fun z => some (Value.int z)) (by decide))
    | 3, _ => exact (va_eqt (z := 1) (hs (.eq (.elem (.static "LatticeGestures" "STEP_Y" "[I") (.int 3)) (.int (1))) (List.mem_of_getElem? (i := 31) (by decide +kernel)))).trans (congrArg (fun z => some (Value.int z)) (by decide))
    | 4, _ => exact (va_eqt (z := 0) (hs (.eq (.elem (.static "LatticeGestures" "STEP_Y" "[I") (.int 4)) (.int (0))) (List.mem_of_getElem? (i := 32) (by decide +kernel)))).trans (congrArg (fun z => some (Value.int z)) (by decide))
    | 5, _ => exact (va_eqt (z := -1) (hs (.eq (.elem (.static "LatticeGestures" "STEP_Y" "[I") (.int 5)) (.int (-1))) (List.mem_of_getElem? (i := 33) (by decide +kernel)))).trans (congrArg (fun z => some (Value.int z)) (by decide))
    | 6, _ => exact (va_eqt (z := -1) (hs (.eq (.elem (.static "LatticeGestures" "STEP_Y" "[I") (.int 6)) (.int (-1))) (List.mem_of_getElem? (i := 34) (by decide +kernel)))).trans (congrArg (fun z => some (Value.int z)) (by decide))
    | 7, _ => exact (va_eqt (z := -1) (hs (.eq (.elem (.static "LatticeGestures" "STEP_Y" "[I") (.int 7)) (.int (-1))) (List.mem_of_getElem? (i := 35) (by decide +kernel)))).trans (congrArg (fun z => some (Value.int z)) (by decide))
    | j + 8, hj => exact absurd hj (by omega)
  obtain ⟨t, ht, hT⟩ := va_Tof (tm := .static "LatticeGestures" "STEP_Y" "[I") (ty := .int) (N := 8) (f := tbF 4) (by decide) (hs _ (List.mem_of_getElem? (i := 26) (by decide +kernel))) (va_eqt (z := 8) (hs (.eq (.length (.static "LatticeGestures" "STEP_Y" "[I")) (.int 8)) (List.mem_of_getElem? (i := 27) (by decide +kernel)))) hel hA
  exact ⟨t, va_Zref (hts (.laysStatic "LatticeGestures" "STEP_Y" "[I") (List.mem_of_getElem? (i := 395) (by decide +kernel))) (hts (.initialized "LatticeGestures") (List.mem_of_getElem? (i := 13) (by decide +kernel))) ht hA, hT⟩
theorem e_cls (hts : ∀ w ∈ lw_tbl, w.before #[Value.ref b] s = true) : ∃ (dC : Nat → ClassId) (dI : Nat → Nat → Nat), ∀ (k : Nat) (q : vw_C), vwCl[k]? = some q → u_Kn s q.1 q.2.1 q.2.2 (dC k) (dI k) := by
  obtain ⟨c0, i0, hK0⟩ := u_known (C := RX0) (T := TX0) (N := 3) (n := 3) hts (fun w hw => (List.mem_filter.mp ((inC 0 (RX0, TX0, 3) rfl).1 w hw)).1) (hts (.instantiable RX0 3) (List.mem_of_getElem? (i := 71) (by decide +kernel)))
  obtain ⟨c1, i1, hK1⟩ := u_known (C := RX1) (T := TX1) (N := 3) (n := 3) hts (fun w hw => (List.mem_filter.mp ((inC 1 (RX1, TX1, 3) rfl).1 w hw)).1) (hts (.instantiable RX1 3) (List.mem_of_getElem? (i := 116) (by decide +kernel)))
  obtain ⟨c2, i2, hK2⟩ := u_known (C := RX2) (T := TX2) (N := 1) (n := 1) hts (fun w hw => (List.mem_filter.mp ((inC 2 (RX2, TX2, 1) rfl).1 w hw)).1) (hts (.instantiable RX2 1) (List.mem_of_getElem? (i := 143) (by decide +kernel)))
  obtain ⟨c3, i3, hK3⟩ := u_known (C := RX3) (T := TX3) (N := 2) (n := 2) hts (fun w hw => (List.mem_filter.mp ((inC 3 (RX3, TX3, 2) rfl).1 w hw)).1) (hts (.instantiable RX3 2) (List.mem_of_getElem? (i := 44) (by decide +kernel)))
  obtain ⟨c4, i4, hK4⟩ := u_known (C := RX4) (T := TX4) (N := 2) (n := 2) hts (fun w hw => (List.mem_filter.mp ((inC 4 (RX4, TX4, 2) rfl).1 w hw)).1) (hts (.instantiable RX4 2) (List.mem_of_getElem? (i := 50) (by decide +kernel)))
  obtain ⟨c5, i5, hK5⟩ := u_known (C := RX5) (T := TX5) (N := 3) (n := 3) hts (fun w hw => (List.mem_filter.mp ((inC 5 (RX5, TX5, 3) rfl).1 w hw)).1) (hts (.instantiable RX5 3) (List.mem_of_getElem? (i := 38) (by decide +kernel)))
  obtain ⟨c6, i6, hK6⟩ := u_known (C := RX6) (T := TX6) (N := 8) (n := 8) hts (fun w hw => (List.mem_filter.mp ((inC 6 (RX6, TX6, 8) rfl).1 w hw)).1) (hts (.instantiable RX6 8) (List.mem_of_getElem? (i := 137) (by decide +kernel)))
  obtain ⟨c7, i7, hK7⟩ := u_known (C := RX7) (T := TX7) (N := 9) (n := 9) hts (fun w hw => (List.mem_filter.mp ((inC 7 (RX7, TX7, 9) rfl).1 w hw)).1) (hts (.instantiable RX7 9) (List.mem_of_getElem? (i := 30) (by decide +kernel)))
  refine ⟨fun k => match k with | 0 => c0 | 1 => c1 | 2 => c2 | 3 => c3 | 4 => c4 | 5 => c5 | 6 => c6 | _ => c7, fun k => match k with | 0 => i0 | 1 => i1 | 2 => i2 | 3 => i3 | 4 => i4 | 5 => i5 | 6 => i6 | _ => i7, ?_⟩
  intro k q hq
  match k, hq with
  | 0, hq => cases hq; exact hK0
  | 1, hq => cases hq; exact hK1
  | 2, hq => cases hq; exact hK2
  | 3, hq => cases hq; exact hK3
  | 4, hq => cases hq; exact hK4
  | 5, hq => cases hq; exact hK5
  | 6, hq => cases hq; exact hK6
  | 7, hq => cases hq; exact hK7
  | k + 8, hq => simp [vwCl] at hq
theorem e_arr (hts : ∀ w ∈ lw_tbl, w.before #[Value.ref b] s = true) : ∃ cI cR cS : ClassId, ∀ (k : Nat) (q : ClassId × FieldType), [(cI, FieldType.int), (cR, .object "LatticeGestures$Row"), (cS, .object "LatticeGestures$State")][k]? = some q → ArrOfT s q.1 q.2 ∧ va_RA s q.1 q.2 := by
  obtain ⟨cI, kI, compI, i1, i2, i3⟩ := Cond.arrayClass_spec (hts (.arrayClass .int) (List.mem_of_getElem? (i := 62) (by decide +kernel)))
  obtain ⟨compR, cR, kR, r1, r2, r3, r4, r5⟩ := Cond.arrayOver_spec (hts (.arrayOver (.object "LatticeGestures$Row")) (List.mem_of_getElem? (i := 77) (by decide +kernel)))
  obtain ⟨compS, cS, kS, s1, s2, s3, s4, s5⟩ := Cond.arrayOver_spec (hts (.arrayOver (.object "LatticeGestures$State")) (List.mem_of_getElem? (i := 122) (by decide +kernel)))
  refine ⟨cI, cR, cS, fun k q hq => ?_⟩
  match k, hq with
  | 0, hq => cases hq; exact ⟨fun n z => ⟨(fun k h => by cases h), kI, i2, compI, i3⟩, i1⟩
  | 1, hq => cases hq; exact ⟨fun n z => ⟨(fun k h => by cases h), kR, r3, compR, r4⟩, kR, compR, r3, r4, r1, r5⟩
  | 2, hq => cases hq; exact ⟨fun n z => ⟨(fun k h => by cases h), kS, s3, compS, s4⟩, kS, compS, s3, s4, s1, s5⟩
  | k + 3, hq => simp at hq
theorem e_all {xs : Nat → Int32} {L : Nat} (hs : ∀ w ∈ flatC gvC, w.before #[Value.ref b] s = true) (hts : ∀ w ∈ lw_tbl, w.before #[Value.ref b] s = true) (hX : va_X b L xs s s.heap) (hb : b < s.heap.size) : ∃ G : GT, gB G = s.heap.size ∧ gXb G = b ∧ gXn G = L ∧ (∀ j, gXv G j = (xs j).toInt) ∧ eEnv G s := by
  obtain ⟨dC, dI, hK⟩ := e_cls hts
  obtain ⟨cI, cR, cS, hT⟩ := e_arr hts
  have hA : ∀ a : Nat, a < s.heap.size → ¬ s.heap.size ≤ a := fun a h => Nat.not_le.mpr h
  obtain ⟨t0, z0, v0⟩ := e_tab0 (A := fun q => s.heap.size ≤ q) hs hts hA
  obtain ⟨t1, z1, v1⟩ := e_tab1 (A := fun q => s.heap.size ≤ q) hs hts hA
  obtain ⟨t2, z2, v2⟩ := e_tab2 (A := fun q => s.heap.size ≤ q) hs hts hA
  obtain ⟨t3, z3, v3⟩ := e_tab3 (A := fun q => s.heap.size ≤ q) hs hts hA
  obtain ⟨t4, z4, v4⟩ := e_tab4 (A := fun q => s.heap.size ≤ q) hs hts hA
  refine ⟨(s.heap.size, (fun k => match k with | 0 => t0 | 1 => t1 | 2 => t2 | 3 => t3 | _ => t4), (dC, dI), cI, cI, cR, cS, (b, L, fun j => (xs j).toInt)), rfl, rfl, rfl, fun _ => rfl, Nat.le_refl _, ⟨hK, hT⟩, fun k hk => ?_, ?_, ?_, fun q hq => ?_, fun q hq => ?_, fun q hq => ?_, ⟨fun q hq => ?_, fun y hy => ?_⟩, fun q hq => ?_, ?_, ?_, ?_, hb⟩
  · match k, hk with
    | 0, _ => exact ⟨z0, v0⟩
    | 1, _ => exact ⟨z1, v1⟩
    | 2, _ => exact ⟨z2, v2⟩
    | 3, _ => exact ⟨z3, v3⟩
    | 4, _ => exact ⟨z4, v4⟩
    | k + 5, hk => exact absurd hk (by omega)
  · exact vx_Zqof (hts (.laysStatic Bundle.tN "UNASSIGNED_STACK" Bundle.steD) (List.mem_of_getElem? (i := 333) (by decide +kernel))) (hts (.initialized Bundle.tN) (List.mem_of_getElem? (i := 22) (by decide +kernel))) (hs (.isRef (.static Bundle.tN "UNASSIGNED_STACK" Bundle.steD)) (List.mem_of_getElem? (i := 12) (by decide +kernel))) hA
  · exact vx_Zqof (hts (.laysStatic Bundle.tN "SUPPRESSED_SENTINEL" Bundle.listD) (List.mem_of_getElem? (i := 335) (by decide +kernel))) (hts (.initialized Bundle.tN) (List.mem_of_getElem? (i := 22) (by decide +kernel))) (hs (.isRef (.static Bundle.tN "SUPPRESSED_SENTINEL" Bundle.listD)) (List.mem_of_getElem? (i := 13) (by decide +kernel))) hA
  · have h1 := hts _ (e_str q hq)
    have hc : ∃ cur, s.vm.findClass q.1 = some cur := by
      have e : q.1 = "LatticeGestures" := (by decide : ∀ q ∈ eStr, q.1 = "LatticeGestures") q hq
      rw [e]
      exact ⟨_, (hK 7 (RX7, TX7, 9) rfl).2.1⟩
    obtain ⟨cur, hcur⟩ := hc
    obtain ⟨k1, cf, i, a, -, -, -, -, -, hev⟩ := Cond.stringRef_spec hcur h1
    have h1' : (Cond.stringRef q.1 q.2.1 q.2.2).before #[] s = true := h1
    refine ⟨a, vk_R.of h1' ?_⟩
    rw [Term.string_eval_of_vm (rfl : s.vm = s.vm) (args := #[Value.ref b])]
    exact hev
  · exact va_Nw.of rfl (hts _ (e_nf q hq))
  · exact va_Nw.of rfl (hts _ (e_nm q hq))
  · exact va_Nw.of rfl (hts _ (e_nc q hq))
  · exact va_Nw.of rfl (hts _ (e_nd y hy))
  · exact va_Nc.of (hs _ (e_nn q hq))
  · exact va_AO.of (hts (.arrayOver (.object "LatticeGestures$Row")) (List.mem_of_getElem? (i := 77) (by decide +kernel)))
  · exact va_AO.of (hts (.arrayOver (.object "LatticeGestures$State")) (List.mem_of_getElem? (i := 122) (by decide +kernel)))
  · show va_X b L (fun j => Int32.ofInt ((xs j).toInt)) s s.heap
    rw [show (fun j => Int32.ofInt ((xs j).toInt)) = xs from funext fun j => Int32.ofInt_toInt _]
    exact hX
end PEN
