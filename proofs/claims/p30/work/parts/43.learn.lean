/-! ===== act: learn, and the whole of it ===== -/
section PAC
variable {G : GT} {l : Launch} {N : Nat} {sh : Nat → ShT} {μ μ' : Mem} {xs ys S D Ln : List Int} {C : List (List Int)} {d : Nat}
variable {Z : List St} {p k m : Nat} {Φ : RT → Prop} {c q y act : Int} {sh0 : Nat → ShT}
theorem lsF_b {S D : List Int} {C : List (List Int)} (hw : wfS S) (hD : D.length ≤ 40) (h8 : ∀ L ∈ C, L.length ≤ 8 ∧ bnd L 0 7) : 0 ≤ lsF S D C C.length 0 9999 ∧ lsF S D C C.length 0 9999 ≤ 9999 := by
  refine ⟨?_, (lsF_le S D C C.length 0 9999).1⟩
  rcases lsF_in S D C C.length 0 9999 with e | ⟨j, j0, j1, e⟩
  · omega
  · have := dstOf_b hw D (C.getD j.toNat []) hD (h8 _ (getD_mem C (by omega))).1
    omega
variable {j : Int}
theorem lp_lc (hst : l.stackTraces = false) (hl : isL N sh) (ht : isT N sh d) {x : Int} {μ1 : Mem} (hc : 0 ≤ c ∧ c ≤ 6) (hD : arr μ1 d D) (hDl : 1 ≤ D.length ∧ D.length ≤ 8) (hD0 : μ1 (d + 2) 0 = (D.length : Int)) (kk : ∀ μ2 : Mem, frm μ1 μ2 276 277 → (∀ i : Int, 0 ≤ i ∧ i < 64 → μ2 276 i.toNat = if 9 * c + 1 ≤ i ∧ i < 9 * c + 1 + (D.length : Int) then rat D (i - (9 * c + 1)) else μ1 276 i.toNat) → VW G l (some p) M_L_act 648 [(0, .ref (gB G + 0)), (1, vI x), (2, vI y), (3, .ref (gB G + 273)), (4, .ref (gB G + 274)), (5, .ref (gB G + 275)), (6, .ref (gB G + 276)), (7, vI act), (8, .ref (gB G + d)), (9, .ref (gB G + (d + 1))), (10, .ref (gB G + (d + 2))), (11, vI c), (12, vI (D.length : Int))] [] (N, sh, μ2) k m (xaP p sh0 70 700 aP)) : ∀ (n : Nat) (j : Int), 0 ≤ j → j + n = D.length → ∀ μ2 : Mem, frm μ1 μ2 276 277 → (∀ i : Int, 0 ≤ i ∧ i < 64 → μ2 276 i.toNat = if 9 * c + 1 ≤ i ∧ i < 9 * c + 1 + j then rat D (i - (9 * c + 1)) else μ1 276 i.toNat) → VW G l (some p) M_L_act 615 [(0, .ref (gB G + 0)), (1, vI x), (2, vI y), (3, .ref (gB G + 273)), (4, .ref (gB G + 274)), (5, .ref (gB G + 275)), (6, .ref (gB G + 276)), (7, vI act), (8, .ref (gB G + d)), (9, .ref (gB G + (d + 1))), (10, .ref (gB G + (d + 2))), (11, vI c), (12, vI j)] [] (N, sh, μ2) k m (xaP p sh0 70 700 aP) := by
  intro n
  induction n with
  | zero =>
    intro j h1 h2 μ2 hf2 hs2
    have hd1 := ht.1.1
    have hd2 := ht.1.2
    have q2 : μ2 (d + 2) (0 : Int).toNat = (D.length : Int) := (congrFun (hf2 (d + 2) (by omega)) 0).trans hD0
    refine VW.iload dL_act_615 rfl ?_
    refine VW.aload dL_act_617 rfl ?_
    refine VW.iconst dL_act_619 ?_
    refine VW.iaload dL_act_620 (by omega) ht.2.2.2 (by omega) (by omega) (by decide) ?_
    rw [q2]
    refine VW.icmp_ge 648 ⟨by omega, by omega⟩ ⟨by omega, by omega⟩ dL_act_621 (by decide) (fun c621 => ?_) (fun c621 => by omega)
    obtain rfl : j = (D.length : Int) := by omega
    exact kk μ2 hf2 hs2
  | succ n ih =>
    intro j h1 h2 μ2 hf2 hs2
    have hd1 := ht.1.1
    have hd2 := ht.1.2
    have q2 : μ2 (d + 2) (0 : Int).toNat = (D.length : Int) := (congrFun (hf2 (d + 2) (by omega)) 0).trans hD0
    refine VW.iload dL_act_615 rfl ?_
    refine VW.aload dL_act_617 rfl ?_
    refine VW.iconst dL_act_619 ?_
    refine VW.iaload dL_act_620 (by omega) ht.2.2.2 (by omega) (by omega) (by decide) ?_
    rw [q2]
    refine VW.icmp_ge 648 ⟨by omega, by omega⟩ ⟨by omega, by omega⟩ dL_act_621 (by decide) (fun c621 => by omega) (fun c621 => ?_)
    refine VW.aload dL_act_624 rfl ?_
    refine VW.bipush dL_act_626 rfl ?_
    refine VW.iload dL_act_628 rfl ?_
    refine VW.imul dL_act_630 ?_
    refine VW.iconst dL_act_631 ?_
    refine VW.iadd dL_act_632 ?_
    refine VW.iload dL_act_633 rfl ?_
    refine VW.iadd dL_act_635 ?_
    refine VW.aload dL_act_636 rfl ?_
    refine VW.iload dL_act_638 rfl ?_
    refine VW.iaload dL_act_640 (by omega) ht.2.1 (by omega) (by omega) (by decide) ?_
    rw [show μ2 d j.toNat = rat D j from (congrFun (hf2 d (by omega)) _).trans (hD j ⟨by omega, by omega⟩)]
    refine VW.iastore dL_act_641 (hl.1 276 (by decide)) hl.2.2.2.2 (by omega) (by omega) (by decide) ?_
    refine VW.iinc (lv' := [(0, _), (1, _), (2, _), (3, _), (4, _), (5, _), (6, _), (7, _), (8, _), (9, _), (10, _), (11, _), (12, _)]) dL_act_642 rfl (by decide) rfl ?_
    refine VW.goto 615 dL_act_645 (by decide) ?_
    refine ih (j + 1) (by omega) (by omega) _ (hf2.tr (frm_mup ⟨by decide, by decide⟩)) (fun i hi => ?_)
    by_cases e : i = 9 * c + 1 + j
    · subst e
      rw [mup_s, if_pos (by omega)]
      congr 1
      omega
    · rw [mup_k (by omega), hs2 i hi]
      by_cases e2 : 9 * c + 1 ≤ i ∧ i < 9 * c + 1 + j
      · rw [if_pos e2, if_pos (by omega)]
      · rw [if_neg e2, if_neg (by omega)]
theorem co_snoc {μ0 μ1 μ2 : Mem} (h : hasCo μ0 C) (okc : okC C) (h7 : C.length < 7) (hDl : 1 ≤ D.length ∧ D.length ≤ 8) (h1 : ∀ i : Int, 0 ≤ i ∧ i < 64 → μ1 276 i.toNat = if i = 9 * (C.length : Int) then (D.length : Int) else μ0 276 i.toNat) (hs2 : ∀ i : Int, 0 ≤ i ∧ i < 64 → μ2 276 i.toNat = if 9 * (C.length : Int) + 1 ≤ i ∧ i < 9 * (C.length : Int) + 1 + (D.length : Int) then rat D (i - (9 * (C.length : Int) + 1)) else μ1 276 i.toNat) : hasCo μ2 (C ++ [D]) := fun a ha => by
  rw [List.length_append, List.length_singleton] at ha
  by_cases e : a = C.length
  · have e2 : (C ++ [D]).getD a.toNat [] = D := by
      unfold List.getD
      rw [List.getElem?_append_right (by omega), show a.toNat - C.length = 0 by omega]
      rfl
    rw [e2, e]
    refine ⟨by rw [hs2 _ ⟨by omega, by omega⟩, if_neg (by omega), h1 _ ⟨by omega, by omega⟩, if_pos rfl], fun j hj => ?_⟩
    rw [hs2 _ ⟨by omega, by omega⟩, if_pos (by omega)]
    congr 1
    omega
  · have e2 : (C ++ [D]).getD a.toNat [] = C.getD a.toNat [] := by
      unfold List.getD
      rw [List.getElem?_append_left (by omega)]
    rw [e2]
    obtain ⟨z1, z2⟩ := h a ⟨by omega, by omega⟩
    have l8 := okc.at (c := a) ⟨by omega, by omega⟩
    refine ⟨by rw [hs2 (9 * a) ⟨by omega, by omega⟩, if_neg (by omega), h1 _ ⟨by omega, by omega⟩, if_neg (by omega)]; exact z1, fun j hj => ?_⟩
    rw [hs2 (9 * a + 1 + j) ⟨by omega, by omega⟩, if_neg (by omega), h1 _ ⟨by omega, by omega⟩, if_neg (by omega)]
    exact z2 j hj
theorem act_learn (hst : l.stackTraces = false) (hg : isG N sh) (hl : isL N sh) (ht : isT N sh d) (hI : Inv μ xs ys C S Z) (hN : p + k = N) (hk : k ≤ 3) (hm : m ≤ 82) (hsh : los p sh0 sh) {x : Int} : VW G l (some p) M_L_act 480 [(0, .ref (gB G + 0)), (1, vI x), (2, vI y), (3, .ref (gB G + 273)), (4, .ref (gB G + 274)), (5, .ref (gB G + 275)), (6, .ref (gB G + 276)), (7, vI act), (8, .ref (gB G + d)), (9, .ref (gB G + (d + 1))), (10, .ref (gB G + (d + 2)))] [] (N, sh, μ) k m (xaP p sh0 70 700 aP) := by
  obtain ⟨hA, ok, hL, hok, hpw⟩ := id hI
  obtain ⟨⟨⟨ok1, ok2, ok3, ok4⟩, ⟨ok5, ok6, ok7⟩, ok8⟩, ⟨ok9, ok10⟩, ok11, ok12⟩ := okA.un ok
  have hd1 := ht.1.1
  have hd2 := ht.1.2
  have h7 := hok.1
  refine VW.aload_n dL_act_480 rfl ?_
  refine VW.iconst dL_act_481 ?_
  refine VW.iaload dL_act_482 (hl.1 273 (by decide)) hl.2.1 (by omega) (by omega) (by decide) ?_
  rw [show μ 273 (0 : Int).toNat = (xs.length : Int) from hL.1]
  refine VW.aload dL_act_483 rfl ?_
  refine VW.aload dL_act_485 rfl ?_
  refine VW.aload dL_act_487 rfl ?_
  refine VW.aload dL_act_489 rfl ?_
  refine VW.aload dL_act_491 rfl ?_
  refine VW.zvS (av := [vI (xs.length : Int), .ref (gB G + 274), .ref (gB G + 275), .ref (gB G + d), .ref (gB G + (d + 1)), .ref (gB G + (d + 2))]) cs_L_act_L_runs dL_act_493 rfl (Nat.le_of_ble_eq_true rfl) (l_runs (d := d) hst hl ht hL.2.2.2.2.1 hL.2.2.2.2.2.1 ⟨ok1, ok2⟩ ok3 ok4) (fun μ4 h4 => ?_)
  have A4 := hA.keep h4.2 (by omega)
  have L4 := hL.rl (n := 277) (fun i i1 i2 => h4.2 i (by omega)) (Nat.le_refl _)
  have okd := rn_ok ok3 ok4 (by omega : xs.length ≤ 41)
  refine VW.aload_n dL_act_496 rfl ?_
  refine VW.aload dL_act_497 rfl ?_
  refine VW.aload dL_act_499 rfl ?_
  refine VW.aload dL_act_501 rfl ?_
  refine VW.zvS (av := [.ref (gB G + 273), .ref (gB G + d), .ref (gB G + (d + 1)), .ref (gB G + (d + 2))]) cs_L_act_L_forgive dL_act_503 rfl (Nat.le_of_ble_eq_true rfl) (l_forgive (d := d) hst hl ht L4.2.2.2.1 ok8 h4.1 okd) (fun μ5 h5 => ?_)
  obtain ⟨h5R, h5X, h5f⟩ := h5
  have A5 := A4.keep h5f (by omega)
  have L5 := L4.rl (n := 277) (fun i i1 i2 => h5f i (by omega)) (Nat.le_refl _)
  have q0 : μ5 (d + 2) (0 : Int).toNat = ((stk xs ys S).length : Int) := h5R.1
  have aD : arr μ5 d (stk xs ys S) := h5R.2.2.1
  have sk := stk_ok (S := S) ok3 ok4 (by omega : xs.length ≤ 41)
  have lb := lsF_b (D := stk xs ys S) ok8 sk.1 hok.b8
  obtain ⟨hw5, hw0, hw1, hw2, hw3, hw4⟩ := id ok8
  have n7 := hl.1 276 (by decide)
  refine VW.aload_n dL_act_506 rfl ?_
  refine VW.iconst dL_act_507 ?_
  refine VW.iaload dL_act_508 (hl.1 273 (by decide)) hl.2.1 (by omega) (by omega) (by decide) ?_
  rw [show μ5 273 (1 : Int).toNat = (C.length : Int) from L5.2.1]
  refine VW.bipush dL_act_509 rfl ?_
  refine VW.icmp_eq 552 ⟨by omega, by omega⟩ ⟨by omega, by omega⟩ dL_act_511 (by decide) (fun c511 => ?_) (fun c511 => ?_)
  · refine VW.aload_n dL_act_552 rfl ?_
    refine VW.iconst dL_act_553 ?_
    refine VW.iaload dL_act_554 (hl.1 273 (by decide)) hl.2.1 (by omega) (by omega) (by decide) ?_
    rw [show μ5 273 (1 : Int).toNat = (C.length : Int) from L5.2.1]
    refine VW.bipush dL_act_555 rfl ?_
    refine VW.icmp_eq 584 ⟨by omega, by omega⟩ ⟨by omega, by omega⟩ dL_act_557 (by decide) (fun c557 => ?_) (fun c557 => ?_)
    · refine VW.iconst dL_act_584 ?_
      refine VW.goto 589 dL_act_585 (by decide) ?_
      refine VW.ireturn dL_act_589 rfl rfl ?_
      exact xaP.i (by omega) (by omega) (by omega) hsh ⟨rfl, _, _, _, _, _, A5, ok, L5, hok, hpw⟩
    · refine VW.aload dL_act_560 rfl ?_
      refine VW.iconst dL_act_562 ?_
      refine VW.iaload dL_act_563 (by omega) ht.2.2.2 (by omega) (by omega) (by decide) ?_
      rw [q0]
      refine VW.iconst dL_act_564 ?_
      refine VW.icmp_lt 584 ⟨by omega, by omega⟩ ⟨by omega, by omega⟩ dL_act_565 (by decide) (fun c565 => ?_) (fun c565 => ?_)
      · refine VW.iconst dL_act_584 ?_
        refine VW.goto 589 dL_act_585 (by decide) ?_
        refine VW.ireturn dL_act_589 rfl rfl ?_
        exact xaP.i (by omega) (by omega) (by omega) hsh ⟨rfl, _, _, _, _, _, A5, ok, L5, hok, hpw⟩
      · refine VW.aload dL_act_568 rfl ?_
        refine VW.iconst dL_act_570 ?_
        refine VW.iaload dL_act_571 (by omega) ht.2.2.2 (by omega) (by omega) (by decide) ?_
        rw [q0]
        refine VW.bipush dL_act_572 rfl ?_
        refine VW.icmp_gt 584 ⟨by omega, by omega⟩ ⟨by omega, by omega⟩ dL_act_574 (by decide) (fun c574 => ?_) (fun c574 => ?_)
        · refine VW.iconst dL_act_584 ?_
          refine VW.goto 589 dL_act_585 (by decide) ?_
          refine VW.ireturn dL_act_589 rfl rfl ?_
          exact xaP.i (by omega) (by omega) (by omega) hsh ⟨rfl, _, _, _, _, _, A5, ok, L5, hok, hpw⟩
        · have ab : -1 ≤ agn xs ys C S ∧ agn xs ys C S < 10 := by
            have nb := nbut_b (dsts xs ys C S) (-1)
            rw [dsts_l] at nb
            unfold agn
            split <;> omega
          refine VW.aload_n dL_act_577 rfl ?_
          refine VW.pV0 cv_L_act_X7_against dL_act_578 (Nat.le_of_ble_eq_true rfl) (gLt hg) hg.2.1 (g_against (xs := xs) (ys := ys) (C := C) (S := S) (Z := Z) (B := []) hst hg A5 ok) ?_
          refine VW.if_lt 588 ⟨by omega, by omega⟩ dL_act_581 (by decide) (fun c581 => ?_) (fun c581 => ?_)
          · refine VW.iconst dL_act_588 ?_
            refine VW.ireturn dL_act_589 rfl rfl ?_
            exfalso
            omega
          · refine VW.iconst dL_act_584 ?_
            refine VW.goto 589 dL_act_585 (by decide) ?_
            refine VW.ireturn dL_act_589 rfl rfl ?_
            exact xaP.i (by omega) (by omega) (by omega) hsh ⟨rfl, _, _, _, _, _, A5, ok, L5, hok, hpw⟩
  · refine VW.aload dL_act_514 rfl ?_
    refine VW.iconst dL_act_516 ?_
    refine VW.iaload dL_act_517 (by omega) ht.2.2.2 (by omega) (by omega) (by decide) ?_
    rw [q0]
    refine VW.iconst dL_act_518 ?_
    refine VW.icmp_lt 552 ⟨by omega, by omega⟩ ⟨by omega, by omega⟩ dL_act_519 (by decide) (fun c519 => ?_) (fun c519 => ?_)
    · refine VW.aload_n dL_act_552 rfl ?_
      refine VW.iconst dL_act_553 ?_
      refine VW.iaload dL_act_554 (hl.1 273 (by decide)) hl.2.1 (by omega) (by omega) (by decide) ?_
      rw [show μ5 273 (1 : Int).toNat = (C.length : Int) from L5.2.1]
      refine VW.bipush dL_act_555 rfl ?_
      refine VW.icmp_eq 584 ⟨by omega, by omega⟩ ⟨by omega, by omega⟩ dL_act_557 (by decide) (fun c557 => ?_) (fun c557 => ?_)
      · refine VW.iconst dL_act_584 ?_
        refine VW.goto 589 dL_act_585 (by decide) ?_
        refine VW.ireturn dL_act_589 rfl rfl ?_
        exact xaP.i (by omega) (by omega) (by omega) hsh ⟨rfl, _, _, _, _, _, A5, ok, L5, hok, hpw⟩
      · refine VW.aload dL_act_560 rfl ?_
        refine VW.iconst dL_act_562 ?_
        refine VW.iaload dL_act_563 (by omega) ht.2.2.2 (by omega) (by omega) (by decide) ?_
        rw [q0]
        refine VW.iconst dL_act_564 ?_
        refine VW.icmp_lt 584 ⟨by omega, by omega⟩ ⟨by omega, by omega⟩ dL_act_565 (by decide) (fun c565 => ?_) (fun c565 => ?_)
        · refine VW.iconst dL_act_584 ?_
          refine VW.goto 589 dL_act_585 (by decide) ?_
          refine VW.ireturn dL_act_589 rfl rfl ?_
          exact xaP.i (by omega) (by omega) (by omega) hsh ⟨rfl, _, _, _, _, _, A5, ok, L5, hok, hpw⟩
        · refine VW.aload dL_act_568 rfl ?_
          refine VW.iconst dL_act_570 ?_
          refine VW.iaload dL_act_571 (by omega) ht.2.2.2 (by omega) (by omega) (by decide) ?_
          rw [q0]
          refine VW.bipush dL_act_572 rfl ?_
          refine VW.icmp_gt 584 ⟨by omega, by omega⟩ ⟨by omega, by omega⟩ dL_act_574 (by decide) (fun c574 => ?_) (fun c574 => ?_)
          · refine VW.iconst dL_act_584 ?_
            refine VW.goto 589 dL_act_585 (by decide) ?_
            refine VW.ireturn dL_act_589 rfl rfl ?_
            exact xaP.i (by omega) (by omega) (by omega) hsh ⟨rfl, _, _, _, _, _, A5, ok, L5, hok, hpw⟩
          · have ab : -1 ≤ agn xs ys C S ∧ agn xs ys C S < 10 := by
              have nb := nbut_b (dsts xs ys C S) (-1)
              rw [dsts_l] at nb
              unfold agn
              split <;> omega
            refine VW.aload_n dL_act_577 rfl ?_
            refine VW.pV0 cv_L_act_X7_against dL_act_578 (Nat.le_of_ble_eq_true rfl) (gLt hg) hg.2.1 (g_against (xs := xs) (ys := ys) (C := C) (S := S) (Z := Z) (B := []) hst hg A5 ok) ?_
            refine VW.if_lt 588 ⟨by omega, by omega⟩ dL_act_581 (by decide) (fun c581 => ?_) (fun c581 => ?_)
            · refine VW.iconst dL_act_588 ?_
              refine VW.ireturn dL_act_589 rfl rfl ?_
              exfalso
              omega
            · refine VW.iconst dL_act_584 ?_
              refine VW.goto 589 dL_act_585 (by decide) ?_
              refine VW.ireturn dL_act_589 rfl rfl ?_
              exact xaP.i (by omega) (by omega) (by omega) hsh ⟨rfl, _, _, _, _, _, A5, ok, L5, hok, hpw⟩
    · refine VW.aload dL_act_522 rfl ?_
      refine VW.iconst dL_act_524 ?_
      refine VW.iaload dL_act_525 (by omega) ht.2.2.2 (by omega) (by omega) (by decide) ?_
      rw [q0]
      refine VW.bipush dL_act_526 rfl ?_
      refine VW.icmp_gt 552 ⟨by omega, by omega⟩ ⟨by omega, by omega⟩ dL_act_528 (by decide) (fun c528 => ?_) (fun c528 => ?_)
      · refine VW.aload_n dL_act_552 rfl ?_
        refine VW.iconst dL_act_553 ?_
        refine VW.iaload dL_act_554 (hl.1 273 (by decide)) hl.2.1 (by omega) (by omega) (by decide) ?_
        rw [show μ5 273 (1 : Int).toNat = (C.length : Int) from L5.2.1]
        refine VW.bipush dL_act_555 rfl ?_
        refine VW.icmp_eq 584 ⟨by omega, by omega⟩ ⟨by omega, by omega⟩ dL_act_557 (by decide) (fun c557 => ?_) (fun c557 => ?_)
        · refine VW.iconst dL_act_584 ?_
          refine VW.goto 589 dL_act_585 (by decide) ?_
          refine VW.ireturn dL_act_589 rfl rfl ?_
          exact xaP.i (by omega) (by omega) (by omega) hsh ⟨rfl, _, _, _, _, _, A5, ok, L5, hok, hpw⟩
        · refine VW.aload dL_act_560 rfl ?_
          refine VW.iconst dL_act_562 ?_
          refine VW.iaload dL_act_563 (by omega) ht.2.2.2 (by omega) (by omega) (by decide) ?_
          rw [q0]
          refine VW.iconst dL_act_564 ?_
          refine VW.icmp_lt 584 ⟨by omega, by omega⟩ ⟨by omega, by omega⟩ dL_act_565 (by decide) (fun c565 => ?_) (fun c565 => ?_)
          · refine VW.iconst dL_act_584 ?_
            refine VW.goto 589 dL_act_585 (by decide) ?_
            refine VW.ireturn dL_act_589 rfl rfl ?_
            exact xaP.i (by omega) (by omega) (by omega) hsh ⟨rfl, _, _, _, _, _, A5, ok, L5, hok, hpw⟩
          · refine VW.aload dL_act_568 rfl ?_
            refine VW.iconst dL_act_570 ?_
            refine VW.iaload dL_act_571 (by omega) ht.2.2.2 (by omega) (by omega) (by decide) ?_
            rw [q0]
            refine VW.bipush dL_act_572 rfl ?_
            refine VW.icmp_gt 584 ⟨by omega, by omega⟩ ⟨by omega, by omega⟩ dL_act_574 (by decide) (fun c574 => ?_) (fun c574 => ?_)
            · refine VW.iconst dL_act_584 ?_
              refine VW.goto 589 dL_act_585 (by decide) ?_
              refine VW.ireturn dL_act_589 rfl rfl ?_
              exact xaP.i (by omega) (by omega) (by omega) hsh ⟨rfl, _, _, _, _, _, A5, ok, L5, hok, hpw⟩
            · have ab : -1 ≤ agn xs ys C S ∧ agn xs ys C S < 10 := by
                have nb := nbut_b (dsts xs ys C S) (-1)
                rw [dsts_l] at nb
                unfold agn
                split <;> omega
              refine VW.aload_n dL_act_577 rfl ?_
              refine VW.pV0 cv_L_act_X7_against dL_act_578 (Nat.le_of_ble_eq_true rfl) (gLt hg) hg.2.1 (g_against (xs := xs) (ys := ys) (C := C) (S := S) (Z := Z) (B := []) hst hg A5 ok) ?_
              refine VW.if_lt 588 ⟨by omega, by omega⟩ dL_act_581 (by decide) (fun c581 => ?_) (fun c581 => ?_)
              · refine VW.iconst dL_act_588 ?_
                refine VW.ireturn dL_act_589 rfl rfl ?_
                exfalso
                omega
              · refine VW.iconst dL_act_584 ?_
                refine VW.goto 589 dL_act_585 (by decide) ?_
                refine VW.ireturn dL_act_589 rfl rfl ?_
                exact xaP.i (by omega) (by omega) (by omega) hsh ⟨rfl, _, _, _, _, _, A5, ok, L5, hok, hpw⟩
      · refine VW.aload_n dL_act_531 rfl ?_
        refine VW.aload dL_act_532 rfl ?_
        refine VW.aload dL_act_534 rfl ?_
        refine VW.iconst dL_act_536 ?_
        refine VW.iaload dL_act_537 (by omega) ht.2.2.2 (by omega) (by omega) (by decide) ?_
        rw [q0]
        refine VW.aload dL_act_538 rfl ?_
        refine VW.xS (av := [.ref (gB G + 273), .ref (gB G + d), vI ((stk xs ys S).length : Int), .ref (gB G + 276)]) (n0 := p) cs_L_act_L_least dL_act_540 rfl (Nat.le_of_ble_eq_true rfl) rfl (by omega) (l_least (D := stk xs ys S) (a := d) (cap := 40) hst hl L5.2.2.2.1 ok8 L5.2.2.2.2.2.2 L5.2.1 hok ⟨by omega, ht.2.1, by omega⟩ aD sk.1 sk.2) (fun x6 c6 s6 sh6 μ5 hc6 hs6 hl6 h6 => ?_)
        obtain ⟨rfl, h6⟩ := h6
        have A5 := hasA.lo A5 h6 (by omega)
        have L5 := L5.rl (n := 277) (rl.rf.l h6 (by omega)) (Nat.le_refl _)
        have q0 : μ5 (d + 2) (0 : Int).toNat = ((stk xs ys S).length : Int) := (congrFun (h6.at (by omega)) _).trans q0
        have aD : arr μ5 d (stk xs ys S) := aD.same (h6.at (by omega))
        have hl := hl.los hl6 (by omega : N ≤ N + c6)
        have ht := ht.los hl6 (by omega : N ≤ N + c6)
        have hg := hg.los hl6 (by omega : N ≤ N + c6)
        have hsh := hsh.tr hl6 (by omega)
        refine VW.iconst dL_act_543 ?_
        refine VW.aload_n dL_act_544 rfl ?_
        refine VW.bipush dL_act_545 rfl ?_
        refine VW.iaload dL_act_547 (hl.1 273 (by decide)) hl.2.1 (by omega) (by omega) (by decide) ?_
        rw [show μ5 273 (7 : Int).toNat = rat S 4 from L5.2.2.2.1.2.2.2.2]
        refine VW.imul dL_act_548 ?_
        refine VW.icmp_gt 590 ⟨by omega, by omega⟩ ⟨by omega, by omega⟩ dL_act_549 (by decide) (fun c549 => ?_) (fun c549 => ?_)
        · refine VW.aload_n dL_act_590 rfl ?_
          refine VW.iconst dL_act_591 ?_
          refine VW.dup2 dL_act_592 rfl rfl ?_
          refine VW.iaload dL_act_593 (hl.1 273 (by decide)) hl.2.1 (by omega) (by omega) (by decide) ?_
          rw [show μ5 273 (1 : Int).toNat = (C.length : Int) from L5.2.1]
          refine VW.dup_x2 dL_act_594 rfl rfl rfl ?_
          refine VW.iconst dL_act_595 ?_
          refine VW.iadd dL_act_596 ?_
          refine VW.iastore dL_act_597 (hl.1 273 (by decide)) hl.2.1 (by omega) (by omega) (by decide) ?_
          refine VW.istore (lv' := [(0, _), (1, _), (2, _), (3, _), (4, _), (5, _), (6, _), (7, _), (8, _), (9, _), (10, _), (11, _)]) dL_act_598 (by decide) rfl ?_
          refine VW.aload dL_act_600 rfl ?_
          refine VW.bipush dL_act_602 rfl ?_
          refine VW.iload dL_act_604 rfl ?_
          refine VW.imul dL_act_606 ?_
          refine VW.aload dL_act_607 rfl ?_
          refine VW.iconst dL_act_609 ?_
          refine VW.iaload dL_act_610 (by omega) ht.2.2.2 (by omega) (by omega) (by decide) ?_
          rw [show mup μ5 273 (1 : Int).toNat ((C.length : Int) + 1) (d + 2) (0 : Int).toNat = ((stk xs ys S).length : Int) from (congrFun (mup_n (by omega)) _).trans q0]
          refine VW.iastore dL_act_611 (hl.1 276 (by decide)) hl.2.2.2.2 (by omega) (by omega) (by decide) ?_
          refine VW.nmm (fun μ1 hμ1 => ?_)
          have A1 : hasA μ1 (mk xs ys C S Z []) := by
            rw [hμ1]
            exact A5.keep ((frm_mup (lo := 273) (hi := 277) ⟨by decide, by decide⟩).tr (frm_mup ⟨by decide, by decide⟩)) (Nat.le_refl _)
          have w276 : ∀ i : Int, 0 ≤ i ∧ i < 64 → μ1 276 i.toNat = if i = 9 * (C.length : Int) then ((stk xs ys S).length : Int) else μ5 276 i.toNat := fun i hi => by
            rw [hμ1]
            by_cases e : i = 9 * (C.length : Int)
            · rw [if_pos e, e, mup_s]
            · rw [if_neg e, mup_k (by omega), mup_n (by decide)]
          have wo : ∀ i : Nat, i ≠ 273 → i ≠ 276 → μ1 i = μ5 i := fun i i1 i2 => by rw [hμ1, mup_n i2, mup_n i1]
          have w273 : ∀ i : Nat, i ≠ 1 → μ1 273 i = μ5 273 i := fun i hi => by rw [hμ1, mup_n (by decide), mup_k (by rw [show (1 : Int).toNat = 1 from rfl]; exact hi)]
          have w1 : μ1 273 1 = (C.length : Int) + 1 := by
            rw [hμ1, mup_n (by decide)]
            exact mup_s _ _ _ _
          obtain ⟨σ0, hσ⟩ : ∃ σ0 : St, σ0 = ((xs, ys), C, S) := ⟨_, rfl⟩
          refine VW.iconst dL_act_612 ?_
          refine VW.istore (lv' := [(0, _), (1, _), (2, _), (3, _), (4, _), (5, _), (6, _), (7, _), (8, _), (9, _), (10, _), (11, _), (12, _)]) dL_act_613 (by decide) rfl ?_
          obtain ⟨ag1, tn1, far⟩ := agn_far (xs := xs) (ys := ys) (S := S) (C := C) (by omega)
          refine lp_lc (D := stk xs ys S) (c := (C.length : Int)) hst hl ht ⟨by omega, by omega⟩ (aD.same (wo d (by omega) (by omega))) ⟨by omega, by omega⟩ ((congrFun (wo (d + 2) (by omega) (by omega)) _).trans q0) (fun μ2 hf2 hs2 => ?_) (stk xs ys S).length 0 (by omega) (by omega) μ1 frm.rf (fun i hi => by rw [if_neg (by omega)])
          have L2 : hasL μ2 xs ys (C ++ [stk xs ys S]) S Z.length := by
            obtain ⟨q1, q2, q3, ⟨q4, q5, q6, q7, q8⟩, qx, qy, qc⟩ := L5
            have e3 : μ2 273 = μ1 273 := hf2 273 (by decide)
            refine ⟨?_, ?_, ?_, ⟨?_, ?_, ?_, ?_, ?_⟩, qx.same ((hf2 274 (by decide)).trans (wo _ (by decide) (by decide))), qy.same ((hf2 275 (by decide)).trans (wo _ (by decide) (by decide))), co_snoc qc hok (by omega) ⟨by omega, by omega⟩ w276 hs2⟩
            · rw [e3]; exact (w273 _ (by decide)).trans q1
            · rw [e3, List.length_append, List.length_singleton, w1]; push_cast; rfl
            · rw [e3]; exact (w273 _ (by decide)).trans q3
            · rw [e3]; exact (w273 _ (by decide)).trans q4
            · rw [e3]; exact (w273 _ (by decide)).trans q5
            · rw [e3]; exact (w273 _ (by decide)).trans q6
            · rw [e3]; exact (w273 _ (by decide)).trans q7
            · rw [e3]; exact (w273 _ (by decide)).trans q8
          have A2 := A1.keep hf2 (by decide)
          refine VW.aload_n dL_act_648 rfl ?_
          refine VW.iconst dL_act_649 ?_
          refine VW.iaload dL_act_650 (hl.1 273 (by decide)) hl.2.1 (by omega) (by omega) (by decide) ?_
          rw [show μ2 273 (2 : Int).toNat = (Z.length : Int) from L2.2.2.1]
          refine VW.bipush dL_act_651 rfl ?_
          refine VW.icmp_ge 663 ⟨by omega, by omega⟩ ⟨by omega, by omega⟩ dL_act_653 (by decide) (fun c653 => ?_) (fun c653 => ?_)
          · refine VW.nmm (fun μz hμz => ?_)
            have LZ : hasL μz xs ys (C ++ [stk xs ys S]) S ((kp Z σ0).length : Int) := by
              rw [hμz, kp_ge (by omega)]
              exact L2
            have AZ : hasA μz (mk xs ys C S Z []) := by
              rw [hμz]
              exact A2
            have hop : opLearn xs ys C S Z [] = ((0, (C.length : Int)), mk2 xs ys (C ++ [stk xs ys S]) S xs ys C S Z []) := if_neg (fun q9 => q9 ⟨by omega, by omega, by omega, tn1⟩)
            have hok9 := okA_learn ok
            rw [hop] at hok9
            refine VW.aload_n dL_act_663 rfl ?_
            refine VW.pV0 cv_L_act_X7_against dL_act_664 (Nat.le_of_ble_eq_true rfl) (gLt hg) hg.2.1 (g_against (xs := xs) (ys := ys) (C := C) (S := S) (Z := Z) (B := []) hst hg AZ ok) ?_
            rw [ag1]
            refine VW.iconst dL_act_667 ?_
            refine VW.icmp_neS 684 dL_act_668 (by decide) ?_
            refine VW.aload_n dL_act_671 rfl ?_
            refine VW.gPc (av := []) cv_L_act_X7_learn dL_act_672 rfl (Nat.le_of_ble_eq_true rfl) (gLt hg) hg.2.1 (g_learn hst hg AZ ok) hop (fun μ9 h9 f9 => ?_)
            have LF := LZ.rl (n := 277) (rl.rf.f f9) (Nat.le_refl _)
            rw [hσ] at LF
            refine VW.iload dL_act_675 rfl ?_
            refine VW.icmp_neS 684 dL_act_677 (by decide) ?_
            refine VW.iconst dL_act_680 ?_
            refine VW.goto 685 dL_act_681 (by decide) ?_
            refine VW.ireturn dL_act_685 rfl rfl ?_
            exact xaP.i (by omega) (by omega) (by omega) hsh ⟨rfl, _, _, _, _, _, h9, hok9, LF, (hok.snoc (by omega) ⟨⟨by omega, by omega⟩, sk.2⟩), (hpw.snoc far)⟩
          · refine VW.aload_n dL_act_656 rfl ?_
            refine VW.iconst dL_act_657 ?_
            refine VW.dup2 dL_act_658 rfl rfl ?_
            refine VW.iaload dL_act_659 (hl.1 273 (by decide)) hl.2.1 (by omega) (by omega) (by decide) ?_
            rw [show μ2 273 (2 : Int).toNat = (Z.length : Int) from L2.2.2.1]
            refine VW.iconst dL_act_660 ?_
            refine VW.iadd dL_act_661 ?_
            refine VW.iastore dL_act_662 (hl.1 273 (by decide)) hl.2.1 (by omega) (by omega) (by decide) ?_
            refine VW.nmm (fun μz hμz => ?_)
            have LZ : hasL μz xs ys (C ++ [stk xs ys S]) S ((kp Z σ0).length : Int) := by
              rw [hμz, kp_lt (by omega)]
              exact L2.z
            have AZ : hasA μz (mk xs ys C S Z []) := by
              rw [hμz]
              exact A2.keep (frm_mup (lo := 273) (hi := 277) ⟨by decide, by decide⟩) (Nat.le_refl _)
            have hop : opLearn xs ys C S Z [] = ((0, (C.length : Int)), mk2 xs ys (C ++ [stk xs ys S]) S xs ys C S Z []) := if_neg (fun q9 => q9 ⟨by omega, by omega, by omega, tn1⟩)
            have hok9 := okA_learn ok
            rw [hop] at hok9
            refine VW.aload_n dL_act_663 rfl ?_
            refine VW.pV0 cv_L_act_X7_against dL_act_664 (Nat.le_of_ble_eq_true rfl) (gLt hg) hg.2.1 (g_against (xs := xs) (ys := ys) (C := C) (S := S) (Z := Z) (B := []) hst hg AZ ok) ?_
            rw [ag1]
            refine VW.iconst dL_act_667 ?_
            refine VW.icmp_neS 684 dL_act_668 (by decide) ?_
            refine VW.aload_n dL_act_671 rfl ?_
            refine VW.gPc (av := []) cv_L_act_X7_learn dL_act_672 rfl (Nat.le_of_ble_eq_true rfl) (gLt hg) hg.2.1 (g_learn hst hg AZ ok) hop (fun μ9 h9 f9 => ?_)
            have LF := LZ.rl (n := 277) (rl.rf.f f9) (Nat.le_refl _)
            rw [hσ] at LF
            refine VW.iload dL_act_675 rfl ?_
            refine VW.icmp_neS 684 dL_act_677 (by decide) ?_
            refine VW.iconst dL_act_680 ?_
            refine VW.goto 685 dL_act_681 (by decide) ?_
            refine VW.ireturn dL_act_685 rfl rfl ?_
            exact xaP.i (by omega) (by omega) (by omega) hsh ⟨rfl, _, _, _, _, _, h9, hok9, LF, (hok.snoc (by omega) ⟨⟨by omega, by omega⟩, sk.2⟩), (hpw.snoc far)⟩
        · refine VW.aload_n dL_act_552 rfl ?_
          refine VW.iconst dL_act_553 ?_
          refine VW.iaload dL_act_554 (hl.1 273 (by decide)) hl.2.1 (by omega) (by omega) (by decide) ?_
          rw [show μ5 273 (1 : Int).toNat = (C.length : Int) from L5.2.1]
          refine VW.bipush dL_act_555 rfl ?_
          refine VW.icmp_eq 584 ⟨by omega, by omega⟩ ⟨by omega, by omega⟩ dL_act_557 (by decide) (fun c557 => ?_) (fun c557 => ?_)
          · refine VW.iconst dL_act_584 ?_
            refine VW.goto 589 dL_act_585 (by decide) ?_
            refine VW.ireturn dL_act_589 rfl rfl ?_
            exact xaP.i (by omega) (by omega) (by omega) hsh ⟨rfl, _, _, _, _, _, A5, ok, L5, hok, hpw⟩
          · refine VW.aload dL_act_560 rfl ?_
            refine VW.iconst dL_act_562 ?_
            refine VW.iaload dL_act_563 (by omega) ht.2.2.2 (by omega) (by omega) (by decide) ?_
            rw [q0]
            refine VW.iconst dL_act_564 ?_
            refine VW.icmp_lt 584 ⟨by omega, by omega⟩ ⟨by omega, by omega⟩ dL_act_565 (by decide) (fun c565 => ?_) (fun c565 => ?_)
            · refine VW.iconst dL_act_584 ?_
              refine VW.goto 589 dL_act_585 (by decide) ?_
              refine VW.ireturn dL_act_589 rfl rfl ?_
              exact xaP.i (by omega) (by omega) (by omega) hsh ⟨rfl, _, _, _, _, _, A5, ok, L5, hok, hpw⟩
            · refine VW.aload dL_act_568 rfl ?_
              refine VW.iconst dL_act_570 ?_
              refine VW.iaload dL_act_571 (by omega) ht.2.2.2 (by omega) (by omega) (by decide) ?_
              rw [q0]
              refine VW.bipush dL_act_572 rfl ?_
              refine VW.icmp_gt 584 ⟨by omega, by omega⟩ ⟨by omega, by omega⟩ dL_act_574 (by decide) (fun c574 => ?_) (fun c574 => ?_)
              · refine VW.iconst dL_act_584 ?_
                refine VW.goto 589 dL_act_585 (by decide) ?_
                refine VW.ireturn dL_act_589 rfl rfl ?_
                exact xaP.i (by omega) (by omega) (by omega) hsh ⟨rfl, _, _, _, _, _, A5, ok, L5, hok, hpw⟩
              · have ab : -1 ≤ agn xs ys C S ∧ agn xs ys C S < 10 := by
                  have nb := nbut_b (dsts xs ys C S) (-1)
                  rw [dsts_l] at nb
                  unfold agn
                  split <;> omega
                have an := agn_near (xs := xs) (ys := ys) ok8 (by omega : lsF S (stk xs ys S) C C.length 0 9999 ≤ 2 * rat S 4)
                refine VW.aload_n dL_act_577 rfl ?_
                refine VW.pV0 cv_L_act_X7_against dL_act_578 (Nat.le_of_ble_eq_true rfl) (gLt hg) hg.2.1 (g_against (xs := xs) (ys := ys) (C := C) (S := S) (Z := Z) (B := []) hst hg A5 ok) ?_
                refine VW.if_lt 588 ⟨by omega, by omega⟩ dL_act_581 (by decide) (fun c581 => ?_) (fun c581 => ?_)
                · refine VW.iconst dL_act_588 ?_
                  refine VW.ireturn dL_act_589 rfl rfl ?_
                  exfalso
                  omega
                · refine VW.iconst dL_act_584 ?_
                  refine VW.goto 589 dL_act_585 (by decide) ?_
                  refine VW.ireturn dL_act_589 rfl rfl ?_
                  exact xaP.i (by omega) (by omega) (by omega) hsh ⟨rfl, _, _, _, _, _, A5, ok, L5, hok, hpw⟩
theorem l_act (hst : l.stackTraces = false) (hg : isG p sh) (hl : isL p sh) (hI : Inv μ xs ys C S Z) {x : Int} : Xa G l p sh M_L_act [.ref (gB G + 0), vI x, vI y, .ref (gB G + 273), .ref (gB G + 274), .ref (gB G + 275), .ref (gB G + 276)] μ 70 700 aP := by
  refine Xa.of hst rfl (by decide +kernel) (Nat.le_of_ble_eq_true rfl) rfl ?_
  have n7 := hl.1 276 (by decide)
  refine VW.iload_n dL_act_0 rfl ?_
  refine VW.bipush dL_act_1 rfl ?_
  refine VW.ishrX dL_act_3 (fun x3 hx3 => ?_)
  refine VW.bipush dL_act_4 rfl ?_
  refine VW.zqS (av := [vI x3, vI 14]) cs_L_act_L_at dL_act_6 rfl (Nat.le_of_ble_eq_true rfl) (l_at hst ⟨by omega, by omega⟩) (fun act ha => ?_)
  refine VW.istore (lv' := [(0, _), (1, _), (2, _), (3, _), (4, _), (5, _), (6, _), (7, _)]) dL_act_9 (by decide) rfl ?_
  refine VW.bipush dL_act_11 rfl ?_
  refine VW.newI (n0 := p) dL_act_13 wd_62 rfl (by omega) ⟨by omega, by omega⟩ ?_
  refine VW.nme (N' := p + 1) (k' := 1) (n' := 40) (by omega) (by omega) (by omega) (fun s1 m1 hs1 hm1 => ?_)
  refine VW.astore (lv' := [(0, _), (1, _), (2, _), (3, _), (4, _), (5, _), (6, _), (7, _), (8, _)]) dL_act_15 (by decide) rfl ?_
  refine VW.bipush dL_act_17 rfl ?_
  refine VW.newI (n0 := p) dL_act_19 wd_62 rfl (by omega) ⟨by omega, by omega⟩ ?_
  refine VW.nme (N' := p + 2) (k' := 2) (n' := 80) (by omega) (by omega) (by omega) (fun s2 m2 hs2 hm2 => ?_)
  refine VW.astore (lv' := [(0, _), (1, _), (2, _), (3, _), (4, _), (5, _), (6, _), (7, _), (8, _), (9, _)]) dL_act_21 (by decide) rfl ?_
  refine VW.iconst dL_act_23 ?_
  refine VW.newI (n0 := p) dL_act_24 wd_62 rfl (by omega) ⟨by omega, by omega⟩ ?_
  refine VW.nme (N' := p + 3) (k' := 3) (n' := 82) (by omega) (by omega) (by omega) (fun s3 m3 hs3 hm3 => ?_)
  have e3 : los p sh s3 := by rw [hs3, hs2, hs1]; exact ((los.up (Nat.le_refl p)).tr (los.up (Nat.le_succ p)) (Nat.le_refl p)).tr (los.up (by omega)) (Nat.le_refl p)
  have g3 : lo p μ m3 := by rw [hm3, hm2, hm1]; exact ((lo.up (Nat.le_refl p)).tr (lo.up (Nat.le_succ p)) (Nat.le_refl p)).tr (lo.up (by omega)) (Nat.le_refl p)
  have hg3 := hg.los e3 (by omega : p ≤ p + 3)
  have hl3 := hl.los e3 (by omega : p ≤ p + 3)
  have ht3 : isT (p + 3) s3 p := ⟨⟨by omega, by omega⟩, by rw [hs3, fup_n (by omega), hs2, fup_n (by omega), hs1, fup_s]; rfl, by rw [hs3, fup_n (by omega), hs2, fup_s]; rfl, by rw [hs3, fup_s]; rfl⟩
  have hI3 : Inv m3 xs ys C S Z := ⟨hI.1.lo g3 (by omega), hI.2.1, hI.2.2.1.rl (n := 277) (rl.rf.l g3 (by omega)) (Nat.le_refl _), hI.2.2.2⟩
  obtain ⟨-, okx, L3, hok3, -⟩ := id hI3
  have okl : xs.length ≤ 40 := okx.1.1.2.1
  have okl7 := hok3.1
  have okz : Z.length ≤ 6 := okx.2.1.1
  clear hs1 hm1 hs2 hm2 hs3 hm3 s1 s2 m1 m2
  refine VW.astore (lv' := [(0, _), (1, _), (2, _), (3, _), (4, _), (5, _), (6, _), (7, _), (8, _), (9, _), (10, _)]) dL_act_26 (by decide) rfl ?_
  refine VW.iload dL_act_28 rfl ?_
  refine VW.bipush dL_act_30 rfl ?_
  refine VW.icmp_ge 326 ⟨by omega, by omega⟩ ⟨by omega, by omega⟩ dL_act_32 (by decide) (fun c32 => ?_) (fun c32 => ?_)
  · refine VW.iload dL_act_326 rfl ?_
    refine VW.bipush dL_act_328 rfl ?_
    refine VW.icmp_ne 420 ⟨by omega, by omega⟩ ⟨by omega, by omega⟩ dL_act_330 (by decide) (fun c330 => ?_) (fun c330 => ?_)
    · refine VW.iload dL_act_420 rfl ?_
      refine VW.bipush dL_act_422 rfl ?_
      refine VW.icmp_eq 434 ⟨by omega, by omega⟩ ⟨by omega, by omega⟩ dL_act_424 (by decide) (fun c424 => ?_) (fun c424 => ?_)
      · exact act_begin (d := p) hst hg3 hl3 ht3 hI3 (by omega) (by omega) (by omega) e3
      · refine VW.iload dL_act_427 rfl ?_
        refine VW.bipush dL_act_429 rfl ?_
        refine VW.icmp_ne 473 ⟨by omega, by omega⟩ ⟨by omega, by omega⟩ dL_act_431 (by decide) (fun c431 => ?_) (fun c431 => ?_)
        · refine VW.iload dL_act_473 rfl ?_
          refine VW.bipush dL_act_475 rfl ?_
          refine VW.icmp_ge 686 ⟨by omega, by omega⟩ ⟨by omega, by omega⟩ dL_act_477 (by decide) (fun c477 => ?_) (fun c477 => ?_)
          · refine VW.iload dL_act_686 rfl ?_
            refine VW.bipush dL_act_688 rfl ?_
            refine VW.icmp_ne 785 ⟨by omega, by omega⟩ ⟨by omega, by omega⟩ dL_act_690 (by decide) (fun c690 => ?_) (fun c690 => ?_)
            · exact act_set (d := p) hst hg3 hl3 ht3 hI3 (by omega) (by omega) (by omega) e3
            · refine VW.aload_n dL_act_693 rfl ?_
              refine VW.iconst dL_act_694 ?_
              refine VW.iaload dL_act_695 (hl3.1 273 (by decide)) hl3.2.1 (by omega) (by omega) (by decide) ?_
              rw [show m3 273 (1 : Int).toNat = (C.length : Int) from L3.2.1]
              refine VW.if_le 785 ⟨by omega, by omega⟩ dL_act_696 (by decide) (fun c696 => ?_) (fun c696 => ?_)
              · exact act_set (d := p) hst hg3 hl3 ht3 hI3 (by omega) (by omega) (by omega) e3
              · exact act_forget (d := p) hst hg3 hl3 ht3 hI3 (by omega) (by omega) (by omega) e3 (by omega)
          · exact act_learn (d := p) hst hg3 hl3 ht3 hI3 (by omega) (by omega) (by omega) e3
        · exact act_begin (d := p) hst hg3 hl3 ht3 hI3 (by omega) (by omega) (by omega) e3
    · refine VW.aload_n dL_act_333 rfl ?_
      refine VW.iconst dL_act_334 ?_
      refine VW.iaload dL_act_335 (hl3.1 273 (by decide)) hl3.2.1 (by omega) (by omega) (by decide) ?_
      rw [show m3 273 (0 : Int).toNat = (xs.length : Int) from L3.1]
      refine VW.bipush dL_act_336 rfl ?_
      refine VW.icmp_ge 420 ⟨by omega, by omega⟩ ⟨by omega, by omega⟩ dL_act_338 (by decide) (fun c338 => ?_) (fun c338 => ?_)
      · refine VW.iload dL_act_420 rfl ?_
        refine VW.bipush dL_act_422 rfl ?_
        refine VW.icmp_eq 434 ⟨by omega, by omega⟩ ⟨by omega, by omega⟩ dL_act_424 (by decide) (fun c424 => ?_) (fun c424 => ?_)
        · exact act_begin (d := p) hst hg3 hl3 ht3 hI3 (by omega) (by omega) (by omega) e3
        · refine VW.iload dL_act_427 rfl ?_
          refine VW.bipush dL_act_429 rfl ?_
          refine VW.icmp_ne 473 ⟨by omega, by omega⟩ ⟨by omega, by omega⟩ dL_act_431 (by decide) (fun c431 => ?_) (fun c431 => ?_)
          · refine VW.iload dL_act_473 rfl ?_
            refine VW.bipush dL_act_475 rfl ?_
            refine VW.icmp_ge 686 ⟨by omega, by omega⟩ ⟨by omega, by omega⟩ dL_act_477 (by decide) (fun c477 => ?_) (fun c477 => ?_)
            · refine VW.iload dL_act_686 rfl ?_
              refine VW.bipush dL_act_688 rfl ?_
              refine VW.icmp_ne 785 ⟨by omega, by omega⟩ ⟨by omega, by omega⟩ dL_act_690 (by decide) (fun c690 => ?_) (fun c690 => ?_)
              · exact act_set (d := p) hst hg3 hl3 ht3 hI3 (by omega) (by omega) (by omega) e3
              · refine VW.aload_n dL_act_693 rfl ?_
                refine VW.iconst dL_act_694 ?_
                refine VW.iaload dL_act_695 (hl3.1 273 (by decide)) hl3.2.1 (by omega) (by omega) (by decide) ?_
                rw [show m3 273 (1 : Int).toNat = (C.length : Int) from L3.2.1]
                refine VW.if_le 785 ⟨by omega, by omega⟩ dL_act_696 (by decide) (fun c696 => ?_) (fun c696 => ?_)
                · exact act_set (d := p) hst hg3 hl3 ht3 hI3 (by omega) (by omega) (by omega) e3
                · exact act_forget (d := p) hst hg3 hl3 ht3 hI3 (by omega) (by omega) (by omega) e3 (by omega)
            · exact act_learn (d := p) hst hg3 hl3 ht3 hI3 (by omega) (by omega) (by omega) e3
          · exact act_begin (d := p) hst hg3 hl3 ht3 hI3 (by omega) (by omega) (by omega) e3
      · exact act_point (d := p) hst hg3 hl3 ht3 hI3 (by omega) (by omega) (by omega) e3 (by omega)
  · exact act_go (d := p) hst hg3 hl3 ht3 hI3 (by omega) (by omega) (by omega) e3
end PAC
