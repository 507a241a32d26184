/-! ===== the model: the calls that change, 3 ===== -/
section PS
variable {G : GT} {l : Launch} {N : Nat} {sh : Nat → ShT} {μ μ' : Mem} {xs ys S D Ln : List Int} {C : List (List Int)} {v lo hi : Int}
variable {Z : List St} {B : List Int} {q : QS}
theorem t_point (hst : l.stackTraces = false) (hm : isM N sh) (h : hasM μ xs ys C S Z B) (ok : okA (mk xs ys C S Z B)) {x y : Int} (hx : R32 x) (hy : R32 y) : Zi G l N sh M_X8_point [.ref (gB G + 273), vI x, vI y] μ (tP (opPoint xs ys C S Z B x y) μ) := by
  refine Fx.of hst rfl (by decide +kernel) (Nat.le_of_ble_eq_true rfl) rfl ?_
  obtain ⟨⟨⟨ok1, ok2, ok3, ok4⟩, ⟨ok5, ok6, ok7⟩, ok8⟩, ⟨ok9, ok10⟩, ok11, ok12⟩ := okA.un ok
  have okσ : okS ((xs, ys), C, S) := ok.1
  obtain ⟨hz, hn, hh, hb, hB⟩ := id h
  have z5 : μ 274 5 = (xs.length : Int) := hz.2.1
  have z6 : μ 274 6 = (C.length : Int) := hz.2.2.1
  refine VW.aload_n dX8_point_0 rfl ?_
  refine VW.iload_n dX8_point_1 rfl ?_
  refine VW.iload_n dX8_point_2 rfl ?_
  refine VW.pS2 cs_X8_point_X8_isOnLattice dX8_point_3 (Nat.le_of_ble_eq_true rfl) (t_isOnLattice hst hx hy) ?_
  refine VW.if_ne 13 (bR2 _) dX8_point_6 (by decide) (fun c6 => ?_) (fun c6 => ?_)
  · refine VW.aload_n dX8_point_13 rfl ?_
    refine VW.getR dX8_point_14 fa_X8_7 (by have := hm.1; omega) hm.2.1 rfl ?_
    refine VW.iconst dX8_point_17 ?_
    refine VW.iaload dX8_point_18 (by have := hm.1; omega) hm.2.2.1 (by omega) (by omega) (by decide) ?_
    rw [show (5 : Int).toNat = 5 from rfl, z5]
    refine VW.bipush dX8_point_19 rfl ?_
    refine VW.icmp_ne 28 ⟨by omega, by omega⟩ ⟨by omega, by omega⟩ dX8_point_21 (by decide) (fun c21 => ?_) (fun c21 => ?_)
    · refine VW.iconst dX8_point_28 ?_
      refine VW.putI dX8_point_29 fp_X8_43 (by have := hm.1; omega) hm.2.1 rfl ?_
      have gt : frK aM bM μ (mup μ 273 5 0) := frK_f.wid (by decide) (by decide)
      have ht : hasM (mup μ 273 5 0) xs ys C S Z B := h.keep (frK_f : frK [] [5] μ _) (by decide) (by decide) (by decide) (by decide) (by decide)
      refine VW.aload_n dX8_point_32 rfl ?_
      refine VW.getI dX8_point_33 fa_X8_43 (by have := hm.1; omega) hm.2.1 rfl ?_
      rw [mup_s]
      refine VW.if_le 41 (by decide) dX8_point_36 (by decide) (fun _ => ?_) (fun c36 => absurd c36 (by decide))
      refine VW.aload_n dX8_point_41 rfl ?_
      refine VW.fvV0 cv_X8_point_X8_save dX8_point_42 (Nat.le_of_ble_eq_true rfl) (by have := hm.1; omega) hm.2.1 (t_save hst hm ht okσ ok10 ok9) (fun μ2 h2 => ?_)
      refine VW.aload_n dX8_point_45 rfl ?_
      refine VW.iload_n dX8_point_46 rfl ?_
      refine VW.iload_n dX8_point_47 rfl ?_
      refine VW.fvV2 cv_X8_point_X8_addPoint dX8_point_48 (Nat.le_of_ble_eq_true rfl) (by have := hm.1; omega) hm.2.1 (t_addPoint hst hm h2.1.1 ⟨ok1, by omega⟩ (x := x) (y := y)) (fun μ3 h3 => ?_)
      refine VW.aload_n dX8_point_51 rfl ?_
      refine VW.getR dX8_point_52 fa_X8_7 (by have := hm.1; omega) hm.2.1 rfl ?_
      have e3 : μ3 274 5 = ((xs ++ [x]).length : Int) := h3.1.2.1
      refine VW.iconst dX8_point_55 ?_
      refine VW.iaload dX8_point_56 (by have := hm.1; omega) hm.2.2.1 (by omega) (by omega) (by decide) ?_
      rw [show (5 : Int).toNat = 5 from rfl, e3]
      refine VW.ireturn dX8_point_57 rfl rfl ?_
      refine fxP.ii (tP_r (r := ((xs ++ [x]).length : Int)) ?_ (h2.1.z h3.2 h3.1 (by decide) (by decide) (by decide) (by decide)) ((gt.tr (h2.2.wid (by decide) (by decide))).tr (h3.2.wid (by decide) (by decide))) (by rw [h3.2.2 5 (by decide), h2.2.2 5 (by decide), mup_s]))
      refine (if_neg (by rw [bI0] at c6; exact c6)).trans ((if_neg (by omega)).trans ?_)
      rw [List.length_append]
      rfl
    · refine VW.iconst dX8_point_24 ?_
      refine VW.goto 29 dX8_point_25 (by decide) ?_
      refine VW.putI dX8_point_29 fp_X8_43 (by have := hm.1; omega) hm.2.1 rfl ?_
      have gt : frK aM bM μ (mup μ 273 5 2) := frK_f.wid (by decide) (by decide)
      have ht : hasM (mup μ 273 5 2) xs ys C S Z B := h.keep (frK_f : frK [] [5] μ _) (by decide) (by decide) (by decide) (by decide) (by decide)
      refine VW.aload_n dX8_point_32 rfl ?_
      refine VW.getI dX8_point_33 fa_X8_43 (by have := hm.1; omega) hm.2.1 rfl ?_
      rw [mup_s]
      refine VW.if_le 41 (by decide) dX8_point_36 (by decide) (fun c36 => absurd c36 (by decide)) (fun _ => ?_)
      refine VW.iconst dX8_point_39 ?_
      refine VW.ireturn dX8_point_40 rfl rfl ?_
      exact fxP.ii (tP_x ((if_neg (by rw [bI0] at c6; exact c6)).trans (if_pos (by omega))) ht gt (by decide) (mup_s _ _ _ _))
  · refine VW.iconst dX8_point_9 ?_
    refine VW.goto 29 dX8_point_10 (by decide) ?_
    refine VW.putI dX8_point_29 fp_X8_43 (by have := hm.1; omega) hm.2.1 rfl ?_
    have gt : frK aM bM μ (mup μ 273 5 1) := frK_f.wid (by decide) (by decide)
    have ht : hasM (mup μ 273 5 1) xs ys C S Z B := h.keep (frK_f : frK [] [5] μ _) (by decide) (by decide) (by decide) (by decide) (by decide)
    refine VW.aload_n dX8_point_32 rfl ?_
    refine VW.getI dX8_point_33 fa_X8_43 (by have := hm.1; omega) hm.2.1 rfl ?_
    rw [mup_s]
    refine VW.if_le 41 (by decide) dX8_point_36 (by decide) (fun c36 => absurd c36 (by decide)) (fun _ => ?_)
    refine VW.iconst dX8_point_39 ?_
    refine VW.ireturn dX8_point_40 rfl rfl ?_
    exact fxP.ii (tP_x (if_pos (by rw [bI0] at c6; exact c6)) ht gt (by decide) (mup_s _ _ _ _))
theorem t_back (hst : l.stackTraces = false) (hm : isM N sh) (h : hasM μ xs ys C S Z B) (ok : okA (mk xs ys C S Z B)) {m : Int} (hmm : R32 m) : Zi G l N sh M_X8_back [.ref (gB G + 273), vI m] μ (tP (opBack xs ys C S Z B m) μ) := by
  refine Fx.of hst rfl (by decide +kernel) (Nat.le_of_ble_eq_true rfl) rfl ?_
  obtain ⟨⟨⟨ok1, ok2, ok3, ok4⟩, ⟨ok5, ok6, ok7⟩, ok8⟩, ⟨ok9, ok10⟩, ok11, ok12⟩ := okA.un ok
  have okσ : okS ((xs, ys), C, S) := ok.1
  obtain ⟨hz, hn, hh, hb, hB⟩ := id h
  have z5 : μ 274 5 = (xs.length : Int) := hz.2.1
  have z6 : μ 274 6 = (C.length : Int) := hz.2.2.1
  refine VW.aload_n dX8_back_0 rfl ?_
  refine VW.iload_n dX8_back_1 rfl ?_
  refine VW.iconst dX8_back_2 ?_
  refine VW.aload_n dX8_back_3 rfl ?_
  refine VW.getR dX8_back_4 fa_X8_7 (by have := hm.1; omega) hm.2.1 rfl ?_
  refine VW.iconst dX8_back_7 ?_
  refine VW.iaload dX8_back_8 (by have := hm.1; omega) hm.2.2.1 (by omega) (by omega) (by decide) ?_
  rw [show (5 : Int).toNat = 5 from rfl, z5]
  refine VW.pS3 cs_X8_back_X8_within dX8_back_9 (Nat.le_of_ble_eq_true rfl) (t_within hst hmm ⟨by omega, by omega⟩ ⟨by omega, by omega⟩) ?_
  refine VW.if_eq 19 (bR2 _) dX8_back_12 (by decide) (fun c12 => ?_) (fun c12 => ?_)
  · rw [bI0d] at c12
    refine VW.iconst dX8_back_19 ?_
    refine VW.putI dX8_back_20 fp_X8_43 (by have := hm.1; omega) hm.2.1 rfl ?_
    have gt : frK aM bM μ (mup μ 273 5 1) := frK_f.wid (by decide) (by decide)
    have ht : hasM (mup μ 273 5 1) xs ys C S Z B := h.keep (frK_f : frK [] [5] μ _) (by decide) (by decide) (by decide) (by decide) (by decide)
    refine VW.aload_n dX8_back_23 rfl ?_
    refine VW.getI dX8_back_24 fa_X8_43 (by have := hm.1; omega) hm.2.1 rfl ?_
    rw [mup_s]
    refine VW.if_le 32 (by decide) dX8_back_27 (by decide) (fun c27 => absurd c27 (by decide)) (fun _ => ?_)
    refine VW.iconst dX8_back_30 ?_
    refine VW.ireturn dX8_back_31 rfl rfl ?_
    exact fxP.ii (tP_x (if_pos c12) ht gt (by decide) (mup_s _ _ _ _))
  · rw [bI0d] at c12
    refine VW.iconst dX8_back_15 ?_
    refine VW.goto 20 dX8_back_16 (by decide) ?_
    refine VW.putI dX8_back_20 fp_X8_43 (by have := hm.1; omega) hm.2.1 rfl ?_
    have gt : frK aM bM μ (mup μ 273 5 0) := frK_f.wid (by decide) (by decide)
    have ht : hasM (mup μ 273 5 0) xs ys C S Z B := h.keep (frK_f : frK [] [5] μ _) (by decide) (by decide) (by decide) (by decide) (by decide)
    refine VW.aload_n dX8_back_23 rfl ?_
    refine VW.getI dX8_back_24 fa_X8_43 (by have := hm.1; omega) hm.2.1 rfl ?_
    rw [mup_s]
    refine VW.if_le 32 (by decide) dX8_back_27 (by decide) (fun _ => ?_) (fun c27 => absurd c27 (by decide))
    refine VW.aload_n dX8_back_32 rfl ?_
    refine VW.fvV0 cv_X8_back_X8_save dX8_back_33 (Nat.le_of_ble_eq_true rfl) (by have := hm.1; omega) hm.2.1 (t_save hst hm ht okσ ok10 ok9) (fun μ2 h2 => ?_)
    refine VW.aload_n dX8_back_36 rfl ?_
    refine VW.aload_n dX8_back_37 rfl ?_
    refine VW.getR dX8_back_38 fa_X8_7 (by have := hm.1; omega) hm.2.1 rfl ?_
    refine VW.iconst dX8_back_41 ?_
    refine VW.iaload dX8_back_42 (by have := hm.1; omega) hm.2.2.1 (by omega) (by omega) (by decide) ?_
    have e2 : μ2 274 5 = (xs.length : Int) := h2.1.1.2.1
    rw [show (5 : Int).toNat = 5 from rfl, e2]
    refine VW.iload_n dX8_back_43 rfl ?_
    refine VW.isub dX8_back_44 ?_
    refine VW.fvV1 cv_X8_back_X8_clearFrom dX8_back_45 (Nat.le_of_ble_eq_true rfl) (by have := hm.1; omega) hm.2.1 (t_clearFrom hst hm h2.1.1 (p := (xs.length : Int) - m) ⟨by omega, by omega⟩ ⟨ok1, ok2⟩) (fun μ3 h3 => ?_)
    refine VW.aload_n dX8_back_48 rfl ?_
    refine VW.getR dX8_back_49 fa_X8_7 (by have := hm.1; omega) hm.2.1 rfl ?_
    have e3 : μ3 274 5 = ((xs.take ((xs.length : Int) - m).toNat).length : Int) := h3.1.2.1
    refine VW.iconst dX8_back_52 ?_
    refine VW.iaload dX8_back_53 (by have := hm.1; omega) hm.2.2.1 (by omega) (by omega) (by decide) ?_
    rw [show (5 : Int).toNat = 5 from rfl, e3]
    refine VW.ireturn dX8_back_54 rfl rfl ?_
    refine fxP.ii (tP_r ?_ (h2.1.z h3.2 h3.1 (by decide) (by decide) (by decide) (by decide)) ((gt.tr (h2.2.wid (by decide) (by decide))).tr (h3.2.wid (by decide) (by decide))) (by rw [h3.2.2 5 (by decide), h2.2.2 5 (by decide), mup_s]))
    refine (if_neg c12).trans ?_
    rw [show ((xs.take ((xs.length : Int) - m).toNat).length : Int) = xs.length - m by rw [List.length_take]; omega]
theorem t_begin (hst : l.stackTraces = false) (hm : isM N sh) (h : hasM μ xs ys C S Z B) (ok : okA (mk xs ys C S Z B)) : Zi G l N sh M_X8_begin [.ref (gB G + 273)] μ (tP (opBegin xs ys C S Z B) μ) := by
  refine Fx.of hst rfl (by decide +kernel) (Nat.le_of_ble_eq_true rfl) rfl ?_
  obtain ⟨⟨⟨ok1, ok2, ok3, ok4⟩, ⟨ok5, ok6, ok7⟩, ok8⟩, ⟨ok9, ok10⟩, ok11, ok12⟩ := okA.un ok
  have okσ : okS ((xs, ys), C, S) := ok.1
  obtain ⟨hz, hn, hh, hb, hB⟩ := id h
  have z5 : μ 274 5 = (xs.length : Int) := hz.2.1
  have z6 : μ 274 6 = (C.length : Int) := hz.2.2.1
  refine VW.aload_n dX8_begin_0 rfl ?_
  refine VW.iconst dX8_begin_1 ?_
  refine VW.putI dX8_begin_2 fp_X8_43 (by have := hm.1; omega) hm.2.1 rfl ?_
  have gt : frK aM bM μ (mup μ 273 5 0) := frK_f.wid (by decide) (by decide)
  have ht : hasM (mup μ 273 5 0) xs ys C S Z B := h.keep (frK_f : frK [] [5] μ _) (by decide) (by decide) (by decide) (by decide) (by decide)
  refine VW.aload_n dX8_begin_5 rfl ?_
  refine VW.fvV0 cv_X8_begin_X8_save dX8_begin_6 (Nat.le_of_ble_eq_true rfl) (by have := hm.1; omega) hm.2.1 (t_save hst hm ht okσ ok10 ok9) (fun μ2 h2 => ?_)
  refine VW.aload_n dX8_begin_9 rfl ?_
  refine VW.getR dX8_begin_10 fa_X8_7 (by have := hm.1; omega) hm.2.1 rfl ?_
  refine VW.iconst dX8_begin_13 ?_
  have e2 : μ2 274 5 = (xs.length : Int) := h2.1.1.2.1
  refine VW.iaload dX8_begin_14 (by have := hm.1; omega) hm.2.2.1 (by omega) (by omega) (by decide) ?_
  rw [show (5 : Int).toNat = 5 from rfl, e2]
  refine VW.istore_n (lv' := [(0, _), (1, _)]) dX8_begin_15 (by decide) rfl ?_
  refine VW.aload_n dX8_begin_16 rfl ?_
  refine VW.iconst dX8_begin_17 ?_
  refine VW.fvV1 cv_X8_begin_X8_clearFrom dX8_begin_18 (Nat.le_of_ble_eq_true rfl) (by have := hm.1; omega) hm.2.1 (t_clearFrom hst hm h2.1.1 (p := 0) ⟨by omega, by omega⟩ ⟨ok1, ok2⟩) (fun μ3 h3 => ?_)
  refine VW.iload_n dX8_begin_21 rfl ?_
  refine VW.ireturn dX8_begin_22 rfl rfl ?_
  have h31 : zR (μ3 274) [] [] C S := h3.1
  have h9 : hasM μ3 [] [] C S (kp Z ((xs, ys), C, S)) B := h2.1.z h3.2 h31 (by decide) (by decide) (by decide) (by decide)
  have hq : opBegin xs ys C S Z B = ((0, (xs.length : Int)), mk [] [] C S (kp Z ((xs, ys), C, S)) B) := rfl
  exact fxP.ii (tP_r hq h9 ((gt.tr (h2.2.wid (by decide) (by decide))).tr (h3.2.wid (by decide) (by decide))) (by rw [h3.2.2 5 (by decide), h2.2.2 5 (by decide), mup_s]))
theorem t_learn (hst : l.stackTraces = false) (hm : isM N sh) (h : hasM μ xs ys C S Z B) (ok : okA (mk xs ys C S Z B)) : Zi G l N sh M_X8_learn [.ref (gB G + 273)] μ (tP (opLearn xs ys C S Z B) μ) := by
  refine Fx.of hst rfl (by decide +kernel) (Nat.le_of_ble_eq_true rfl) rfl ?_
  obtain ⟨⟨⟨ok1, ok2, ok3, ok4⟩, ⟨ok5, ok6, ok7⟩, ok8⟩, ⟨ok9, ok10⟩, ok11, ok12⟩ := okA.un ok
  have okσ : okS ((xs, ys), C, S) := ok.1
  obtain ⟨hz, hn, hh, hb, hB⟩ := id h
  have z5 : μ 274 5 = (xs.length : Int) := hz.2.1
  have z6 : μ 274 6 = (C.length : Int) := hz.2.2.1
  have sok := stk_ok (S := S) ok3 ok4 (by omega : xs.length ≤ 41)
  refine VW.aload_n dX8_learn_0 rfl ?_
  refine VW.fvV0 cv_X8_learn_X8_pathStroke dX8_learn_1 (Nat.le_of_ble_eq_true rfl) (by have := hm.1; omega) hm.2.1 (t_pathStroke hst hm hz okσ) (fun μ1 h1 => ?_)
  obtain ⟨h1q, h1k, h1f⟩ := h1
  have hm1 := h.keep h1f (by decide) (by decide) (by decide) (by decide) (by decide)
  refine VW.aload_n dX8_learn_4 rfl ?_
  refine VW.aload_n dX8_learn_5 rfl ?_
  refine VW.fiV0 cv_X8_learn_X8_canLearn dX8_learn_6 (Nat.le_of_ble_eq_true rfl) (by have := hm.1; omega) hm.2.1 (t_canLearn hst hm hm1.1 okσ h1k sok.1 sok.2) (fun r4 μ4 h4 => ?_)
  obtain ⟨rfl, h4f⟩ := h4
  have hm4 := hm1.keep h4f (by decide) (by decide) (by decide) (by decide) (by decide)
  have k4 := h1k.keep h4f (by decide) (by decide)
  refine VW.if_eq 16 (bR2 _) dX8_learn_9 (by decide) (fun c9 => ?_) (fun c9 => ?_)
  · rw [bI0d] at c9
    refine VW.iconst dX8_learn_16 ?_
    refine VW.putI dX8_learn_17 fp_X8_43 (by have := hm.1; omega) hm.2.1 rfl ?_
    have gt : frK aM bM μ (mup μ4 273 5 1) := ((h1f.wid (by decide) (by decide)).tr (h4f.wid (by decide) (by decide))).tr (frK_f.wid (by decide) (by decide))
    have ht : hasM (mup μ4 273 5 1) xs ys C S Z B := hm4.keep (frK_f : frK [] [5] μ4 _) (by decide) (by decide) (by decide) (by decide) (by decide)
    refine VW.aload_n dX8_learn_20 rfl ?_
    refine VW.getI dX8_learn_21 fa_X8_43 (by have := hm.1; omega) hm.2.1 rfl ?_
    rw [mup_s]
    refine VW.if_le 29 (by decide) dX8_learn_24 (by decide) (fun c24 => absurd c24 (by decide)) (fun _ => ?_)
    refine VW.iconst dX8_learn_27 ?_
    refine VW.ireturn dX8_learn_28 rfl rfl ?_
    exact fxP.ii (tP_x (if_pos c9) ht gt (by decide) (mup_s _ _ _ _))
  · rw [bI0d] at c9
    refine VW.iconst dX8_learn_12 ?_
    refine VW.goto 17 dX8_learn_13 (by decide) ?_
    refine VW.putI dX8_learn_17 fp_X8_43 (by have := hm.1; omega) hm.2.1 rfl ?_
    have gt : frK aM bM μ (mup μ4 273 5 0) := ((h1f.wid (by decide) (by decide)).tr (h4f.wid (by decide) (by decide))).tr (frK_f.wid (by decide) (by decide))
    have ht : hasM (mup μ4 273 5 0) xs ys C S Z B := hm4.keep (frK_f : frK [] [5] μ4 _) (by decide) (by decide) (by decide) (by decide) (by decide)
    refine VW.aload_n dX8_learn_20 rfl ?_
    refine VW.getI dX8_learn_21 fa_X8_43 (by have := hm.1; omega) hm.2.1 rfl ?_
    rw [mup_s]
    refine VW.if_le 29 (by decide) dX8_learn_24 (by decide) (fun _ => ?_) (fun c24 => absurd c24 (by decide))
    refine VW.aload_n dX8_learn_29 rfl ?_
    refine VW.fvV0 cv_X8_learn_X8_save dX8_learn_30 (Nat.le_of_ble_eq_true rfl) (by have := hm.1; omega) hm.2.1 (t_save hst hm ht okσ ok10 ok9) (fun μ2 h2 => ?_)
    refine VW.aload_n dX8_learn_33 rfl ?_
    refine VW.fiV0 cv_X8_learn_X8_learns dX8_learn_34 (Nat.le_of_ble_eq_true rfl) (by have := hm.1; omega) hm.2.1 (t_learns hst hm h2.1.1 okσ ((k4.keep (frK_f : frK [] [5] μ4 (mup μ4 273 5 0)) (by decide) (by decide)).keep h2.2 (by decide) (by decide)) ⟨by omega, by omega⟩) (fun r3 μ3 h3 => ?_)
    obtain ⟨rfl, h3z, h3f⟩ := h3
    refine VW.ireturn dX8_learn_37 rfl rfl ?_
    have h9 : hasM μ3 xs ys (C ++ [stk xs ys S]) S (kp Z ((xs, ys), C, S)) B := h2.1.z h3f h3z (by decide) (by decide) (by decide) (by decide)
    have hq : opLearn xs ys C S Z B = ((0, (C.length : Int)), mk xs ys (C ++ [stk xs ys S]) S (kp Z ((xs, ys), C, S)) B) := if_neg c9
    exact fxP.ii (tP_r hq h9 ((gt.tr (h2.2.wid (by decide) (by decide))).tr (h3f.wid (by decide) (by decide))) (by rw [h3f.2 5 (by decide), h2.2.2 5 (by decide), mup_s]))
theorem t_append (hst : l.stackTraces = false) (hm : isM N sh) (h : hasM μ xs ys C S Z B) (ok : okA (mk xs ys C S Z B)) {c : Int} (hc : R32 c) : Zi G l N sh M_X8_append [.ref (gB G + 273), vI c] μ (tP (opAppend xs ys C S Z B c) μ) := by
  refine Fx.of hst rfl (by decide +kernel) (Nat.le_of_ble_eq_true rfl) rfl ?_
  obtain ⟨⟨⟨ok1, ok2, ok3, ok4⟩, ⟨ok5, ok6, ok7⟩, ok8⟩, ⟨ok9, ok10⟩, ok11, ok12⟩ := okA.un ok
  have okσ : okS ((xs, ys), C, S) := ok.1
  obtain ⟨hz, hn, hh, hb, hB⟩ := id h
  have z5 : μ 274 5 = (xs.length : Int) := hz.2.1
  have z6 : μ 274 6 = (C.length : Int) := hz.2.2.1
  refine VW.aload_n dX8_append_0 rfl ?_
  refine VW.iload_n dX8_append_1 rfl ?_
  refine VW.bipush dX8_append_2 rfl ?_
  refine VW.bipush dX8_append_4 rfl ?_
  refine VW.pS3 cs_X8_append_X8_within dX8_append_6 (Nat.le_of_ble_eq_true rfl) (t_within hst hc ⟨by omega, by omega⟩ ⟨by omega, by omega⟩) ?_
  refine VW.if_ne 16 (bR2 _) dX8_append_9 (by decide) (fun c9 => ?_) (fun c9 => ?_)
  · rw [bI0d] at c9
    refine VW.aload_n dX8_append_16 rfl ?_
    refine VW.getI dX8_append_17 fa_X8_197 (by have := hm.1; omega) hm.2.1 rfl ?_
    refine VW.bipush dX8_append_20 rfl ?_
    refine VW.icmp_ne 29 ⟨by omega, by omega⟩ ⟨by omega, by omega⟩ dX8_append_22 (by decide) (fun c22 => ?_) (fun c22 => ?_)
    · refine VW.iconst dX8_append_29 ?_
      refine VW.putI dX8_append_30 fp_X8_43 (by have := hm.1; omega) hm.2.1 rfl ?_
      have gt : frK aM bM μ (mup μ 273 5 0) := frK_f.wid (by decide) (by decide)
      have ht : hasM (mup μ 273 5 0) xs ys C S Z B := h.keep (frK_f : frK [] [5] μ _) (by decide) (by decide) (by decide) (by decide) (by decide)
      refine VW.aload_n dX8_append_33 rfl ?_
      refine VW.getI dX8_append_34 fa_X8_43 (by have := hm.1; omega) hm.2.1 rfl ?_
      rw [mup_s]
      refine VW.if_le 42 (by decide) dX8_append_37 (by decide) (fun _ => ?_) (fun c37 => absurd c37 (by decide))
      refine VW.aload_n dX8_append_42 rfl ?_
      refine VW.getR dX8_append_43 fa_X8_16 (by have := hm.1; omega) hm.2.1 rfl ?_
      refine VW.aload_n dX8_append_46 rfl ?_
      refine VW.getI dX8_append_47 fa_X8_197 (by have := hm.1; omega) hm.2.1 rfl ?_
      rw [show (mup μ 273 5 0) 273 3 = (B.length : Int) from (mup_k (by decide)).trans hb]
      refine VW.iload_n dX8_append_50 rfl ?_
      refine VW.iastore dX8_append_51 (by have := hm.1; omega) hm.2.2.2.2.1 (by omega) (by omega) (by decide) ?_
      have g6 : frK [276] [] (mup μ 273 5 0) (mup (mup μ 273 5 0) 276 ((B.length : Int)).toNat c) := frK_a (by decide)
      have hB6 := (ht.2.2.2.2).push (v := c)
      rw [Int.toNat_natCast] at g6 ⊢
      obtain ⟨μ3, hμ3⟩ : ∃ m, m = mup (mup μ 273 5 0) 276 B.length c := ⟨_, rfl⟩
      rw [← hμ3] at g6 hB6 ⊢
      have e3 : μ3 273 3 = (B.length : Int) := (g6.2 3 (by decide)).trans ht.2.2.2.1
      refine VW.aload_n dX8_append_52 rfl ?_
      refine VW.dup dX8_append_53 rfl ?_
      refine VW.getI dX8_append_54 fa_X8_197 (by have := hm.1; omega) hm.2.1 rfl ?_
      rw [e3]
      refine VW.iconst dX8_append_57 ?_
      refine VW.iadd dX8_append_58 ?_
      refine VW.putI dX8_append_59 fp_X8_197 (by have := hm.1; omega) hm.2.1 rfl ?_
      refine VW.aload_n dX8_append_62 rfl ?_
      refine VW.getI dX8_append_63 fa_X8_197 (by have := hm.1; omega) hm.2.1 rfl ?_
      refine VW.ireturn dX8_append_66 rfl rfl ?_
      have g7 : frK [] [3] μ3 (mup μ3 273 3 ((B.length : Int) + 1)) := frK_f
      have h9 : hasM (mup μ3 273 3 ((B.length : Int) + 1)) xs ys C S Z (B ++ [c]) :=
        ⟨(ht.1.keep g6 (by decide)).keep g7 (by decide), by rw [g7.2 1 (by decide), g6.2 1 (by decide)]; exact ht.2.1, by rw [g7.1 275 (by decide) (by decide), g6.1 275 (by decide) (by decide)]; exact ht.2.2.1, by rw [mup_s]; simp, hB6.keep g7 (by decide) (by decide)⟩
      rw [mup_s]
      have hq : opAppend xs ys C S Z B c = ((0, (B.length : Int) + 1), mk xs ys C S Z (B ++ [c])) := (if_neg c9).trans (if_neg (by omega))
      exact fxP.ii (tP_r hq h9 ((gt.tr (g6.wid (by decide) (by decide))).tr (g7.wid (by decide) (by decide))) (by rw [g7.2 5 (by decide), g6.2 5 (by decide), mup_s]))
    · refine VW.iconst dX8_append_25 ?_
      refine VW.goto 30 dX8_append_26 (by decide) ?_
      refine VW.putI dX8_append_30 fp_X8_43 (by have := hm.1; omega) hm.2.1 rfl ?_
      have gt : frK aM bM μ (mup μ 273 5 2) := frK_f.wid (by decide) (by decide)
      have ht : hasM (mup μ 273 5 2) xs ys C S Z B := h.keep (frK_f : frK [] [5] μ _) (by decide) (by decide) (by decide) (by decide) (by decide)
      refine VW.aload_n dX8_append_33 rfl ?_
      refine VW.getI dX8_append_34 fa_X8_43 (by have := hm.1; omega) hm.2.1 rfl ?_
      rw [mup_s]
      refine VW.if_le 42 (by decide) dX8_append_37 (by decide) (fun c37 => absurd c37 (by decide)) (fun _ => ?_)
      refine VW.iconst dX8_append_40 ?_
      refine VW.ireturn dX8_append_41 rfl rfl ?_
      exact fxP.ii (tP_x ((if_neg c9).trans (if_pos (by omega))) ht gt (by decide) (mup_s _ _ _ _))
  · rw [bI0d] at c9
    refine VW.iconst dX8_append_12 ?_
    refine VW.goto 30 dX8_append_13 (by decide) ?_
    refine VW.putI dX8_append_30 fp_X8_43 (by have := hm.1; omega) hm.2.1 rfl ?_
    have gt : frK aM bM μ (mup μ 273 5 1) := frK_f.wid (by decide) (by decide)
    have ht : hasM (mup μ 273 5 1) xs ys C S Z B := h.keep (frK_f : frK [] [5] μ _) (by decide) (by decide) (by decide) (by decide) (by decide)
    refine VW.aload_n dX8_append_33 rfl ?_
    refine VW.getI dX8_append_34 fa_X8_43 (by have := hm.1; omega) hm.2.1 rfl ?_
    rw [mup_s]
    refine VW.if_le 42 (by decide) dX8_append_37 (by decide) (fun c37 => absurd c37 (by decide)) (fun _ => ?_)
    refine VW.iconst dX8_append_40 ?_
    refine VW.ireturn dX8_append_41 rfl rfl ?_
    exact fxP.ii (tP_x (if_pos c9) ht gt (by decide) (mup_s _ _ _ _))
theorem t_clearBuffer (hst : l.stackTraces = false) (hm : isM N sh) (h : hasM μ xs ys C S Z B) (ok : okA (mk xs ys C S Z B)) : Zi G l N sh M_X8_clearBuffer [.ref (gB G + 273)] μ (tP (opClear xs ys C S Z B) μ) := by
  refine Fx.of hst rfl (by decide +kernel) (Nat.le_of_ble_eq_true rfl) rfl ?_
  obtain ⟨⟨⟨ok1, ok2, ok3, ok4⟩, ⟨ok5, ok6, ok7⟩, ok8⟩, ⟨ok9, ok10⟩, ok11, ok12⟩ := okA.un ok
  have okσ : okS ((xs, ys), C, S) := ok.1
  obtain ⟨hz, hn, hh, hb, hB⟩ := id h
  have z5 : μ 274 5 = (xs.length : Int) := hz.2.1
  have z6 : μ 274 6 = (C.length : Int) := hz.2.2.1
  refine VW.aload_n dX8_clearBuffer_0 rfl ?_
  refine VW.iconst dX8_clearBuffer_1 ?_
  refine VW.putI dX8_clearBuffer_2 fp_X8_43 (by have := hm.1; omega) hm.2.1 rfl ?_
  have gt : frK aM bM μ (mup μ 273 5 0) := frK_f.wid (by decide) (by decide)
  have ht : hasM (mup μ 273 5 0) xs ys C S Z B := h.keep (frK_f : frK [] [5] μ _) (by decide) (by decide) (by decide) (by decide) (by decide)
  refine VW.aload_n dX8_clearBuffer_5 rfl ?_
  refine VW.getI dX8_clearBuffer_6 fa_X8_197 (by have := hm.1; omega) hm.2.1 rfl ?_
  rw [show (mup μ 273 5 0) 273 3 = (B.length : Int) from (mup_k (by decide)).trans hb]
  refine VW.istore_n (lv' := [(0, _), (1, _)]) dX8_clearBuffer_9 (by decide) rfl ?_
  refine VW.aload_n dX8_clearBuffer_10 rfl ?_
  refine VW.iconst dX8_clearBuffer_11 ?_
  refine VW.putI dX8_clearBuffer_12 fp_X8_197 (by have := hm.1; omega) hm.2.1 rfl ?_
  refine VW.iload_n dX8_clearBuffer_15 rfl ?_
  refine VW.ireturn dX8_clearBuffer_16 rfl rfl ?_
  have g7 : frK [] [3] (mup μ 273 5 0) (mup (mup μ 273 5 0) 273 3 0) := frK_f
  have h9 : hasM (mup (mup μ 273 5 0) 273 3 0) xs ys C S Z [] :=
    ⟨ht.1.keep g7 (by decide), by rw [g7.2 1 (by decide)]; exact ht.2.1, by rw [g7.1 275 (by decide) (by decide)]; exact ht.2.2.1, by rw [mup_s]; rfl, fun k hk => by simp at hk; omega⟩
  have hq : opClear xs ys C S Z B = ((0, (B.length : Int)), mk xs ys C S Z []) := rfl
  exact fxP.ii (tP_r hq h9 (gt.tr (g7.wid (by decide) (by decide))) (by rw [g7.2 5 (by decide), mup_s]))
theorem lp_X8_ru (hst : l.stackTraces = false) (hm : isM N sh) (hb : μ 273 3 = (B.length : Int)) (hB : arr μ 276 B) (hB6 : B.length ≤ 60) (hBb : bnd B 33 126) : ∀ (n : Nat) (i : Int), 0 ≤ i → i + n = B.length → VW G l none M_X8_rightUpTo 2 [(0, .ref (gB G + 273)), (1, vI i)] [] (N, sh, μ) 0 0 (fxP N sh (oN (vN_i (fun r μ' => r = feF B n i ∧ μ' = μ)))) := by
  intro n
  induction n with
  | zero =>
    intro i h1 h2
    refine VW.iload_n dX8_rightUpTo_2 rfl ?_
    refine VW.aload_n dX8_rightUpTo_3 rfl ?_
    refine VW.getI dX8_rightUpTo_4 fa_X8_197 (by have := hm.1; omega) hm.2.1 rfl ?_
    refine VW.icmp_ge 58 ⟨by omega, by omega⟩ ⟨by omega, by omega⟩ dX8_rightUpTo_7 (by decide) (fun c7 => ?_) (fun c7 => by omega)
    refine VW.iload_n dX8_rightUpTo_58 rfl ?_
    refine VW.ireturn dX8_rightUpTo_59 rfl rfl ?_
    exact fxP.ii ⟨rfl, rfl⟩
  | succ n ih =>
    intro i h1 h2
    refine VW.iload_n dX8_rightUpTo_2 rfl ?_
    refine VW.aload_n dX8_rightUpTo_3 rfl ?_
    refine VW.getI dX8_rightUpTo_4 fa_X8_197 (by have := hm.1; omega) hm.2.1 rfl ?_
    refine VW.icmp_ge 58 ⟨by omega, by omega⟩ ⟨by omega, by omega⟩ dX8_rightUpTo_7 (by decide) (fun c7 => by omega) (fun c7 => ?_)
    have b1 := rat_b hBb (i := i) (by omega) (by omega)
    have b2 := bB_r hBb (i - 1)
    have a1 := hB i (by omega)
    refine VW.iload_n dX8_rightUpTo_10 rfl ?_
    refine VW.bipush dX8_rightUpTo_11 rfl ?_
    refine VW.icmp_ge 58 ⟨by omega, by omega⟩ ⟨by omega, by omega⟩ dX8_rightUpTo_13 (by decide) (fun c13 => ?_) (fun c13 => ?_)
    · refine VW.iload_n dX8_rightUpTo_58 rfl ?_
      refine VW.ireturn dX8_rightUpTo_59 rfl rfl ?_
      refine fxP.ii ⟨?_, rfl⟩
      first
      | exact (if_pos (by omega)).symm
      | (rw [bI0d] at c28; exact (if_pos (by omega)).symm)
    · refine VW.aload_n dX8_rightUpTo_16 rfl ?_
      refine VW.getR dX8_rightUpTo_17 fa_X8_16 (by have := hm.1; omega) hm.2.1 rfl ?_
      refine VW.iload_n dX8_rightUpTo_20 rfl ?_
      refine VW.iaload dX8_rightUpTo_21 (by have := hm.1; omega) hm.2.2.2.2.1 (by omega) (by omega) (by decide) ?_
      rw [a1]
      refine VW.bipush dX8_rightUpTo_22 rfl ?_
      refine VW.isub dX8_rightUpTo_24 ?_
      refine VW.pS1 cs_X8_rightUpTo_X8_isDirection dX8_rightUpTo_25 (Nat.le_of_ble_eq_true rfl) (t_isDirection hst ⟨by omega, by omega⟩) ?_
      refine VW.if_eq 58 (bR2 _) dX8_rightUpTo_28 (by decide) (fun c28 => ?_) (fun c28 => ?_)
      · refine VW.iload_n dX8_rightUpTo_58 rfl ?_
        refine VW.ireturn dX8_rightUpTo_59 rfl rfl ?_
        refine fxP.ii ⟨?_, rfl⟩
        first
        | exact (if_pos (by omega)).symm
        | (rw [bI0d] at c28; exact (if_pos (by omega)).symm)
      · rw [bI0d] at c28
        refine VW.iload_n dX8_rightUpTo_31 rfl ?_
        refine VW.if_eq 52 ⟨by omega, by omega⟩ dX8_rightUpTo_32 (by decide) (fun c32 => ?_) (fun c32 => ?_)
        · refine VW.iinc (lv' := [(0, _), (1, _)]) dX8_rightUpTo_52 rfl (by decide) rfl ?_
          refine VW.goto 2 dX8_rightUpTo_55 (by decide) ?_
          rw [show feF B (n + 1) i = feF B n (i + 1) from if_neg (by omega)]
          exact ih (i + 1) (by omega) (by omega)
        · refine VW.aload_n dX8_rightUpTo_35 rfl ?_
          refine VW.getR dX8_rightUpTo_36 fa_X8_16 (by have := hm.1; omega) hm.2.1 rfl ?_
          refine VW.iload_n dX8_rightUpTo_39 rfl ?_
          refine VW.iaload dX8_rightUpTo_40 (by have := hm.1; omega) hm.2.2.2.2.1 (by omega) (by omega) (by decide) ?_
          rw [a1]
          refine VW.aload_n dX8_rightUpTo_41 rfl ?_
          refine VW.getR dX8_rightUpTo_42 fa_X8_16 (by have := hm.1; omega) hm.2.1 rfl ?_
          refine VW.iload_n dX8_rightUpTo_45 rfl ?_
          refine VW.iconst dX8_rightUpTo_46 ?_
          refine VW.isub dX8_rightUpTo_47 ?_
          refine VW.iaload dX8_rightUpTo_48 (by have := hm.1; omega) hm.2.2.2.2.1 (by omega) (by omega) (by decide) ?_
          rw [hB (i - 1) (by omega)]
          refine VW.icmp_eq 58 ⟨by omega, by omega⟩ ⟨by omega, by omega⟩ dX8_rightUpTo_49 (by decide) (fun c49 => ?_) (fun c49 => ?_)
          · refine VW.iload_n dX8_rightUpTo_58 rfl ?_
            refine VW.ireturn dX8_rightUpTo_59 rfl rfl ?_
            refine fxP.ii ⟨?_, rfl⟩
            first
            | exact (if_pos (by omega)).symm
            | (rw [bI0d] at c28; exact (if_pos (by omega)).symm)
          · refine VW.iinc (lv' := [(0, _), (1, _)]) dX8_rightUpTo_52 rfl (by decide) rfl ?_
            refine VW.goto 2 dX8_rightUpTo_55 (by decide) ?_
            rw [show feF B (n + 1) i = feF B n (i + 1) from if_neg (by omega)]
            exact ih (i + 1) (by omega) (by omega)
theorem t_rightUpTo (hst : l.stackTraces = false) (hm : isM N sh) (hb : μ 273 3 = (B.length : Int)) (hB : arr μ 276 B) (hB6 : B.length ≤ 60) (hBb : bnd B 33 126) : Zi G l N sh M_X8_rightUpTo [.ref (gB G + 273)] μ (fun r μ' => r = fErr B ∧ μ' = μ) := by
  refine Fx.of hst rfl (by decide +kernel) (Nat.le_of_ble_eq_true rfl) rfl ?_
  refine VW.iconst dX8_rightUpTo_0 ?_
  refine VW.istore_n (lv' := [(0, _), (1, _)]) dX8_rightUpTo_1 (by decide) rfl ?_
  exact lp_X8_ru hst hm hb hB hB6 hBb B.length 0 (by omega) (by omega)
theorem t_firstError (hst : l.stackTraces = false) (hm : isM N sh) (h : hasM μ xs ys C S Z B) (ok : okA (mk xs ys C S Z B)) : Zi G l N sh M_X8_firstError [.ref (gB G + 273)] μ (fun r μ' => r = fErr B ∧ hasM μ' xs ys C S Z B ∧ frK aM bM μ μ') := by
  refine Fx.of hst rfl (by decide +kernel) (Nat.le_of_ble_eq_true rfl) rfl ?_
  obtain ⟨⟨⟨ok1, ok2, ok3, ok4⟩, ⟨ok5, ok6, ok7⟩, ok8⟩, ⟨ok9, ok10⟩, ok11, ok12⟩ := okA.un ok
  have okσ : okS ((xs, ys), C, S) := ok.1
  obtain ⟨hz, hn, hh, hb, hB⟩ := id h
  have z5 : μ 274 5 = (xs.length : Int) := hz.2.1
  have z6 : μ 274 6 = (C.length : Int) := hz.2.2.1
  refine VW.aload_n dX8_firstError_0 rfl ?_
  refine VW.iconst dX8_firstError_1 ?_
  refine VW.putI dX8_firstError_2 fp_X8_43 (by have := hm.1; omega) hm.2.1 rfl ?_
  have gt : frK aM bM μ (mup μ 273 5 0) := frK_f.wid (by decide) (by decide)
  have ht : hasM (mup μ 273 5 0) xs ys C S Z B := h.keep (frK_f : frK [] [5] μ _) (by decide) (by decide) (by decide) (by decide) (by decide)
  refine VW.aload_n dX8_firstError_5 rfl ?_
  refine VW.pV0 cv_X8_firstError_X8_rightUpTo dX8_firstError_6 (Nat.le_of_ble_eq_true rfl) (by have := hm.1; omega) hm.2.1 (t_rightUpTo hst hm ht.2.2.2.1 ht.2.2.2.2 ok11 ok12) ?_
  refine VW.ireturn dX8_firstError_9 rfl rfl ?_
  exact fxP.ii ⟨rfl, ht, gt⟩
theorem rat_mapI {B : List Int} {f : Int → Int} {j : Int} (h : 0 ≤ j ∧ j < B.length) : rat (B.map f) j = f (rat B j) := by
  have hk : j.toNat < B.length := by omega
  unfold rat
  rw [List.length_map, if_pos h, if_pos h]
  simp [List.getD, hk]
theorem lp_X8_rd (hst : l.stackTraces = false) (hm : isM N sh) (hb3 : μ 273 3 = (B.length : Int)) (hB : arr μ 276 B) (h40 : B.length ≤ 8) (hBb : bnd B 33 126) {Φ : RT → Prop} (kk : ∀ μ3 : Mem, hasK μ3 (dig B) → frK [281] [13] μ μ3 → VW G l none M_X8_read 73 [(0, .ref (gB G + 273))] [] (N, sh, μ3) 0 0 Φ) : ∀ (n : Nat) (i : Int), 0 ≤ i → i + n = B.length → ∀ μ2 : Mem, μ2 273 13 = (B.length : Int) → (∀ j : Int, 0 ≤ j ∧ j < i → μ2 281 j.toNat = rat B j - 48) → frK [281] [13] μ μ2 → VW G l none M_X8_read 44 [(0, .ref (gB G + 273)), (1, vI i)] [] (N, sh, μ2) 0 0 Φ := by
  intro n
  induction n with
  | zero =>
    intro i h1 h2 μ2 h13 h4 hf
    refine VW.iload_n dX8_read_44 rfl ?_
    have k3 : μ2 273 3 = (B.length : Int) := (hf.2 3 (by decide)).trans hb3
    refine VW.aload_n dX8_read_45 rfl ?_
    refine VW.getI dX8_read_46 fa_X8_197 (by have := hm.1; omega) hm.2.1 rfl ?_
    refine VW.icmp_ge 73 ⟨by omega, by omega⟩ ⟨by omega, by omega⟩ dX8_read_49 (by decide) (fun c49 => ?_) (fun c49 => by omega)
    refine VW.sub ?_ [0] rfl
    refine kk μ2 ⟨by rw [h13]; unfold dig; rw [List.length_map], fun j hj => ?_⟩ hf
    unfold dig at hj ⊢
    rw [List.length_map] at hj
    rw [h4 j (by omega), rat_mapI hj]
  | succ n ih =>
    intro i h1 h2 μ2 h13 h4 hf
    refine VW.iload_n dX8_read_44 rfl ?_
    have k3 : μ2 273 3 = (B.length : Int) := (hf.2 3 (by decide)).trans hb3
    have k6 : μ2 276 = μ 276 := hf.1 276 (by decide) (by decide)
    refine VW.aload_n dX8_read_45 rfl ?_
    refine VW.getI dX8_read_46 fa_X8_197 (by have := hm.1; omega) hm.2.1 rfl ?_
    refine VW.icmp_ge 73 ⟨by omega, by omega⟩ ⟨by omega, by omega⟩ dX8_read_49 (by decide) (fun c49 => by omega) (fun c49 => ?_)
    refine VW.aload_n dX8_read_52 rfl ?_
    refine VW.getR dX8_read_53 fa_X8_31 (by have := hm.1; omega) hm.2.1 rfl ?_
    refine VW.iload_n dX8_read_56 rfl ?_
    refine VW.aload_n dX8_read_57 rfl ?_
    refine VW.getR dX8_read_58 fa_X8_16 (by have := hm.1; omega) hm.2.1 rfl ?_
    refine VW.iload_n dX8_read_61 rfl ?_
    refine VW.iaload dX8_read_62 (by have := hm.1; omega) hm.2.2.2.2.1 (by omega) (by omega) (by decide) ?_
    rw [k6, hB i (by omega)]
    refine VW.bipush dX8_read_63 rfl ?_
    refine VW.isub dX8_read_65 ?_
    refine VW.iastore dX8_read_66 (by have := hm.1; omega) hm.2.2.2.2.2.2.2.2.2.1 (by omega) (by omega) (by decide) ?_
    refine VW.iinc (lv' := [(0, _), (1, _)]) dX8_read_67 rfl (by decide) rfl ?_
    refine VW.goto 44 dX8_read_70 (by decide) ?_
    refine ih (i + 1) (by omega) (by omega) _ (by rw [mup_n (show (273 : Nat) ≠ 281 by decide)]; exact h13) (fun j hj => ?_) (hf.tr ((frK_a (by decide) : frK [281] [] μ2 _).wid (by decide) (by decide)))
    by_cases e : j = i
    · rw [e, mup_s]
    · rw [mup_k (by omega)]; exact h4 j (by omega)
theorem rd_tail (hst : l.stackTraces = false) (hm : isM N sh) (h : hasM μ xs ys C S Z B) (ok : okA (mk xs ys C S Z B)) (hB0 : 0 < B.length) (hf8 : fErr B = B.length) {μ3 : Mem} (h3 : hasM μ3 xs ys C S Z B) (hk : hasK μ3 (dig B)) (hf : frK aM bM μ μ3) : VW G l none M_X8_read 73 [(0, .ref (gB G + 273))] [] (N, sh, μ3) 0 0 (fxP N sh (oN (vN_i (tP (opRead xs ys C S Z B) μ)))) := by
  obtain ⟨⟨⟨ok1, ok2, ok3, ok4⟩, ⟨ok5, ok6, ok7⟩, ok8⟩, ⟨ok9, ok10⟩, ok11, ok12⟩ := okA.un ok
  have okσ : okS ((xs, ys), C, S) := ok.1
  obtain ⟨hz, hn, hh, hb, hB⟩ := id h
  have z5 : μ 274 5 = (xs.length : Int) := hz.2.1
  have z6 : μ 274 6 = (C.length : Int) := hz.2.2.1
  have dk := dig_ok hf8
  have dl : (dig B).length = B.length := List.length_map _
  refine VW.aload_n dX8_read_73 rfl ?_
  refine VW.aload_n dX8_read_74 rfl ?_
  refine VW.fiV0 cv_X8_read_X8_canLearn dX8_read_75 (Nat.le_of_ble_eq_true rfl) (by have := hm.1; omega) hm.2.1 (t_canLearn hst hm h3.1 okσ hk (by have := dk.1; omega) dk.2) (fun r4 μ4 h4 => ?_)
  obtain ⟨rfl, h4f⟩ := h4
  have hm4 := h3.keep h4f (by decide) (by decide) (by decide) (by decide) (by decide)
  have k4 := hk.keep h4f (by decide) (by decide)
  refine VW.if_eq 85 (bR2 _) dX8_read_78 (by decide) (fun c78 => ?_) (fun c78 => ?_)
  · rw [bI0d] at c78
    refine VW.iconst dX8_read_85 ?_
    refine VW.putI dX8_read_86 fp_X8_43 (by have := hm.1; omega) hm.2.1 rfl ?_
    have gt : frK aM bM μ (mup μ4 273 5 2) := (hf.tr (h4f.wid (by decide) (by decide))).tr (frK_f.wid (by decide) (by decide))
    have ht : hasM (mup μ4 273 5 2) xs ys C S Z B := hm4.keep (frK_f : frK [] [5] μ4 _) (by decide) (by decide) (by decide) (by decide) (by decide)
    refine VW.aload_n dX8_read_89 rfl ?_
    refine VW.getI dX8_read_90 fa_X8_43 (by have := hm.1; omega) hm.2.1 rfl ?_
    rw [mup_s]
    refine VW.if_le 98 (by decide) dX8_read_93 (by decide) (fun c93 => absurd c93 (by decide)) (fun _ => ?_)
    refine VW.iconst dX8_read_96 ?_
    refine VW.ireturn dX8_read_97 rfl rfl ?_
    exact fxP.ii (tP_x ((if_neg (fun w => w ⟨hB0, hf8⟩)).trans (if_pos (fun w => c78 ⟨w.1, by omega, dk.1, w.2⟩))) ht gt (by decide) (mup_s _ _ _ _))
  · have c78 : C.length < 10 ∧ 1 ≤ (dig B).length ∧ (dig B).length ≤ 8 ∧ tooN C S (dig B) = false := by rw [bI0d] at c78; exact Classical.not_not.mp c78
    refine VW.iconst dX8_read_81 ?_
    refine VW.goto 86 dX8_read_82 (by decide) ?_
    refine VW.putI dX8_read_86 fp_X8_43 (by have := hm.1; omega) hm.2.1 rfl ?_
    have gt : frK aM bM μ (mup μ4 273 5 0) := (hf.tr (h4f.wid (by decide) (by decide))).tr (frK_f.wid (by decide) (by decide))
    have ht : hasM (mup μ4 273 5 0) xs ys C S Z B := hm4.keep (frK_f : frK [] [5] μ4 _) (by decide) (by decide) (by decide) (by decide) (by decide)
    refine VW.aload_n dX8_read_89 rfl ?_
    refine VW.getI dX8_read_90 fa_X8_43 (by have := hm.1; omega) hm.2.1 rfl ?_
    rw [mup_s]
    refine VW.if_le 98 (by decide) dX8_read_93 (by decide) (fun _ => ?_) (fun c93 => absurd c93 (by decide))
    refine VW.aload_n dX8_read_98 rfl ?_
    refine VW.fvV0 cv_X8_read_X8_save dX8_read_99 (Nat.le_of_ble_eq_true rfl) (by have := hm.1; omega) hm.2.1 (t_save hst hm ht okσ ok10 ok9) (fun μ2 h2 => ?_)
    refine VW.aload_n dX8_read_102 rfl ?_
    refine VW.iconst dX8_read_103 ?_
    refine VW.putI dX8_read_104 fp_X8_197 (by have := hm.1; omega) hm.2.1 rfl ?_
    have g7 : frK [] [3] μ2 (mup μ2 273 3 0) := frK_f
    refine VW.aload_n dX8_read_107 rfl ?_
    refine VW.fiV0 cv_X8_read_X8_learns dX8_read_108 (Nat.le_of_ble_eq_true rfl) (by have := hm.1; omega) hm.2.1 (t_learns hst hm (h2.1.1.keep g7 (by decide)) okσ (((k4.keep (frK_f : frK [] [5] μ4 (mup μ4 273 5 0)) (by decide) (by decide)).keep h2.2 (by decide) (by decide)).keep g7 (by decide) (by decide)) ⟨dk.1, c78.1⟩) (fun r5 μ5 h5 => ?_)
    obtain ⟨rfl, h5z, h5f⟩ := h5
    refine VW.ireturn dX8_read_111 rfl rfl ?_
    have h8 : hasM (mup μ2 273 3 0) xs ys C S (kp Z ((xs, ys), C, S)) [] :=
      ⟨h2.1.1.keep g7 (by decide), by rw [g7.2 1 (by decide)]; exact h2.1.2.1, by rw [g7.1 275 (by decide) (by decide)]; exact h2.1.2.2.1, by rw [mup_s]; rfl, fun k hk => by simp at hk; omega⟩
    have h9 : hasM μ5 xs ys (C ++ [dig B]) S (kp Z ((xs, ys), C, S)) [] := h8.z h5f h5z (by decide) (by decide) (by decide) (by decide)
    have hq : opRead xs ys C S Z B = ((0, (C.length : Int)), mk xs ys (C ++ [dig B]) S (kp Z ((xs, ys), C, S)) []) := (if_neg (fun w => w ⟨hB0, hf8⟩)).trans (if_neg (fun w => w ⟨c78.1, c78.2.2.2⟩))
    exact fxP.ii (tP_r hq h9 (((gt.tr (h2.2.wid (by decide) (by decide))).tr (g7.wid (by decide) (by decide))).tr (h5f.wid (by decide) (by decide))) (by rw [h5f.2 5 (by decide), g7.2 5 (by decide), h2.2.2 5 (by decide), mup_s]))
theorem t_read (hst : l.stackTraces = false) (hm : isM N sh) (h : hasM μ xs ys C S Z B) (ok : okA (mk xs ys C S Z B)) : Zi G l N sh M_X8_read [.ref (gB G + 273)] μ (tP (opRead xs ys C S Z B) μ) := by
  refine Fx.of hst rfl (by decide +kernel) (Nat.le_of_ble_eq_true rfl) rfl ?_
  obtain ⟨⟨⟨ok1, ok2, ok3, ok4⟩, ⟨ok5, ok6, ok7⟩, ok8⟩, ⟨ok9, ok10⟩, ok11, ok12⟩ := okA.un ok
  have okσ : okS ((xs, ys), C, S) := ok.1
  obtain ⟨hz, hn, hh, hb, hB⟩ := id h
  have z5 : μ 274 5 = (xs.length : Int) := hz.2.1
  have z6 : μ 274 6 = (C.length : Int) := hz.2.2.1
  refine VW.aload_n dX8_read_0 rfl ?_
  refine VW.aload_n dX8_read_1 rfl ?_
  have hfb : 0 ≤ fErr B ∧ fErr B ≤ 0 + B.length := feF_b B B.length 0
  refine VW.pV0 cv_X8_read_X8_rightUpTo dX8_read_2 (Nat.le_of_ble_eq_true rfl) (by have := hm.1; omega) hm.2.1 (t_rightUpTo hst hm hb hB ok11 ok12) ?_
  refine VW.aload_n dX8_read_5 rfl ?_
  refine VW.getI dX8_read_6 fa_X8_197 (by have := hm.1; omega) hm.2.1 rfl ?_
  refine VW.icmp_ne 23 ⟨by omega, by omega⟩ ⟨by omega, by omega⟩ dX8_read_9 (by decide) (fun c9 => ?_) (fun c9 => ?_)
  · refine VW.iconst dX8_read_23 ?_
    refine VW.putI dX8_read_24 fp_X8_43 (by have := hm.1; omega) hm.2.1 rfl ?_
    have gt : frK aM bM μ (mup μ 273 5 1) := frK_f.wid (by decide) (by decide)
    have ht : hasM (mup μ 273 5 1) xs ys C S Z B := h.keep (frK_f : frK [] [5] μ _) (by decide) (by decide) (by decide) (by decide) (by decide)
    refine VW.aload_n dX8_read_27 rfl ?_
    refine VW.getI dX8_read_28 fa_X8_43 (by have := hm.1; omega) hm.2.1 rfl ?_
    rw [mup_s]
    refine VW.if_ne 89 (by decide) dX8_read_31 (by decide) (fun _ => ?_) (fun c31 => absurd c31 (by decide))
    refine VW.aload_n dX8_read_89 rfl ?_
    refine VW.getI dX8_read_90 fa_X8_43 (by have := hm.1; omega) hm.2.1 rfl ?_
    rw [mup_s]
    refine VW.if_le 98 (by decide) dX8_read_93 (by decide) (fun c93 => absurd c93 (by decide)) (fun _ => ?_)
    refine VW.iconst dX8_read_96 ?_
    refine VW.ireturn dX8_read_97 rfl rfl ?_
    exact fxP.ii (tP_x (if_pos (by omega)) ht gt (by decide) (mup_s _ _ _ _))
  · refine VW.aload_n dX8_read_12 rfl ?_
    refine VW.getI dX8_read_13 fa_X8_197 (by have := hm.1; omega) hm.2.1 rfl ?_
    refine VW.if_le 23 ⟨by omega, by omega⟩ dX8_read_16 (by decide) (fun c16 => ?_) (fun c16 => ?_)
    · refine VW.iconst dX8_read_23 ?_
      refine VW.putI dX8_read_24 fp_X8_43 (by have := hm.1; omega) hm.2.1 rfl ?_
      have gt : frK aM bM μ (mup μ 273 5 1) := frK_f.wid (by decide) (by decide)
      have ht : hasM (mup μ 273 5 1) xs ys C S Z B := h.keep (frK_f : frK [] [5] μ _) (by decide) (by decide) (by decide) (by decide) (by decide)
      refine VW.aload_n dX8_read_27 rfl ?_
      refine VW.getI dX8_read_28 fa_X8_43 (by have := hm.1; omega) hm.2.1 rfl ?_
      rw [mup_s]
      refine VW.if_ne 89 (by decide) dX8_read_31 (by decide) (fun _ => ?_) (fun c31 => absurd c31 (by decide))
      refine VW.aload_n dX8_read_89 rfl ?_
      refine VW.getI dX8_read_90 fa_X8_43 (by have := hm.1; omega) hm.2.1 rfl ?_
      rw [mup_s]
      refine VW.if_le 98 (by decide) dX8_read_93 (by decide) (fun c93 => absurd c93 (by decide)) (fun _ => ?_)
      refine VW.iconst dX8_read_96 ?_
      refine VW.ireturn dX8_read_97 rfl rfl ?_
      exact fxP.ii (tP_x (if_pos (by omega)) ht gt (by decide) (mup_s _ _ _ _))
    · refine VW.iconst dX8_read_19 ?_
      refine VW.goto 24 dX8_read_20 (by decide) ?_
      refine VW.putI dX8_read_24 fp_X8_43 (by have := hm.1; omega) hm.2.1 rfl ?_
      have gt : frK aM bM μ (mup μ 273 5 0) := frK_f.wid (by decide) (by decide)
      have ht : hasM (mup μ 273 5 0) xs ys C S Z B := h.keep (frK_f : frK [] [5] μ _) (by decide) (by decide) (by decide) (by decide) (by decide)
      refine VW.aload_n dX8_read_27 rfl ?_
      refine VW.getI dX8_read_28 fa_X8_43 (by have := hm.1; omega) hm.2.1 rfl ?_
      rw [mup_s]
      refine VW.if_ne 89 (by decide) dX8_read_31 (by decide) (fun c31 => absurd c31 (by decide)) (fun _ => ?_)
      refine VW.aload_n dX8_read_34 rfl ?_
      refine VW.aload_n dX8_read_35 rfl ?_
      refine VW.getI dX8_read_36 fa_X8_197 (by have := hm.1; omega) hm.2.1 rfl ?_
      refine VW.putI dX8_read_39 fp_X8_107 (by have := hm.1; omega) hm.2.1 rfl ?_
      rw [show (mup μ 273 5 0) 273 3 = (B.length : Int) from (mup_k (by decide)).trans hb]
      refine VW.iconst dX8_read_42 ?_
      refine VW.istore_n (lv' := [(0, _), (1, _)]) dX8_read_43 (by decide) rfl ?_
      have hf8 : fErr B = B.length := by omega
      have dk := dig_ok hf8
      have dl : (dig B).length = B.length := List.length_map _
      have g8 : frK [] [13] (mup μ 273 5 0) (mup (mup μ 273 5 0) 273 13 (B.length : Int)) := frK_f
      have ht8 := ht.keep g8 (by decide) (by decide) (by decide) (by decide) (by decide)
      refine lp_X8_rd hst hm ht8.2.2.2.1 ht8.2.2.2.2 (by omega) ok12 (fun μ3 hk hf => ?_) B.length 0 (by omega) (by omega) _ (mup_s _ _ _ _) (fun j hj => by omega) frK.rf
      exact rd_tail hst hm h ok (by omega) hf8 (ht8.keep hf (by decide) (by decide) (by decide) (by decide) (by decide)) hk ((gt.tr (g8.wid (by decide) (by decide))).tr (hf.wid (by decide) (by decide)))
theorem lp_X8_un (hst : l.stackTraces = false) (hm : isM N sh) {p : Nat} (hp : p < 6) (hp1 : μ 273 1 = (p : Int)) {Φ : RT → Prop} (kk : ∀ μ3 : Mem, (∀ j : Nat, j < 177 → μ3 274 j = μ 275 (177 * p + j)) → frK [274] [] μ μ3 → VW G l none M_X8_undo 71 [(0, .ref (gB G + 273))] [] (N, sh, μ3) 0 0 Φ) : ∀ (n : Nat) (i : Int), 0 ≤ i → i + n = 177 → ∀ μ2 : Mem, (∀ j : Nat, (j : Int) < i → μ2 274 j = μ 275 (177 * p + j)) → frK [274] [] μ μ2 → VW G l none M_X8_undo 37 [(0, .ref (gB G + 273)), (1, vI i)] [] (N, sh, μ2) 0 0 Φ := by
  intro n
  induction n with
  | zero =>
    intro i h1 h2 μ2 h3 hf
    refine VW.iload_n dX8_undo_37 rfl ?_
    refine VW.sipush dX8_undo_38 rfl ?_
    refine VW.icmp_ge 71 ⟨by omega, by omega⟩ ⟨by omega, by omega⟩ dX8_undo_41 (by decide) (fun c41 => ?_) (fun c41 => by omega)
    refine VW.sub ?_ [0] rfl
    exact kk μ2 (fun j hj => h3 j (by omega)) hf
  | succ n ih =>
    intro i h1 h2 μ2 h3 hf
    refine VW.iload_n dX8_undo_37 rfl ?_
    refine VW.sipush dX8_undo_38 rfl ?_
    refine VW.icmp_ge 71 ⟨by omega, by omega⟩ ⟨by omega, by omega⟩ dX8_undo_41 (by decide) (fun c41 => by omega) (fun c41 => ?_)
    have e1 : μ2 273 1 = (p : Int) := (hf.2 1 (by decide)).trans hp1
    have e4 : μ2 275 = μ 275 := hf.1 275 (by decide) (by decide)
    refine VW.aload_n dX8_undo_44 rfl ?_
    refine VW.getR dX8_undo_45 fa_X8_7 (by have := hm.1; omega) hm.2.1 rfl ?_
    refine VW.iload_n dX8_undo_48 rfl ?_
    refine VW.aload_n dX8_undo_49 rfl ?_
    refine VW.getR dX8_undo_50 fa_X8_13 (by have := hm.1; omega) hm.2.1 rfl ?_
    refine VW.sipush dX8_undo_53 rfl ?_
    refine VW.aload_n dX8_undo_56 rfl ?_
    refine VW.getI dX8_undo_57 fa_X8_47 (by have := hm.1; omega) hm.2.1 rfl ?_
    rw [e1]
    refine VW.imul dX8_undo_60 ?_
    refine VW.iload_n dX8_undo_61 rfl ?_
    refine VW.iadd dX8_undo_62 ?_
    refine VW.iaload dX8_undo_63 (by have := hm.1; omega) hm.2.2.2.1 (by omega) (by omega) (by decide) ?_
    rw [e4]
    refine VW.iastore dX8_undo_64 (by have := hm.1; omega) hm.2.2.1 (by omega) (by omega) (by decide) ?_
    refine VW.iinc (lv' := [(0, _), (1, _)]) dX8_undo_65 rfl (by decide) rfl ?_
    refine VW.goto 37 dX8_undo_68 (by decide) ?_
    refine ih (i + 1) (by omega) (by omega) _ (fun j hj => ?_) (hf.tr (frK_a (by decide)))
    by_cases e : j = i.toNat
    · rw [e, mup_s, show (177 * (p : Int) + i).toNat = 177 * p + i.toNat by omega]
    · rw [mup_k (by omega)]; exact h3 j (by omega)
theorem t_undo (hst : l.stackTraces = false) (hm : isM N sh) (h : hasM μ xs ys C S Z B) (ok : okA (mk xs ys C S Z B)) : Zi G l N sh M_X8_undo [.ref (gB G + 273)] μ (tP (opUndo xs ys C S Z B) μ) := by
  refine Fx.of hst rfl (by decide +kernel) (Nat.le_of_ble_eq_true rfl) rfl ?_
  obtain ⟨⟨⟨ok1, ok2, ok3, ok4⟩, ⟨ok5, ok6, ok7⟩, ok8⟩, ⟨ok9, ok10⟩, ok11, ok12⟩ := okA.un ok
  have okσ : okS ((xs, ys), C, S) := ok.1
  obtain ⟨hz, hn, hh, hb, hB⟩ := id h
  have z5 : μ 274 5 = (xs.length : Int) := hz.2.1
  have z6 : μ 274 6 = (C.length : Int) := hz.2.2.1
  refine VW.aload_n dX8_undo_0 rfl ?_
  refine VW.aload_n dX8_undo_1 rfl ?_
  refine VW.getI dX8_undo_2 fa_X8_47 (by have := hm.1; omega) hm.2.1 rfl ?_
  refine VW.if_le 12 ⟨by omega, by omega⟩ dX8_undo_5 (by decide) (fun c5 => ?_) (fun c5 => ?_)
  · refine VW.iconst dX8_undo_12 ?_
    refine VW.putI dX8_undo_13 fp_X8_43 (by have := hm.1; omega) hm.2.1 rfl ?_
    have gt : frK aM bM μ (mup μ 273 5 1) := frK_f.wid (by decide) (by decide)
    have ht : hasM (mup μ 273 5 1) xs ys C S Z B := h.keep (frK_f : frK [] [5] μ _) (by decide) (by decide) (by decide) (by decide) (by decide)
    refine VW.aload_n dX8_undo_16 rfl ?_
    refine VW.getI dX8_undo_17 fa_X8_43 (by have := hm.1; omega) hm.2.1 rfl ?_
    rw [mup_s]
    refine VW.if_le 25 (by decide) dX8_undo_20 (by decide) (fun c20 => absurd c20 (by decide)) (fun _ => ?_)
    refine VW.iconst dX8_undo_23 ?_
    refine VW.ireturn dX8_undo_24 rfl rfl ?_
    exact fxP.ii (tP_x (if_pos (by omega)) ht gt (by decide) (mup_s _ _ _ _))
  · refine VW.iconst dX8_undo_8 ?_
    refine VW.goto 13 dX8_undo_9 (by decide) ?_
    refine VW.putI dX8_undo_13 fp_X8_43 (by have := hm.1; omega) hm.2.1 rfl ?_
    have gt : frK aM bM μ (mup μ 273 5 0) := frK_f.wid (by decide) (by decide)
    have ht : hasM (mup μ 273 5 0) xs ys C S Z B := h.keep (frK_f : frK [] [5] μ _) (by decide) (by decide) (by decide) (by decide) (by decide)
    refine VW.aload_n dX8_undo_16 rfl ?_
    refine VW.getI dX8_undo_17 fa_X8_43 (by have := hm.1; omega) hm.2.1 rfl ?_
    rw [mup_s]
    refine VW.if_le 25 (by decide) dX8_undo_20 (by decide) (fun _ => ?_) (fun c20 => absurd c20 (by decide))
    refine VW.aload_n dX8_undo_25 rfl ?_
    refine VW.dup dX8_undo_26 rfl ?_
    refine VW.getI dX8_undo_27 fa_X8_47 (by have := hm.1; omega) hm.2.1 rfl ?_
    rw [show (mup μ 273 5 0) 273 1 = (Z.length : Int) from (mup_k (by decide)).trans hn]
    refine VW.iconst dX8_undo_30 ?_
    refine VW.isub dX8_undo_31 ?_
    refine VW.putI dX8_undo_32 fp_X8_47 (by have := hm.1; omega) hm.2.1 rfl ?_
    refine VW.iconst dX8_undo_35 ?_
    refine VW.istore_n (lv' := [(0, _), (1, _)]) dX8_undo_36 (by decide) rfl ?_
    refine lp_X8_un hst hm (p := Z.length - 1) (by omega) (by rw [mup_s]; omega) (fun μ3 h3 hf => ?_) 177 0 (by omega) (by omega) _ (fun j hj => by omega) frK.rf
    have g1 : frK [] [1] (mup μ 273 5 0) (mup (mup μ 273 5 0) 273 1 ((Z.length : Int) - 1)) := frK_f
    have hk : zS (fun i => μ 275 (177 * (Z.length - 1) + i)) (Z.getD (Z.length - 1) (([], []), [], [])) := hh (Z.length - 1) (by omega)
    have gok : okS (Z.getD (Z.length - 1) (([], []), [], [])) := ok10 _ (getZ_mem (by omega))
    have h8 : zS (μ3 274) (Z.getD (Z.length - 1) (([], []), [], [])) := zS_c gok hk (fun i hi => by rw [h3 i hi, g1.1 275 (by decide) (by decide), mup_n (show (275 : Nat) ≠ 273 by decide)])
    have h9 : hasM μ3 (Z.getD (Z.length - 1) (([], []), [], [])).1.1 (Z.getD (Z.length - 1) (([], []), [], [])).1.2 (Z.getD (Z.length - 1) (([], []), [], [])).2.1 (Z.getD (Z.length - 1) (([], []), [], [])).2.2 Z.dropLast B := by
      refine ⟨h8, by rw [hf.2 1 (by decide), mup_s, List.length_dropLast]; omega, fun k hk2 => ?_, by rw [hf.2 3 (by decide), g1.2 3 (by decide)]; exact ht.2.2.2.1, (ht.2.2.2.2.keep g1 (by decide) (by decide)).keep hf (by decide) (by decide)⟩
      rw [List.length_dropLast] at hk2
      rw [hf.1 275 (by decide) (by decide), g1.1 275 (by decide) (by decide), show Z.dropLast.getD k (([], []), [], []) = Z.getD k (([], []), [], []) from dl_get Z (by omega)]
      exact ht.2.2.1 k (by omega)
    have hq : opUndo xs ys C S Z B = ((0, (Z.length : Int) - 1), mk (Z.getD (Z.length - 1) (([], []), [], [])).1.1 (Z.getD (Z.length - 1) (([], []), [], [])).1.2 (Z.getD (Z.length - 1) (([], []), [], [])).2.1 (Z.getD (Z.length - 1) (([], []), [], [])).2.2 Z.dropLast B) := if_neg (by omega)
    refine VW.aload_n dX8_undo_71 rfl ?_
    refine VW.getI dX8_undo_72 fa_X8_47 (by have := hm.1; omega) hm.2.1 rfl ?_
    refine VW.ireturn dX8_undo_75 rfl rfl ?_
    rw [hf.2 1 (by decide), mup_s]
    exact fxP.ii (tP_r hq h9 ((gt.tr (g1.wid (by decide) (by decide))).tr (hf.wid (by decide) (by decide))) (by rw [hf.2 5 (by decide), g1.2 5 (by decide), mup_s]))
end PS
