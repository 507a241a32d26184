/-! ===== the model: the calls that change, 3 ===== -/
section PS
variable {G : GT} {l : Launch} {N : Nat} {sh : Nat → ShT} {μ μ' : Mem} {xs ys S D Ln : List Int} {C : List (List Int)} {v lo hi : Int}
variable {Z : List St} {B : List Int} {q : QS}
theorem t_point (hst : l.stackTraces = false) (hm : isM N sh) (h : hasM μ xs ys C S Z B) (ok : okA (mk xs ys C S Z B)) {x y : Int} (hx : R32 x) (hy : R32 y) : Zi G l N sh M_X8_point [.ref (gB G + 273), vI x, vI y] μ (tP (opPoint xs ys C S Z B x y) μ) := by
  refine Fx.of hst rfl (by decide +kernel) (Nat.le_of_ble_eq_true rfl) rfl ?_
  obtain ⟨⟨⟨ok1, ok2, ok3, ok4⟩, ⟨ok5, ok6, ok7⟩, ok8⟩, ⟨ok9, ok10⟩, ok11, ok12⟩ := okA.un ok
  have okσ : okS ((xs, ys), C, S) := ok.1
  obtain ⟨hz, hn, hh, hb, hB⟩ := id h
  have z5 : μ 274 5 = (xs.length : Int) := hz.2.1
  have z6 : μ 274 6 = (C.length : Int) := hz.2.2.1
  refine VW.aload_n dX8_point_0 rfl ?_
  refine VW.iload_n dX8_point_1 rfl ?_
  refine VW.iload_n dX8_point_2 rfl ?_
  refine VW.pS2 cs_X8_point_X8_isOnLattice dX8_point_3 (Nat.le_of_ble_eq_true rfl) (t_isOnLattice hst hx hy) ?_
  refine VW.if_ne 13 (bR2 _) dX8_point_6 (by decide) (fun c6 => ?_) (fun c6 => ?_)
  · refine VW.aload_n dX8_point_13 rfl ?_
    refine VW.getR dX8_point_14 fa_X8_7 (by have := hm.1; omega) hm.2.1 rfl ?_
    refine VW.iconst dX8_point_17 ?_
    refine VW.iaload dX8_point_18 (by have := hm.1; omega) hm.2.2.1 (by omega) (by omega) (by decide) ?_
    rw [show (5 : Int).toNat = 5 from rfl, z5]
    refine VW.bipush dX8_point_19 rfl ?_
    refine VW.icmp_ne 28 ⟨by omega, by omega⟩ ⟨by omega, by omega⟩ dX8_point_21 (by decide) (fun c21 => ?_) (fun c21 => ?_)
    · refine VW.iconst dX8_point_28 ?_
      refine VW.putI dX8_point_29 fp_X8_43 (by have := hm.1; omega) hm.2.1 rfl ?_
      have gt : frK aM bM μ (mup μ 273 5 0) := frK_f.wid (by decide) (by decide)
      have ht : hasM (mup μ 273 5 0) xs ys C S Z B := h.keep (frK_f : frK [] [5] μ _) (by decide) (by decide) (by decide) (by decide) (by decide)
      refine VW.aload_n dX8_point_32 rfl ?_
      refine VW.getI dX8_point_33 fa_X8_43 (by have := hm.1; omega) hm.2.1 rfl ?_
      rw [mup_s]
      refine VW.if_le 41 (by decide) dX8_point_36 (by decide) (fun _ => ?_) (fun c36 => absurd c36 (by decide))
      refine VW.aload_n dX8_point_41 rfl ?_
      refine VW.fvV0 cv_X8_point_X8_save dX8_point_42 (Nat.le_of_ble_eq_true rfl) (by have := hm.1; omega) hm.2.1 (t_save hst hm ht okσ ok10 ok9) (fun μ2 h2 => ?_)
      refine VW.aload_n dX8_point_45 rfl ?_
      refine VW.iload_n dX8_point_46 rfl ?_
      refine VW.iload_n dX8_point_47 rfl ?_
      refine VW.fvV2 cv_X8_point_X8_addPoint dX8_point_48 (Nat.le_of_ble_eq_true rfl) (by have := hm.1; omega) hm.2.1 (t_addPoint hst hm h2.1.1 ⟨ok1, by omega⟩ (x := x) (y := y)) (fun μ3 h3 => ?_)
      refine VW.aload_n dX8_point_51 rfl ?_
      refine VW.getR dX8_point_52 fa_X8_7 (by have := hm.1; omega) hm.2.1 rfl ?_
      have e3 : μ3 274 5 = ((xs ++ [x]).length : Int) := h3.1.2.1
      refine VW.iconst dX8_point_55 ?_
      refine VW.iaload dX8_point_56 (by have := hm.1; omega) hm.2.2.1 (by omega) (by omega) (by decide) ?_
      rw [show (5 : Int).toNat = 5 from rfl, e3]
      refine VW.ireturn dX8_point_57 rfl rfl ?_
      refine fxP.ii (tP_r (r := ((xs ++ [x]).length : Int)) ?_ (h2.1.z h3.2 h3.1 (by decide) (by decide) (by decide) (by decide)) ((gt.tr (h2.2.wid (by decide) (by decide))).tr (h3.2.wid (by decide) (by decide))) (by rw [h3.2.2 5 (by decide), h2.2.2 5 (by decide), mup_s]))
      refine (if_neg (by rw [bI0] at c6; exact c6)).trans ((if_neg (by omega)).trans ?_)
      rw [List.length_append]
      rfl
    · refine VW.iconst dX8_point_24 ?_
      refine VW.goto 29 dX8_point_25 (by decide) ?_
      refine VW.putI dX8_point_29 fp_X8_43 (by have := hm.1; omega) hm.2.1 rfl ?_
      have gt : frK aM bM μ (mup μ 273 5 2) := frK_f.wid (by decide) (by decide)
      have ht : hasM (mup μ 273 5 2) xs ys C S Z B := h.keep (frK_f : frK [] [5] μ _) (by decide) (by decide) (by decide) (by decide) (by decide)
      refine VW.aload_n dX8_point_32 rfl ?_
      refine VW.getI dX8_point_33 fa_X8_43 (by have := hm.1; omega) hm.2.1 rfl ?_
      rw [mup_s]
      refine VW.if_le 41 (by decide) dX8_point_36 (by decide) (fun c36 => absurd c36 (by decide)) (fun _ => ?_)
      refine VW.iconst dX8_point_39 ?_
      refine VW.ireturn dX8_point_40 rfl rfl ?_
      exact fxP.ii (tP_x ((if_neg (by rw [bI0] at c6; exact c6)).trans (if_pos (by omega))) ht gt (by decide) (mup_s _ _ _ _))
  · refine VW.iconst dX8_point_9 ?_
    refine VW.goto 29 dX8_point_10 (by decide) ?_
    refine VW.putI dX8_point_29 fp_X8_43 (by have := hm.1; omega) hm.2.1 rfl ?_
    have gt : frK aM bM μ (mup μ 273 5 1) := frK_f.wid (by decide) (by decide)
    have ht : hasM (mup μ 273 5 1) xs ys C S Z B := h.keep (frK_f : frK [] [5] μ _) (by decide) (by decide) (by decide) (by decide) (by decide)
    refine VW.aload_n dX8_point_32 rfl ?_
    refine VW.getI dX8_point_33 fa_X8_43 (by have := hm.1; omega) hm.2.1 rfl ?_
    rw [mup_s]
    refine VW.if_le 41 (by decide) dX8_point_36 (by decide) (fun c36 => absurd c36 (by decide)) (fun _ => ?_)
    refine VW.iconst dX8_point_39 ?_
    refine VW.ireturn dX8_point_40 rfl rfl ?_
    exact fxP.ii (tP_x (if_pos (by rw [bI0] at c6; exact c6)) ht gt (by decide) (mup_s _ _ _ _))
theorem t_back (hst : l.stackTraces = false) (hm : isM N sh) (h : hasM μ xs ys C S Z B) (ok : okA (mk xs ys C S Z B)) {m : Int} (hmm : R32 m) : Zi G l N sh M_X8_back [.ref (gB G + 273), vI m] μ (tP (opBack xs ys C S Z B m) μ) := by
  refine Fx.of hst rfl (by decide +kernel) (Nat.le_of_ble_eq_true rfl) rfl ?_
  obtain ⟨⟨⟨ok1, ok2, ok3, ok4⟩, ⟨ok5, ok6, ok7⟩, ok8⟩, ⟨ok9, ok10⟩, ok11, ok12⟩ := okA.un ok
  have okσ : okS ((xs, ys), C, S) := ok.1
  obtain ⟨hz, hn, hh, hb, hB⟩ := id h
  have z5 : μ 274 5 = (xs.length : Int) := hz.2.1
  have z6 : μ 274 6 = (C.length : Int) := hz.2.2.1
  refine VW.aload_n dX8_back_0 rfl ?_
  refine VW.iload_n dX8_back_1 rfl ?_
  refine VW.iconst dX8_back_2 ?_
  refine VW.aload_n dX8_back_3 rfl ?_
  refine VW.getR dX8_back_4 fa_X8_7 (by have := hm.1; omega) hm.2.1 rfl ?_
  refine VW.iconst dX8_back_7 ?_
  refine VW.iaload dX8_back_8 (by have := hm.1; omega) hm.2.2.1 (by omega) (by omega) (by decide) ?_
  rw [show (5 : Int).toNat = 5 from rfl, z5]
  refine VW.pS3 cs_X8_back_X8_within dX8_back_9 (Nat.le_of_ble_eq_true rfl) (t_within hst hmm ⟨by omega, by omega⟩ ⟨by omega, by omega⟩) ?_
  refine VW.if_eq 19 (bR2 _) dX8_back_12 (by decide) (fun c12 => ?_) (fun c12 => ?_)
  · rw [bI0d] at c12
    refine VW.iconst dX8_back_19 ?_
    refine VW.putI dX8_back_20 fp_X8_43 (by have := hm.1; omega) hm.2.1 rfl ?_
    have gt : frK aM bM μ (mup μ 273 5 1) := frK_f.wid (by decide) (by decide)
    have ht : hasM (mup μ 273 5 1) xs ys C S Z B := h.keep (frK_f : frK [] [5] μ _) (by decide) (by decide) (by decide) (by decide) (by decide)
    refine VW.aload_n dX8_back_23 rfl ?_
    refine VW.getI dX8_back_24 fa_X8_43 (by have := hm.1; omega) hm.2.1 rfl ?_
    rw [mup_s]
    refine VW.if_le 32 (by decide) dX8_back_27 (by decide) (fun c27 => absurd c27 (by decide)) (fun _ => ?_)
    refine VW.iconst dX8_back_30 ?_
    refine VW.ireturn dX8_back_31 rfl rfl ?_
    exact fxP.ii (tP_x (if_pos c12) ht gt (by decide) (mup_s _ _ _ _))
  · rw [bI0d] at c12
    refine VW.iconst dX8_back_15 ?_
    refine VW.goto 20 dX8_back_16 (by decide) ?_
    refine VW.putI dX8_back_20 fp_X8_43 (by have := hm.1; omega) hm.2.1 rfl ?_
    have gt : frK aM bM μ (mup μ 273 5 0) := frK_f.wid (by decide) (by decide)
    have ht : hasM (mup μ 273 5 0) xs ys C S Z B := h.keep (frK_f : frK [] [5] μ _) (by decide) (by decide) (by decide) (by decide) (by decide)
    refine VW.aload_n dX8_back_23 rfl ?_
    refine VW.getI dX8_back_24 fa_X8_43 (by have := hm.1; omega) hm.2.1 rfl ?_
    rw [mup_s]
    refine VW.if_le 32 (by decide) dX8_back_27 (by decide) (fun _ => ?_) (fun c27 => absurd c27 (by decide))
    refine VW.aload_n dX8_back_32 rfl ?_
    refine VW.fvV0 cv_X8_back_X8_save dX8_back_33 (Nat.le_of_ble_eq_true rfl) (by have := hm.1; omega) hm.2.1 (t_save hst hm ht okσ ok10 ok9) (fun μ2 h2 => ?_)
    refine VW.aload_n dX8_back_36 rfl ?_
    refine VW.aload_n dX8_back_37 rfl ?_
    refine VW.getR dX8_back_38 fa_X8_7 (by have := hm.1; omega) hm.2.1 rfl ?_
    refine VW.iconst dX8_back_41 ?_
    refine VW.iaload dX8_back_42 (by have := hm.1; omega) hm.2.2.1 (by omega) (by omega) (by decide) ?_
    have e2 : μ2 274 5 = (xs.length : Int) := h2.1.1.2.1
    rw [show (5 : Int).toNat = 5 from rfl, e2]
    refine VW.iload_n dX8_back_43 rfl ?_
    refine VW.isub dX8_back_44 ?_
    refine VW.fvV1 cv_X8_back_X8_clearFrom dX8_back_45 (Nat.le_of_ble_eq_true rfl) (by have := hm.1; omega) hm.2.1 (t_clearFrom hst hm h2.1.1 (p := (xs.length : Int) - m) ⟨by omega, by omega⟩ ⟨ok1, ok2⟩) (fun μ3 h3 => ?_)
    refine VW.aload_n dX8_back_48 rfl ?_
    refine VW.getR dX8_back_49 fa_X8_7 (by have := hm.1; omega) hm.2.1 rfl ?_
    have e3 : μ3 274 5 = ((xs.take ((xs.length : Int) - m).toNat).length : Int) := h3.1.2.1
    refine VW.iconst dX8_back_52 ?_
    refine VW.iaload dX8_back_53 (by have := hm.1; omega) hm.2.2.1 (by omega) (by omega) (by decide) ?_
    rw [show (5 : Int).toNat = 5 from rfl, e3]
    refine VW.ireturn dX8_back_54 rfl rfl ?_
    refine fxP.ii (tP_r ?_ (h2.1.z h3.2 h3.1 (by decide) (by decide) (by decide) (by decide)) ((gt.tr (h2.2.wid (by decide) (by decide))).tr (h3.2.wid (by decide) (by decide))) (by rw [h3.2.2 5 (by decide), h2.2.2 5 (by decide), mup_s]))
    refine (if_neg c12).trans ?_
    rw [show ((xs.take ((xs.length : Int) - m).toNat).length : Int) = xs.length - m by rw [List.length_take]; omega]
theorem t_begin (hst : l.stackTraces = false) (hm : isM N sh) (h : hasM μ xs ys C S Z B) (ok : okA (mk xs ys C S Z B)) : Zi G l N sh M_X8_begin [.ref (gB G + 273)] μ (tP (opBegin xs ys C S Z B) μ) := by
  refine Fx.of hst rfl (by decide +kernel) (Nat.le_of_ble_eq_true rfl) rfl ?_
  obtain ⟨⟨⟨ok1, ok2, ok3, ok4⟩, ⟨ok5, ok6, ok7⟩, ok8⟩, ⟨ok9, ok10⟩, ok11, ok12⟩ := okA.un ok
  have okσ : okS ((xs, ys), C, S) := ok.1
  obtain ⟨hz, hn, hh, hb, hB⟩ := id h
  have z5 : μ 274 5 = (xs.length : Int) := hz.2.1
  have z6 : μ 274 6 = (C.length : Int) := hz.2.2.1
  refine VW.aload_n dX8_begin_0 rfl ?_
  refine VW.iconst dX8_begin_1 ?_
  refine VW.putI dX8_begin_2 fp_X8_43 (by have := hm.1; omega) hm.2.1 rfl ?_
  have gt : frK aM bM μ (mup μ 273 5 0) := frK_f.wid (by decide) (by decide)
  have ht : hasM (mup μ 273 5 0) xs ys C S Z B := h.keep (frK_f : frK [] [5] μ _) (by decide) (by decide) (by decide) (by decide) (by decide)
  refine VW.aload_n dX8_begin_5 rfl ?_
  refine VW.fvV0 cv_X8_begin_X8_save dX8_begin_6 (Nat.le_of_ble_eq_true rfl) (by have := hm.1; omega) hm.2.1 (t_save hst hm ht okσ ok10 ok9) (fun μ2 h2 => ?_)
  refine VW.aload_n dX8_begin_9 rfl ?_
  refine VW.getR dX8_begin_10 fa_X8_7 (by have := hm.1; omega) hm.2.1 rfl ?_
  refine VW.iconst dX8_begin_13 ?_
  have e2 : μ2 274 5 = (xs.length : Int) := h2.1.1.2.1
  refine VW.iaload dX8_begin_14 (by have := hm.1; omega) hm.2.2.1 (by omega) (by omega) (by decide) ?_
  rw [show (5 : Int).toNat = 5 from rfl, e2]
  refine VW.istore_n (lv' := [(0, _), (1, _)]) dX8_begin_15 (by decide) rfl ?_
  refine VW.aload_n dX8_begin_16 rfl ?_
  refine VW.iconst dX8_begin_17 ?_
  refine VW.fvV1 cv_X8_begin_X8_clearFrom dX8_begin_18 (Nat.le_of_ble_eq_true rfl) (by have := hm.1; omega) hm.2.1 (t_clearFrom hst hm h2.1.1 (p := 0) ⟨by omega, by omega⟩ ⟨ok1, ok2⟩) (fun μ3 h3 => ?_)
  refine VW.iload_n dX8_begin_21 rfl ?_
  refine VW.ireturn dX8_begin_22 rfl rfl ?_
  have h31 : zR (μ3 274) [] [] C S := h3.1
  have h9 : hasM μ3 [] [] C S (kp Z ((xs, ys), C, S)) B := h2.1.z h3.2 h31 (by decide) (by decide) (by decide) (by decide)
  have hq : opBegin xs ys C S Z B = ((0, (xs.length : Int)), mk [] [] C S (kp Z ((xs, ys), C, S)) B) := rfl
  exact fxP.ii (tP_r hq h9 ((gt.tr (h2.2.wid (by decide) (by decide))).tr (h3.2.wid (by decide) (by decide))) (by rw [h3.2.2 5 (by decide), h2.2.2 5 (by decide), mup_s]))
end PS
