/-! ===== the model: looks ===== -/
section PW
variable {G : GT} {l : Launch} {N : Nat} {sh : Nat → ShT} {μ μ' : Mem} {xs ys S D Ln : List Int} {C : List (List Int)} {v lo hi : Int}
variable {Z : List St} {B : List Int} {p w c : Int}
def tL (q : Int × Int) (μ : Mem) : Int → Mem → Prop := fun r μ' => r = (if q.1 = 0 then q.2 else 0) ∧ μ' 273 5 = q.1 ∧ frK aL bL μ μ'
abbrev bN : List Nat := [8, 11, 13]
theorem tL_x {q : Int × Int} {k : Int} (e : q = (k, 0)) (f : frK aL bL μ μ') (hk : ¬ k = 0) (h5 : μ' 273 5 = k) : tL q μ 0 μ' := by
  subst e
  exact ⟨by rw [if_neg hk], h5, f⟩
theorem tL_r {q : Int × Int} {r : Int} (e : q = (0, r)) (f : frK aL bL μ μ') (h5 : μ' 273 5 = 0) : tL q μ r μ' := by
  subst e
  exact ⟨by rw [if_pos rfl], h5, f⟩
theorem fgv_pos (s0 s1 : Int) : ∀ (n : Nat) (q : (List Int × List Int) × Int), 0 < (fgv s0 s1 n q).1.1.length ↔ 0 < q.1.1.length
  | 0, q => Iff.rfl
  | n + 1, q => by
    show 0 < (if q.1.1.length ≤ 1 then q else if fdrop q.1.1 q.1.2 s0 s1 = -1 then q else fgv s0 s1 n (dropA q.1.1 q.1.2 (fdrop q.1.1 q.1.2 s0 s1), q.2 + 1)).1.1.length ↔ _
    by_cases c1 : q.1.1.length ≤ 1
    · rw [if_pos c1]
    · rw [if_neg c1]
      by_cases c2 : fdrop q.1.1 q.1.2 s0 s1 = -1
      · rw [if_pos c2]
      · rw [if_neg c2, fgv_pos s0 s1 n]
        have hb := fdrop_b q.1.1 q.1.2 s0 s1
        have hl : 0 < (dropA q.1.1 q.1.2 (fdrop q.1.1 q.1.2 s0 s1)).1.length := by
          have e1 : (q.1.1.eraseIdx (fdrop q.1.1 q.1.2 s0 s1).toNat).length = q.1.1.length - 1 := by rw [List.length_eraseIdx, if_pos (by omega)]
          unfold dropA
          split
          · rename_i hc
            show 0 < ((q.1.1.eraseIdx (fdrop q.1.1 q.1.2 s0 s1).toNat).eraseIdx (fdrop q.1.1 q.1.2 s0 s1).toNat).length
            rw [List.length_eraseIdx]
            split <;> omega
          · show 0 < (q.1.1.eraseIdx (fdrop q.1.1 q.1.2 s0 s1).toNat).length
            omega
        constructor <;> intro _ <;> first | exact hl | omega
theorem stk_pos (xs ys S : List Int) : 0 < (stk xs ys S).length ↔ 0 < (rnD xs ys).length := fgv_pos _ _ 40 _
theorem readOf_c {n m : Int} {D : List Int} {f : Int} (h : 0 < n ↔ 0 < m) : readOf n D f = readOf m D f := by
  unfold readOf
  by_cases c : 0 < n
  · have c2 := h.mp c
    simp [c, c2]
  · have c2 : ¬ 0 < m := fun q => c (h.mpr q)
    simp [c, c2]
theorem t_pointNow (hst : l.stackTraces = false) (hm : isM N sh) (hz : zR (μ 274) xs ys C S) (ok : okS ((xs, ys), C, S)) (hp : 0 ≤ p ∧ p < xs.length) (hw : R32 w) : Zi G l N sh M_X8_pointNow [.ref (gB G + 273), vI p, vI w] μ (fun r μ' => r = (if w = 0 then rat xs p else if w = 1 then rat ys p else if w = 2 then sDir xs ys p else sLen xs ys p) ∧ frK aL bN μ μ') := by
  refine Fx.of hst rfl (by decide +kernel) (Nat.le_of_ble_eq_true rfl) rfl ?_
  obtain ⟨⟨ok1, ok2, ok3, ok4⟩, ⟨ok5, ok6, ok7⟩, ok8⟩ := okS.un ok
  obtain ⟨hw5, hw0, hw1, hw2, hw3, hw4⟩ := id ok8
  have z5 : μ 274 5 = (xs.length : Int) := hz.2.1
  have z6 : μ 274 6 = (C.length : Int) := hz.2.2.1
  refine VW.aload_n dX8_pointNow_0 rfl ?_
  refine VW.fvV0 cv_X8_pointNow_X8_takePath dX8_pointNow_1 (Nat.le_of_ble_eq_true rfl) (by have := hm.1; omega) hm.2.1 (t_takePath hst hm hz ⟨ok1, ok2⟩) (fun μ1 h1 => ?_)
  refine VW.iload_n dX8_pointNow_4 rfl ?_
  refine VW.if_ne 17 ⟨by omega, by omega⟩ dX8_pointNow_5 (by decide) (fun c5 => ?_) (fun c5 => ?_)
  · refine VW.iload_n dX8_pointNow_17 rfl ?_
    refine VW.iconst dX8_pointNow_18 ?_
    refine VW.icmp_ne 31 ⟨by omega, by omega⟩ ⟨by omega, by omega⟩ dX8_pointNow_19 (by decide) (fun c19 => ?_) (fun c19 => ?_)
    · refine VW.iload_n dX8_pointNow_31 rfl ?_
      refine VW.iconst dX8_pointNow_32 ?_
      refine VW.icmp_ne 44 ⟨by omega, by omega⟩ ⟨by omega, by omega⟩ dX8_pointNow_33 (by decide) (fun c33 => ?_) (fun c33 => ?_)
      · refine VW.aload_n dX8_pointNow_44 rfl ?_
        refine VW.iload_n dX8_pointNow_45 rfl ?_
        refine VW.pV1 cv_X8_pointNow_X8_stepLength dX8_pointNow_46 (Nat.le_of_ble_eq_true rfl) (by have := hm.1; omega) hm.2.1 (t_stepLength hst hm h1.1 ok3 ok4 (by omega) hp) ?_
        refine VW.ireturn dX8_pointNow_49 rfl rfl ?_
        refine fxP.ii ⟨?_, h1.2.wid (by decide) (by decide)⟩
        first
        | (rw [if_pos (by omega)]; done)
        | (rw [if_neg (by omega), if_pos (by omega)]; done)
        | (rw [if_neg (by omega), if_neg (by omega), if_pos (by omega)]; done)
        | (rw [if_neg (by omega), if_neg (by omega), if_neg (by omega)]; done)
      · refine VW.aload_n dX8_pointNow_36 rfl ?_
        refine VW.iload_n dX8_pointNow_37 rfl ?_
        refine VW.pV1 cv_X8_pointNow_X8_stepDirection dX8_pointNow_38 (Nat.le_of_ble_eq_true rfl) (by have := hm.1; omega) hm.2.1 (t_stepDirection hst hm h1.1 ok3 ok4 (by omega) hp) ?_
        refine VW.goto 49 dX8_pointNow_41 (by decide) ?_
        refine VW.ireturn dX8_pointNow_49 rfl rfl ?_
        refine fxP.ii ⟨?_, h1.2.wid (by decide) (by decide)⟩
        first
        | (rw [if_pos (by omega)]; done)
        | (rw [if_neg (by omega), if_pos (by omega)]; done)
        | (rw [if_neg (by omega), if_neg (by omega), if_pos (by omega)]; done)
        | (rw [if_neg (by omega), if_neg (by omega), if_neg (by omega)]; done)
    · refine VW.aload_n dX8_pointNow_22 rfl ?_
      refine VW.getR dX8_pointNow_23 fa_X8_22 (by have := hm.1; omega) hm.2.1 rfl ?_
      refine VW.iload_n dX8_pointNow_26 rfl ?_
      refine VW.iaload dX8_pointNow_27 (by have := hm.1; omega) hm.2.2.2.2.2.2.1 (by omega) (by omega) (by decide) ?_
      rw [h1.1.2.2.2 p (by omega)]
      refine VW.goto 49 dX8_pointNow_28 (by decide) ?_
      refine VW.ireturn dX8_pointNow_49 rfl rfl ?_
      refine fxP.ii ⟨?_, h1.2.wid (by decide) (by decide)⟩
      first
      | (rw [if_pos (by omega)]; done)
      | (rw [if_neg (by omega), if_pos (by omega)]; done)
      | (rw [if_neg (by omega), if_neg (by omega), if_pos (by omega)]; done)
      | (rw [if_neg (by omega), if_neg (by omega), if_neg (by omega)]; done)
  · refine VW.aload_n dX8_pointNow_8 rfl ?_
    refine VW.getR dX8_pointNow_9 fa_X8_19 (by have := hm.1; omega) hm.2.1 rfl ?_
    refine VW.iload_n dX8_pointNow_12 rfl ?_
    refine VW.iaload dX8_pointNow_13 (by have := hm.1; omega) hm.2.2.2.2.2.1 (by omega) (by omega) (by decide) ?_
    rw [h1.1.2.2.1 p hp]
    refine VW.goto 49 dX8_pointNow_14 (by decide) ?_
    refine VW.ireturn dX8_pointNow_49 rfl rfl ?_
    refine fxP.ii ⟨?_, h1.2.wid (by decide) (by decide)⟩
    first
    | (rw [if_pos (by omega)]; done)
    | (rw [if_neg (by omega), if_pos (by omega)]; done)
    | (rw [if_neg (by omega), if_neg (by omega), if_pos (by omega)]; done)
    | (rw [if_neg (by omega), if_neg (by omega), if_neg (by omega)]; done)
theorem t_runNow (hst : l.stackTraces = false) (hm : isM N sh) (hz : zR (μ 274) xs ys C S) (ok : okS ((xs, ys), C, S)) (hp : 0 ≤ p ∧ p ≤ 2147483647) (hw : R32 w) : Zi G l N sh M_X8_runNow [.ref (gB G + 273), vI p, vI w] μ (fun r μ' => r = (if ((rnD xs ys).length : Int) ≤ p then -1 else (if w = 0 then rat (rnD xs ys) p else if w = 1 then rat (rnL xs ys) p else if w = 2 then bI (decide (rat (rnL xs ys) p < rat S 0)) else bI (isCut (rnD xs ys) (rnL xs ys) p (rat S 1)))) ∧ frK aL bN μ μ') := by
  refine Fx.of hst rfl (by decide +kernel) (Nat.le_of_ble_eq_true rfl) rfl ?_
  obtain ⟨⟨ok1, ok2, ok3, ok4⟩, ⟨ok5, ok6, ok7⟩, ok8⟩ := okS.un ok
  obtain ⟨hw5, hw0, hw1, hw2, hw3, hw4⟩ := id ok8
  have z5 : μ 274 5 = (xs.length : Int) := hz.2.1
  have z6 : μ 274 6 = (C.length : Int) := hz.2.2.1
  refine VW.aload_n dX8_runNow_0 rfl ?_
  refine VW.fvV0 cv_X8_runNow_X8_takePath dX8_runNow_1 (Nat.le_of_ble_eq_true rfl) (by have := hm.1; omega) hm.2.1 (t_takePath hst hm hz ⟨ok1, ok2⟩) (fun μ1 h1 => ?_)
  refine VW.aload_n dX8_runNow_4 rfl ?_
  refine VW.fvV0 cv_X8_runNow_X8_layRuns dX8_runNow_5 (Nat.le_of_ble_eq_true rfl) (by have := hm.1; omega) hm.2.1 (t_layRuns hst hm h1.1 ok3 ok4 (by omega)) (fun μ2 h2 => ?_)
  have q1 : μ2 273 11 = ((rnD xs ys).length : Int) := h2.1.1
  have fn : frK aL bN μ μ2 := (h1.2.wid (by decide) (by decide)).tr (h2.2.wid (by decide) (by decide))
  have rk := rn_ok ok3 ok4 (by omega : xs.length ≤ 41)
  have rk1 := rk.1
  have rk2 := rk.2.1
  have z2 := (hz.keep h1.2 (by decide)).keep h2.2 (by decide)
  refine VW.iload_n dX8_runNow_8 rfl ?_
  refine VW.aload_n dX8_runNow_9 rfl ?_
  refine VW.getI dX8_runNow_10 fa_X8_74 (by have := hm.1; omega) hm.2.1 rfl ?_
  refine VW.icmp_lt 18 ⟨by omega, by omega⟩ ⟨by omega, by omega⟩ dX8_runNow_13 (by decide) (fun c13 => ?_) (fun c13 => ?_)
  · refine VW.iload_n dX8_runNow_18 rfl ?_
    refine VW.iconst dX8_runNow_19 ?_
    refine VW.icmp_ne 31 ⟨by omega, by omega⟩ ⟨by omega, by omega⟩ dX8_runNow_20 (by decide) (fun c20 => ?_) (fun c20 => ?_)
    · refine VW.aload_n dX8_runNow_31 rfl ?_
      refine VW.iload_n dX8_runNow_32 rfl ?_
      refine VW.pV1 cv_X8_runNow_X8_isCorner dX8_runNow_33 (Nat.le_of_ble_eq_true rfl) (by have := hm.1; omega) hm.2.1 (t_isCorner hst hm z2 ok8 h2.1 rk (p := p) (by omega)) ?_
      refine VW.istore_n (lv' := [(0, _), (1, _), (2, _), (3, _)]) dX8_runNow_36 (by decide) rfl ?_
      refine VW.iload_n dX8_runNow_37 rfl ?_
      refine VW.if_ne 50 ⟨by omega, by omega⟩ dX8_runNow_38 (by decide) (fun c38 => ?_) (fun c38 => ?_)
      · refine VW.iload_n dX8_runNow_50 rfl ?_
        refine VW.iconst dX8_runNow_51 ?_
        refine VW.icmp_ne 64 ⟨by omega, by omega⟩ ⟨by omega, by omega⟩ dX8_runNow_52 (by decide) (fun c52 => ?_) (fun c52 => ?_)
        · refine VW.iload_n dX8_runNow_64 rfl ?_
          refine VW.if_eq 72 (bR2 _) dX8_runNow_65 (by decide) (fun c65 => ?_) (fun c65 => ?_)
          · refine VW.iconst dX8_runNow_72 ?_
            refine VW.ireturn dX8_runNow_73 rfl rfl ?_
            refine fxP.ii ⟨?_, fn⟩
            rw [if_neg (by omega)]
            first
            | (rw [if_pos (by omega)]; done)
            | (rw [if_neg (by omega), if_pos (by omega)]; done)
            | (rw [if_neg (by omega), if_neg (by omega), if_pos (by omega)]; have bb := bI_b (decide (rat (rnL xs ys) p < rat S 0)); omega)
            | (rw [if_neg (by omega), if_neg (by omega), if_neg (by omega)]; have bb := bI_b (isCut (rnD xs ys) (rnL xs ys) p (rat S 1)); omega)
          · refine VW.iconst dX8_runNow_68 ?_
            refine VW.goto 73 dX8_runNow_69 (by decide) ?_
            refine VW.ireturn dX8_runNow_73 rfl rfl ?_
            refine fxP.ii ⟨?_, fn⟩
            rw [if_neg (by omega)]
            first
            | (rw [if_pos (by omega)]; done)
            | (rw [if_neg (by omega), if_pos (by omega)]; done)
            | (rw [if_neg (by omega), if_neg (by omega), if_pos (by omega)]; have bb := bI_b (decide (rat (rnL xs ys) p < rat S 0)); omega)
            | (rw [if_neg (by omega), if_neg (by omega), if_neg (by omega)]; have bb := bI_b (isCut (rnD xs ys) (rnL xs ys) p (rat S 1)); omega)
        · refine VW.aload_n dX8_runNow_55 rfl ?_
          refine VW.getR dX8_runNow_56 fa_X8_28 (by have := hm.1; omega) hm.2.1 rfl ?_
          refine VW.iload_n dX8_runNow_59 rfl ?_
          refine VW.iaload dX8_runNow_60 (by have := hm.1; omega) hm.2.2.2.2.2.2.2.2.1 (by omega) (by omega) (by decide) ?_
          rw [h2.1.ln p (by omega)]
          refine VW.goto 73 dX8_runNow_61 (by decide) ?_
          refine VW.ireturn dX8_runNow_73 rfl rfl ?_
          refine fxP.ii ⟨?_, fn⟩
          rw [if_neg (by omega)]
          first
          | (rw [if_pos (by omega)]; done)
          | (rw [if_neg (by omega), if_pos (by omega)]; done)
          | (rw [if_neg (by omega), if_neg (by omega), if_pos (by omega)]; have bb := bI_b (decide (rat (rnL xs ys) p < rat S 0)); omega)
          | (rw [if_neg (by omega), if_neg (by omega), if_neg (by omega)]; have bb := bI_b (isCut (rnD xs ys) (rnL xs ys) p (rat S 1)); omega)
      · refine VW.aload_n dX8_runNow_41 rfl ?_
        refine VW.getR dX8_runNow_42 fa_X8_25 (by have := hm.1; omega) hm.2.1 rfl ?_
        refine VW.iload_n dX8_runNow_45 rfl ?_
        refine VW.iaload dX8_runNow_46 (by have := hm.1; omega) hm.2.2.2.2.2.2.2.1 (by omega) (by omega) (by decide) ?_
        rw [h2.1.d p (by omega)]
        refine VW.goto 73 dX8_runNow_47 (by decide) ?_
        refine VW.ireturn dX8_runNow_73 rfl rfl ?_
        refine fxP.ii ⟨?_, fn⟩
        rw [if_neg (by omega)]
        first
        | (rw [if_pos (by omega)]; done)
        | (rw [if_neg (by omega), if_pos (by omega)]; done)
        | (rw [if_neg (by omega), if_neg (by omega), if_pos (by omega)]; have bb := bI_b (decide (rat (rnL xs ys) p < rat S 0)); omega)
        | (rw [if_neg (by omega), if_neg (by omega), if_neg (by omega)]; have bb := bI_b (isCut (rnD xs ys) (rnL xs ys) p (rat S 1)); omega)
    · refine VW.aload_n dX8_runNow_23 rfl ?_
      refine VW.iload_n dX8_runNow_24 rfl ?_
      refine VW.pV1 cv_X8_runNow_X8_isShort dX8_runNow_25 (Nat.le_of_ble_eq_true rfl) (by have := hm.1; omega) hm.2.1 (t_isShort hst hm z2 ok8 h2.1 rk (p := p) (by omega)) ?_
      refine VW.goto 36 dX8_runNow_28 (by decide) ?_
      refine VW.istore_n (lv' := [(0, _), (1, _), (2, _), (3, _)]) dX8_runNow_36 (by decide) rfl ?_
      refine VW.iload_n dX8_runNow_37 rfl ?_
      refine VW.if_ne 50 ⟨by omega, by omega⟩ dX8_runNow_38 (by decide) (fun c38 => ?_) (fun c38 => ?_)
      · refine VW.iload_n dX8_runNow_50 rfl ?_
        refine VW.iconst dX8_runNow_51 ?_
        refine VW.icmp_ne 64 ⟨by omega, by omega⟩ ⟨by omega, by omega⟩ dX8_runNow_52 (by decide) (fun c52 => ?_) (fun c52 => ?_)
        · refine VW.iload_n dX8_runNow_64 rfl ?_
          refine VW.if_eq 72 (bR2 _) dX8_runNow_65 (by decide) (fun c65 => ?_) (fun c65 => ?_)
          · refine VW.iconst dX8_runNow_72 ?_
            refine VW.ireturn dX8_runNow_73 rfl rfl ?_
            refine fxP.ii ⟨?_, fn⟩
            rw [if_neg (by omega)]
            first
            | (rw [if_pos (by omega)]; done)
            | (rw [if_neg (by omega), if_pos (by omega)]; done)
            | (rw [if_neg (by omega), if_neg (by omega), if_pos (by omega)]; have bb := bI_b (decide (rat (rnL xs ys) p < rat S 0)); omega)
            | (rw [if_neg (by omega), if_neg (by omega), if_neg (by omega)]; have bb := bI_b (isCut (rnD xs ys) (rnL xs ys) p (rat S 1)); omega)
          · refine VW.iconst dX8_runNow_68 ?_
            refine VW.goto 73 dX8_runNow_69 (by decide) ?_
            refine VW.ireturn dX8_runNow_73 rfl rfl ?_
            refine fxP.ii ⟨?_, fn⟩
            rw [if_neg (by omega)]
            first
            | (rw [if_pos (by omega)]; done)
            | (rw [if_neg (by omega), if_pos (by omega)]; done)
            | (rw [if_neg (by omega), if_neg (by omega), if_pos (by omega)]; have bb := bI_b (decide (rat (rnL xs ys) p < rat S 0)); omega)
            | (rw [if_neg (by omega), if_neg (by omega), if_neg (by omega)]; have bb := bI_b (isCut (rnD xs ys) (rnL xs ys) p (rat S 1)); omega)
        · refine VW.aload_n dX8_runNow_55 rfl ?_
          refine VW.getR dX8_runNow_56 fa_X8_28 (by have := hm.1; omega) hm.2.1 rfl ?_
          refine VW.iload_n dX8_runNow_59 rfl ?_
          refine VW.iaload dX8_runNow_60 (by have := hm.1; omega) hm.2.2.2.2.2.2.2.2.1 (by omega) (by omega) (by decide) ?_
          rw [h2.1.ln p (by omega)]
          refine VW.goto 73 dX8_runNow_61 (by decide) ?_
          refine VW.ireturn dX8_runNow_73 rfl rfl ?_
          refine fxP.ii ⟨?_, fn⟩
          rw [if_neg (by omega)]
          first
          | (rw [if_pos (by omega)]; done)
          | (rw [if_neg (by omega), if_pos (by omega)]; done)
          | (rw [if_neg (by omega), if_neg (by omega), if_pos (by omega)]; have bb := bI_b (decide (rat (rnL xs ys) p < rat S 0)); omega)
          | (rw [if_neg (by omega), if_neg (by omega), if_neg (by omega)]; have bb := bI_b (isCut (rnD xs ys) (rnL xs ys) p (rat S 1)); omega)
      · refine VW.aload_n dX8_runNow_41 rfl ?_
        refine VW.getR dX8_runNow_42 fa_X8_25 (by have := hm.1; omega) hm.2.1 rfl ?_
        refine VW.iload_n dX8_runNow_45 rfl ?_
        refine VW.iaload dX8_runNow_46 (by have := hm.1; omega) hm.2.2.2.2.2.2.2.1 (by omega) (by omega) (by decide) ?_
        rw [h2.1.d p (by omega)]
        refine VW.goto 73 dX8_runNow_47 (by decide) ?_
        refine VW.ireturn dX8_runNow_73 rfl rfl ?_
        refine fxP.ii ⟨?_, fn⟩
        rw [if_neg (by omega)]
        first
        | (rw [if_pos (by omega)]; done)
        | (rw [if_neg (by omega), if_pos (by omega)]; done)
        | (rw [if_neg (by omega), if_neg (by omega), if_pos (by omega)]; have bb := bI_b (decide (rat (rnL xs ys) p < rat S 0)); omega)
        | (rw [if_neg (by omega), if_neg (by omega), if_neg (by omega)]; have bb := bI_b (isCut (rnD xs ys) (rnL xs ys) p (rat S 1)); omega)
  · refine VW.iconst dX8_runNow_16 ?_
    refine VW.ireturn dX8_runNow_17 rfl rfl ?_
    exact fxP.ii ⟨(if_pos (by omega)).symm, fn⟩
theorem t_strokeNow (hst : l.stackTraces = false) (hm : isM N sh) (hz : zR (μ 274) xs ys C S) (ok : okS ((xs, ys), C, S)) (hp : 0 ≤ p ∧ p ≤ 2147483647) : Zi G l N sh M_X8_strokeNow [.ref (gB G + 273), vI p] μ (fun r μ' => r = rat (stk xs ys S) p ∧ frK aL bN μ μ') := by
  refine Fx.of hst rfl (by decide +kernel) (Nat.le_of_ble_eq_true rfl) rfl ?_
  obtain ⟨⟨ok1, ok2, ok3, ok4⟩, ⟨ok5, ok6, ok7⟩, ok8⟩ := okS.un ok
  obtain ⟨hw5, hw0, hw1, hw2, hw3, hw4⟩ := id ok8
  have z5 : μ 274 5 = (xs.length : Int) := hz.2.1
  have z6 : μ 274 6 = (C.length : Int) := hz.2.2.1
  refine VW.aload_n dX8_strokeNow_0 rfl ?_
  refine VW.fvV0 cv_X8_strokeNow_X8_pathStroke dX8_strokeNow_1 (Nat.le_of_ble_eq_true rfl) (by have := hm.1; omega) hm.2.1 (t_pathStroke hst hm hz ok) (fun μ1 h1 => ?_)
  obtain ⟨h1q, h1k, h1f⟩ := h1
  have z1 := hz.keep h1f (by decide)
  have sk := stk_ok (S := S) ok3 ok4 (by omega : xs.length ≤ 41)
  have fn : frK aL bN μ μ1 := h1f.wid (by decide) (by decide)
  have k1 : μ1 273 13 = ((stk xs ys S).length : Int) := h1k.1
  have sk1 := sk.1
  refine VW.iload_n dX8_strokeNow_4 rfl ?_
  refine VW.aload_n dX8_strokeNow_5 rfl ?_
  refine VW.getI dX8_strokeNow_6 fa_X8_107 (by have := hm.1; omega) hm.2.1 rfl ?_
  refine VW.icmp_ge 21 ⟨by omega, by omega⟩ ⟨by omega, by omega⟩ dX8_strokeNow_9 (by decide) (fun c9 => ?_) (fun c9 => ?_)
  · refine VW.iconst dX8_strokeNow_21 ?_
    refine VW.ireturn dX8_strokeNow_22 rfl rfl ?_
    refine fxP.ii ⟨?_, fn⟩
    first
    | rfl
    | (rw [rat_out (by omega)])
  · refine VW.aload_n dX8_strokeNow_12 rfl ?_
    refine VW.getR dX8_strokeNow_13 fa_X8_31 (by have := hm.1; omega) hm.2.1 rfl ?_
    refine VW.iload_n dX8_strokeNow_16 rfl ?_
    refine VW.iaload dX8_strokeNow_17 (by have := hm.1; omega) hm.2.2.2.2.2.2.2.2.2.1 (by omega) (by omega) (by decide) ?_
    rw [h1k.2 p (by omega)]
    refine VW.goto 22 dX8_strokeNow_18 (by decide) ?_
    refine VW.ireturn dX8_strokeNow_22 rfl rfl ?_
    refine fxP.ii ⟨?_, fn⟩
    first
    | rfl
    | (rw [rat_out (by omega)])
theorem t_pathDistance (hst : l.stackTraces = false) (hm : isM N sh) (hz : zR (μ 274) xs ys C S) (ok : okS ((xs, ys), C, S)) (hc : 0 ≤ c ∧ c < C.length) : Zi G l N sh M_X8_pathDistance [.ref (gB G + 273), vI c] μ (fun r μ' => r = dstOf S (stk xs ys S) (C.getD c.toNat []) ∧ frK aL bN μ μ') := by
  refine Fx.of hst rfl (by decide +kernel) (Nat.le_of_ble_eq_true rfl) rfl ?_
  obtain ⟨⟨ok1, ok2, ok3, ok4⟩, ⟨ok5, ok6, ok7⟩, ok8⟩ := okS.un ok
  obtain ⟨hw5, hw0, hw1, hw2, hw3, hw4⟩ := id ok8
  have z5 : μ 274 5 = (xs.length : Int) := hz.2.1
  have z6 : μ 274 6 = (C.length : Int) := hz.2.2.1
  refine VW.aload_n dX8_pathDistance_0 rfl ?_
  refine VW.fvV0 cv_X8_pathDistance_X8_pathStroke dX8_pathDistance_1 (Nat.le_of_ble_eq_true rfl) (by have := hm.1; omega) hm.2.1 (t_pathStroke hst hm hz ok) (fun μ1 h1 => ?_)
  obtain ⟨h1q, h1k, h1f⟩ := h1
  have z1 := hz.keep h1f (by decide)
  have sk := stk_ok (S := S) ok3 ok4 (by omega : xs.length ≤ 41)
  have fn : frK aL bN μ μ1 := h1f.wid (by decide) (by decide)
  refine VW.aload_n dX8_pathDistance_4 rfl ?_
  refine VW.iload_n dX8_pathDistance_5 rfl ?_
  refine VW.fiV1 cv_X8_pathDistance_X8_distanceFrom dX8_pathDistance_6 (Nat.le_of_ble_eq_true rfl) (by have := hm.1; omega) hm.2.1 (t_distanceFrom hst hm z1 ok hc h1k sk.1 sk.2) (fun r2 μ2 h2 => ?_)
  obtain ⟨rfl, h2s, h2f⟩ := h2
  refine VW.ireturn dX8_pathDistance_9 rfl rfl ?_
  exact fxP.ii ⟨rfl, fn.tr (h2f.wid (by decide) (by decide))⟩
theorem t_nearestDistance (hst : l.stackTraces = false) (hm : isM N sh) (hz : zR (μ 274) xs ys C S) (ok : okS ((xs, ys), C, S)) (hK : hasK μ D) (hDl : D.length ≤ 40) (hDb : bnd D 0 7) : Zi G l N sh M_X8_nearestDistance [.ref (gB G + 273)] μ (fun r μ' => r = rat (C.map (dstOf S D)) (nbut (C.map (dstOf S D)) (-1)) ∧ frK [282] [] μ μ') := by
  refine Fx.of hst rfl (by decide +kernel) (Nat.le_of_ble_eq_true rfl) rfl ?_
  obtain ⟨⟨ok1, ok2, ok3, ok4⟩, ⟨ok5, ok6, ok7⟩, ok8⟩ := okS.un ok
  obtain ⟨hw5, hw0, hw1, hw2, hw3, hw4⟩ := id ok8
  have z5 : μ 274 5 = (xs.length : Int) := hz.2.1
  have z6 : μ 274 6 = (C.length : Int) := hz.2.2.1
  refine VW.aload_n dX8_nearestDistance_0 rfl ?_
  refine VW.iconst dX8_nearestDistance_1 ?_
  refine VW.fiV1 cv_X8_nearestDistance_X8_nearest dX8_nearestDistance_2 (Nat.le_of_ble_eq_true rfl) (by have := hm.1; omega) hm.2.1 (t_nearest hst hm hz ok hK hDl hDb (w := -1) (by decide)) (fun r1 μ1 h1 => ?_)
  obtain ⟨rfl, h1f⟩ := h1
  have nbb := nbut_b (C.map (dstOf S D)) (-1)
  rw [List.length_map] at nbb
  refine VW.istore_n (lv' := [(0, _), (1, _)]) dX8_nearestDistance_5 (by decide) rfl ?_
  refine VW.iload_n dX8_nearestDistance_6 rfl ?_
  refine VW.iconst dX8_nearestDistance_7 ?_
  refine VW.icmp_ne 15 ⟨by omega, by omega⟩ ⟨by omega, by omega⟩ dX8_nearestDistance_8 (by decide) (fun c8 => ?_) (fun c8 => ?_)
  · refine VW.aload_n dX8_nearestDistance_15 rfl ?_
    refine VW.iload_n dX8_nearestDistance_16 rfl ?_
    refine VW.fiV1 cv_X8_nearestDistance_X8_distanceFrom dX8_nearestDistance_17 (Nat.le_of_ble_eq_true rfl) (by have := hm.1; omega) hm.2.1 (t_distanceFrom hst hm (hz.keep h1f (by decide)) ok (c := nbut (C.map (dstOf S D)) (-1)) ⟨by omega, by omega⟩ (hK.keep h1f (by decide) (by decide)) hDl hDb) (fun r2 μ2 h2 => ?_)
    obtain ⟨rfl, -, h2f⟩ := h2
    have hdm := rat_map (dstOf S D) (C := C) (c := nbut (C.map (dstOf S D)) (-1)) ⟨by omega, by omega⟩
    refine VW.ireturn dX8_nearestDistance_20 rfl rfl ?_
    first
    | exact fxP.ii ⟨hdm.symm, h1f.tr h2f⟩
    | exact fxP.ii ⟨(rat_out (by omega)).symm, h1f⟩
  · refine VW.iconst dX8_nearestDistance_11 ?_
    refine VW.goto 20 dX8_nearestDistance_12 (by decide) ?_
    refine VW.ireturn dX8_nearestDistance_20 rfl rfl ?_
    first
    | exact fxP.ii ⟨hdm.symm, h1f.tr h2f⟩
    | exact fxP.ii ⟨(rat_out (by omega)).symm, h1f⟩
theorem t_readingNow (hst : l.stackTraces = false) (hm : isM N sh) (hz : zR (μ 274) xs ys C S) (ok : okS ((xs, ys), C, S)) (hw : 0 ≤ w ∧ w ≤ 4) : Zi G l N sh M_X8_readingNow [.ref (gB G + 273), vI w] μ (fun r μ' => r = (if w = 0 then readOf (rnD xs ys).length (dsts xs ys C S) (rat S 4) else if w = 1 then nbut (dsts xs ys C S) (-1) else if w = 2 then rat (dsts xs ys C S) (nbut (dsts xs ys C S) (-1)) else if w = 3 then maskOf (rsts xs ys C S) else comeOf (rsts xs ys C S)) ∧ frK aL bN μ μ') := by
  refine Fx.of hst rfl (by decide +kernel) (Nat.le_of_ble_eq_true rfl) rfl ?_
  obtain ⟨⟨ok1, ok2, ok3, ok4⟩, ⟨ok5, ok6, ok7⟩, ok8⟩ := okS.un ok
  obtain ⟨hw5, hw0, hw1, hw2, hw3, hw4⟩ := id ok8
  have z5 : μ 274 5 = (xs.length : Int) := hz.2.1
  have z6 : μ 274 6 = (C.length : Int) := hz.2.2.1
  refine VW.aload_n dX8_readingNow_0 rfl ?_
  refine VW.fvV0 cv_X8_readingNow_X8_pathStroke dX8_readingNow_1 (Nat.le_of_ble_eq_true rfl) (by have := hm.1; omega) hm.2.1 (t_pathStroke hst hm hz ok) (fun μ1 h1 => ?_)
  obtain ⟨h1q, h1k, h1f⟩ := h1
  have z1 := hz.keep h1f (by decide)
  have sk := stk_ok (S := S) ok3 ok4 (by omega : xs.length ≤ 41)
  have fn : frK aL bN μ μ1 := h1f.wid (by decide) (by decide)
  refine VW.iload_n dX8_readingNow_4 rfl ?_
  by_cases hsw : 0 ≤ w ∧ w ≤ 3
  · have hcs : w = 0 ∨ w = 1 ∨ w = 2 ∨ w = 3 := by omega
    rcases hcs with hcv | hcv | hcv | hcv
    · refine VW.tswIn 36 ⟨by omega, by omega⟩ dX8_readingNow_5 (by omega) (by omega) (by rw [hcv]; rfl) (by decide) ?_
      refine VW.aload_n dX8_readingNow_36 rfl ?_
      refine VW.fiV0 cv_X8_readingNow_X8_readAs dX8_readingNow_37 (Nat.le_of_ble_eq_true rfl) (by have := hm.1; omega) hm.2.1 (t_readAs hst hm z1 ok h1k sk.1 sk.2) (fun r2 μ2 h2 => ?_)
      refine VW.ireturn dX8_readingNow_40 rfl rfl ?_
      obtain ⟨rfl, h2f⟩ := h2
      subst hcv
      exact fxP.ii ⟨readOf_c (by have := stk_pos xs ys S; omega), fn.tr (h2f.wid (by decide) (by decide))⟩
    · refine VW.tswIn 41 ⟨by omega, by omega⟩ dX8_readingNow_5 (by omega) (by omega) (by rw [hcv]; rfl) (by decide) ?_
      refine VW.aload_n dX8_readingNow_41 rfl ?_
      refine VW.iconst dX8_readingNow_42 ?_
      refine VW.fiV1 cv_X8_readingNow_X8_nearest dX8_readingNow_43 (Nat.le_of_ble_eq_true rfl) (by have := hm.1; omega) hm.2.1 (t_nearest hst hm z1 ok h1k sk.1 sk.2 (w := -1) (by decide)) (fun r2 μ2 h2 => ?_)
      refine VW.ireturn dX8_readingNow_46 rfl rfl ?_
      obtain ⟨rfl, h2f⟩ := h2
      subst hcv
      exact fxP.ii ⟨rfl, fn.tr (h2f.wid (by decide) (by decide))⟩
    · refine VW.tswIn 47 ⟨by omega, by omega⟩ dX8_readingNow_5 (by omega) (by omega) (by rw [hcv]; rfl) (by decide) ?_
      refine VW.aload_n dX8_readingNow_47 rfl ?_
      refine VW.fiV0 cv_X8_readingNow_X8_nearestDistance dX8_readingNow_48 (Nat.le_of_ble_eq_true rfl) (by have := hm.1; omega) hm.2.1 (t_nearestDistance hst hm z1 ok h1k sk.1 sk.2) (fun r2 μ2 h2 => ?_)
      refine VW.ireturn dX8_readingNow_51 rfl rfl ?_
      obtain ⟨rfl, h2f⟩ := h2
      subst hcv
      exact fxP.ii ⟨rfl, fn.tr (h2f.wid (by decide) (by decide))⟩
    · refine VW.tswIn 52 ⟨by omega, by omega⟩ dX8_readingNow_5 (by omega) (by omega) (by rw [hcv]; rfl) (by decide) ?_
      refine VW.aload_n dX8_readingNow_52 rfl ?_
      refine VW.fiV0 cv_X8_readingNow_X8_canBecome dX8_readingNow_53 (Nat.le_of_ble_eq_true rfl) (by have := hm.1; omega) hm.2.1 (t_canBecome hst hm z1 ok h1k sk.1 sk.2) (fun r2 μ2 h2 => ?_)
      refine VW.ireturn dX8_readingNow_56 rfl rfl ?_
      obtain ⟨rfl, h2f⟩ := h2
      subst hcv
      exact fxP.ii ⟨rfl, fn.tr (h2f.wid (by decide) (by decide))⟩
  · refine VW.tswOut 57 ⟨by omega, by omega⟩ dX8_readingNow_5 (by omega) (by decide) ?_
    refine VW.aload_n dX8_readingNow_57 rfl ?_
    refine VW.fiV0 cv_X8_readingNow_X8_toCome dX8_readingNow_58 (Nat.le_of_ble_eq_true rfl) (by have := hm.1; omega) hm.2.1 (t_toCome hst hm z1 ok h1k sk.1 sk.2) (fun r2 μ2 h2 => ?_)
    refine VW.ireturn dX8_readingNow_61 rfl rfl ?_
    obtain ⟨rfl, h2f⟩ := h2
    obtain rfl : w = 4 := by omega
    exact fxP.ii ⟨rfl, fn.tr (h2f.wid (by decide) (by decide))⟩
theorem t_manyRuns (hst : l.stackTraces = false) (hm : isM N sh) (hz : zR (μ 274) xs ys C S) (ok : okS ((xs, ys), C, S)) : Zi G l N sh M_X8_manyRuns [.ref (gB G + 273)] μ (fun r μ' => r = ((rnD xs ys).length : Int) ∧ hasMP μ' xs ys ∧ hasR μ' (rnD xs ys, rnL xs ys) ∧ frK aL bN μ μ') := by
  refine Fx.of hst rfl (by decide +kernel) (Nat.le_of_ble_eq_true rfl) rfl ?_
  obtain ⟨⟨ok1, ok2, ok3, ok4⟩, ⟨ok5, ok6, ok7⟩, ok8⟩ := okS.un ok
  obtain ⟨hw5, hw0, hw1, hw2, hw3, hw4⟩ := id ok8
  have z5 : μ 274 5 = (xs.length : Int) := hz.2.1
  have z6 : μ 274 6 = (C.length : Int) := hz.2.2.1
  refine VW.aload_n dX8_manyRuns_0 rfl ?_
  refine VW.fvV0 cv_X8_manyRuns_X8_takePath dX8_manyRuns_1 (Nat.le_of_ble_eq_true rfl) (by have := hm.1; omega) hm.2.1 (t_takePath hst hm hz ⟨ok1, ok2⟩) (fun μ1 h1 => ?_)
  refine VW.aload_n dX8_manyRuns_4 rfl ?_
  refine VW.fvV0 cv_X8_manyRuns_X8_layRuns dX8_manyRuns_5 (Nat.le_of_ble_eq_true rfl) (by have := hm.1; omega) hm.2.1 (t_layRuns hst hm h1.1 ok3 ok4 (by omega)) (fun μ2 h2 => ?_)
  have q1 : μ2 273 11 = ((rnD xs ys).length : Int) := h2.1.1
  refine VW.aload_n dX8_manyRuns_8 rfl ?_
  refine VW.getI dX8_manyRuns_9 fa_X8_74 (by have := hm.1; omega) hm.2.1 rfl ?_
  refine VW.ireturn dX8_manyRuns_12 rfl rfl ?_
  exact fxP.ii ⟨q1, h1.1.keep h2.2 (by decide) (by decide) (by decide), h2.1, (h1.2.wid (by decide) (by decide)).tr (h2.2.wid (by decide) (by decide))⟩
variable {Ln2 : List Int}
theorem lp_X8_pl (hst : l.stackTraces = false) (hm : isM N sh) (hL : arr μ 280 Ln) (h40 : Ln.length ≤ 40) : ∀ (n : Nat) (i s : Int), 0 ≤ i → i + n = Ln.length → s = (Ln.take i.toNat).sum → VW G l none M_X8_pathLength 9 [(0, .ref (gB G + 273)), (1, vI (Ln.length : Int)), (2, vI s), (3, vI i)] [] (N, sh, μ) 0 0 (fxP N sh (oN (vN_i (fun r μ' => r = Ln.sum ∧ μ' = μ)))) := by
  intro n
  induction n with
  | zero =>
    intro i s h1 h2 hs
    refine VW.iload_n dX8_pathLength_9 rfl ?_
    refine VW.iload_n dX8_pathLength_10 rfl ?_
    refine VW.icmp_ge 29 ⟨by omega, by omega⟩ ⟨by omega, by omega⟩ dX8_pathLength_11 (by decide) (fun c11 => ?_) (fun c11 => by omega)
    refine VW.iload_n dX8_pathLength_29 rfl ?_
    refine VW.ireturn dX8_pathLength_30 rfl rfl ?_
    refine fxP.ii ⟨?_, rfl⟩
    rw [hs, List.take_of_length_le (by omega)]
  | succ n ih =>
    intro i s h1 h2 hs
    refine VW.iload_n dX8_pathLength_9 rfl ?_
    refine VW.iload_n dX8_pathLength_10 rfl ?_
    refine VW.icmp_ge 29 ⟨by omega, by omega⟩ ⟨by omega, by omega⟩ dX8_pathLength_11 (by decide) (fun c11 => by omega) (fun c11 => ?_)
    refine VW.iload_n dX8_pathLength_14 rfl ?_
    refine VW.aload_n dX8_pathLength_15 rfl ?_
    refine VW.getR dX8_pathLength_16 fa_X8_28 (by have := hm.1; omega) hm.2.1 rfl ?_
    refine VW.iload_n dX8_pathLength_19 rfl ?_
    refine VW.iaload dX8_pathLength_20 (by have := hm.1; omega) hm.2.2.2.2.2.2.2.2.1 (by omega) (by omega) (by decide) ?_
    rw [hL i (by omega)]
    refine VW.iadd dX8_pathLength_21 ?_
    refine VW.istore_n (lv' := [(0, _), (1, _), (2, _), (3, _)]) dX8_pathLength_22 (by decide) rfl ?_
    refine VW.iinc (lv' := [(0, _), (1, _), (2, _), (3, _)]) dX8_pathLength_23 rfl (by decide) rfl ?_
    refine VW.goto 9 dX8_pathLength_26 (by decide) ?_
    exact ih (i + 1) _ (by omega) (by omega) (by rw [hs, take_snoc Ln (by omega), List.sum_append]; simp)
theorem t_pathLength (hst : l.stackTraces = false) (hm : isM N sh) (hz : zR (μ 274) xs ys C S) (ok : okS ((xs, ys), C, S)) : Zi G l N sh M_X8_pathLength [.ref (gB G + 273)] μ (fun r μ' => r = (rnL xs ys).sum ∧ hasMP μ' xs ys ∧ frK aL bN μ μ') := by
  refine Fx.of hst rfl (by decide +kernel) (Nat.le_of_ble_eq_true rfl) rfl ?_
  obtain ⟨⟨ok1, ok2, ok3, ok4⟩, ⟨ok5, ok6, ok7⟩, ok8⟩ := okS.un ok
  obtain ⟨hw5, hw0, hw1, hw2, hw3, hw4⟩ := id ok8
  have z5 : μ 274 5 = (xs.length : Int) := hz.2.1
  have z6 : μ 274 6 = (C.length : Int) := hz.2.2.1
  refine VW.aload_n dX8_pathLength_0 rfl ?_
  refine VW.fiV0 cv_X8_pathLength_X8_manyRuns dX8_pathLength_1 (Nat.le_of_ble_eq_true rfl) (by have := hm.1; omega) hm.2.1 (t_manyRuns hst hm hz ok) (fun r1 μ1 h1 => ?_)
  obtain ⟨rfl, h1p, h1q, h1f⟩ := h1
  have rk := rn_ok ok3 ok4 (by omega : xs.length ≤ 41)
  have rk1 := rk.1
  have rk2 := rk.2.1
  refine VW.istore_n (lv' := [(0, _), (1, _)]) dX8_pathLength_4 (by decide) rfl ?_
  refine VW.iconst dX8_pathLength_5 ?_
  refine VW.istore_n (lv' := [(0, _), (1, _), (2, _)]) dX8_pathLength_6 (by decide) rfl ?_
  refine VW.iconst dX8_pathLength_7 ?_
  refine VW.istore_n (lv' := [(0, _), (1, _), (2, _), (3, _)]) dX8_pathLength_8 (by decide) rfl ?_
  rw [show ((rnD xs ys).length : Int) = ((rnL xs ys).length : Int) by omega]
  refine VW.mono (lp_X8_pl hst hm h1q.ln (by omega) (rnL xs ys).length 0 0 (by omega) (by omega) (by simp)) ?_
  rintro r ⟨oo, μ', rfl, v, rfl, a, rfl, rfl, rfl⟩
  exact fxP.ii ⟨rfl, h1p, h1f⟩
theorem t_manyDropped (hst : l.stackTraces = false) (hm : isM N sh) (hz : zR (μ 274) xs ys C S) (ok : okS ((xs, ys), C, S)) : Zi G l N sh M_X8_manyDropped [.ref (gB G + 273)] μ (fun r μ' => r = (fgvOf xs ys S).2 ∧ frK aL bN μ μ') := by
  refine Fx.of hst rfl (by decide +kernel) (Nat.le_of_ble_eq_true rfl) rfl ?_
  obtain ⟨⟨ok1, ok2, ok3, ok4⟩, ⟨ok5, ok6, ok7⟩, ok8⟩ := okS.un ok
  obtain ⟨hw5, hw0, hw1, hw2, hw3, hw4⟩ := id ok8
  have z5 : μ 274 5 = (xs.length : Int) := hz.2.1
  have z6 : μ 274 6 = (C.length : Int) := hz.2.2.1
  refine VW.aload_n dX8_manyDropped_0 rfl ?_
  refine VW.fiV0 cv_X8_manyDropped_X8_manyRuns dX8_manyDropped_1 (Nat.le_of_ble_eq_true rfl) (by have := hm.1; omega) hm.2.1 (t_manyRuns hst hm hz ok) (fun r1 μ1 h1 => ?_)
  obtain ⟨rfl, h1p, h1q, h1f⟩ := h1
  have rk := rn_ok ok3 ok4 (by omega : xs.length ≤ 41)
  refine VW.istore_n (lv' := [(0, _), (1, _)]) dX8_manyDropped_4 (by decide) rfl ?_
  refine VW.aload_n dX8_manyDropped_5 rfl ?_
  refine VW.fiV0 cv_X8_manyDropped_X8_forgive dX8_manyDropped_6 (Nat.le_of_ble_eq_true rfl) (by have := hm.1; omega) hm.2.1 (t_forgive hst hm (hz.keep h1f (by decide)) ok8 h1q rk) (fun r2 μ2 h2 => ?_)
  refine VW.ireturn dX8_manyDropped_9 rfl rfl ?_
  exact fxP.ii ⟨h2.1, h1f.tr (h2.2.2.wid (by decide) (by decide))⟩
theorem t_manyDirections (hst : l.stackTraces = false) (hm : isM N sh) (hz : zR (μ 274) xs ys C S) (ok : okS ((xs, ys), C, S)) : Zi G l N sh M_X8_manyDirections [.ref (gB G + 273)] μ (fun r μ' => r = ((stk xs ys S).length : Int) ∧ frK aL bN μ μ') := by
  refine Fx.of hst rfl (by decide +kernel) (Nat.le_of_ble_eq_true rfl) rfl ?_
  obtain ⟨⟨ok1, ok2, ok3, ok4⟩, ⟨ok5, ok6, ok7⟩, ok8⟩ := okS.un ok
  obtain ⟨hw5, hw0, hw1, hw2, hw3, hw4⟩ := id ok8
  have z5 : μ 274 5 = (xs.length : Int) := hz.2.1
  have z6 : μ 274 6 = (C.length : Int) := hz.2.2.1
  refine VW.aload_n dX8_manyDirections_0 rfl ?_
  refine VW.fvV0 cv_X8_manyDirections_X8_pathStroke dX8_manyDirections_1 (Nat.le_of_ble_eq_true rfl) (by have := hm.1; omega) hm.2.1 (t_pathStroke hst hm hz ok) (fun μ1 h1 => ?_)
  obtain ⟨h1q, h1k, h1f⟩ := h1
  have z1 := hz.keep h1f (by decide)
  have sk := stk_ok (S := S) ok3 ok4 (by omega : xs.length ≤ 41)
  have fn : frK aL bN μ μ1 := h1f.wid (by decide) (by decide)
  refine VW.aload_n dX8_manyDirections_4 rfl ?_
  refine VW.getI dX8_manyDirections_5 fa_X8_107 (by have := hm.1; omega) hm.2.1 rfl ?_
  refine VW.ireturn dX8_manyDirections_8 rfl rfl ?_
  exact fxP.ii ⟨h1k.1, fn⟩
theorem lp_X8_ad (hst : l.stackTraces = false) (hm : isM N sh) (hz : zR (μ 274) xs ys C S) (ok : okS ((xs, ys), C, S)) : ∀ (n : Nat) (i s : Int), 0 ≤ i → i + n = C.length → s = ((C.take i.toNat).map (fun L => (L.length : Int))).sum → VW G l none M_X8_allDirections 4 [(0, .ref (gB G + 273)), (1, vI s), (2, vI i)] [] (N, sh, μ) 0 0 (fxP N sh (oN (vN_i (fun r μ' => r = (C.map (fun L => (L.length : Int))).sum ∧ μ' = μ)))) := by
  obtain ⟨⟨ok1, ok2, ok3, ok4⟩, ⟨ok5, ok6, ok7⟩, ok8⟩ := okS.un ok
  obtain ⟨hw5, hw0, hw1, hw2, hw3, hw4⟩ := id ok8
  have z5 : μ 274 5 = (xs.length : Int) := hz.2.1
  have z6 : μ 274 6 = (C.length : Int) := hz.2.2.1
  intro n
  induction n with
  | zero =>
    intro i s h1 h2 hs
    refine VW.iload_n dX8_allDirections_4 rfl ?_
    refine VW.aload_n dX8_allDirections_5 rfl ?_
    refine VW.getR dX8_allDirections_6 fa_X8_7 (by have := hm.1; omega) hm.2.1 rfl ?_
    refine VW.bipush dX8_allDirections_9 rfl ?_
    refine VW.iaload dX8_allDirections_11 (by have := hm.1; omega) hm.2.2.1 (by omega) (by omega) (by decide) ?_
    rw [show (6 : Int).toNat = 6 from rfl, z6]
    refine VW.icmp_ge 29 ⟨by omega, by omega⟩ ⟨by omega, by omega⟩ dX8_allDirections_12 (by decide) (fun c12 => ?_) (fun c12 => by omega)
    refine VW.iload_n dX8_allDirections_29 rfl ?_
    refine VW.ireturn dX8_allDirections_30 rfl rfl ?_
    refine fxP.ii ⟨?_, rfl⟩
    rw [hs, List.take_of_length_le (by omega)]
  | succ n ih =>
    intro i s h1 h2 hs
    refine VW.iload_n dX8_allDirections_4 rfl ?_
    refine VW.aload_n dX8_allDirections_5 rfl ?_
    refine VW.getR dX8_allDirections_6 fa_X8_7 (by have := hm.1; omega) hm.2.1 rfl ?_
    refine VW.bipush dX8_allDirections_9 rfl ?_
    refine VW.iaload dX8_allDirections_11 (by have := hm.1; omega) hm.2.2.1 (by omega) (by omega) (by decide) ?_
    rw [show (6 : Int).toNat = 6 from rfl, z6]
    refine VW.icmp_ge 29 ⟨by omega, by omega⟩ ⟨by omega, by omega⟩ dX8_allDirections_12 (by decide) (fun c12 => by omega) (fun c12 => ?_)
    refine VW.iload_n dX8_allDirections_15 rfl ?_
    refine VW.aload_n dX8_allDirections_16 rfl ?_
    refine VW.iload_n dX8_allDirections_17 rfl ?_
    refine VW.pV1 cv_X8_allDirections_X8_directionsOf dX8_allDirections_18 (Nat.le_of_ble_eq_true rfl) (by have := hm.1; omega) hm.2.1 (t_directionsOf hst hm hz ok (c := i) (by omega)) ?_
    refine VW.iadd dX8_allDirections_21 ?_
    refine VW.istore_n (lv' := [(0, _), (1, _), (2, _)]) dX8_allDirections_22 (by decide) rfl ?_
    refine VW.iinc (lv' := [(0, _), (1, _), (2, _)]) dX8_allDirections_23 rfl (by decide) rfl ?_
    refine VW.goto 4 dX8_allDirections_26 (by decide) ?_
    exact ih (i + 1) _ (by omega) (by omega) (by rw [hs, sumK_take C (by omega)])
theorem t_allDirections (hst : l.stackTraces = false) (hm : isM N sh) (hz : zR (μ 274) xs ys C S) (ok : okS ((xs, ys), C, S)) : Zi G l N sh M_X8_allDirections [.ref (gB G + 273)] μ (fun r μ' => r = (C.map (fun L => (L.length : Int))).sum ∧ μ' = μ) := by
  refine Fx.of hst rfl (by decide +kernel) (Nat.le_of_ble_eq_true rfl) rfl ?_
  obtain ⟨⟨ok1, ok2, ok3, ok4⟩, ⟨ok5, ok6, ok7⟩, ok8⟩ := okS.un ok
  obtain ⟨hw5, hw0, hw1, hw2, hw3, hw4⟩ := id ok8
  have z5 : μ 274 5 = (xs.length : Int) := hz.2.1
  have z6 : μ 274 6 = (C.length : Int) := hz.2.2.1
  refine VW.iconst dX8_allDirections_0 ?_
  refine VW.istore_n (lv' := [(0, _), (1, _)]) dX8_allDirections_1 (by decide) rfl ?_
  refine VW.iconst dX8_allDirections_2 ?_
  refine VW.istore_n (lv' := [(0, _), (1, _), (2, _)]) dX8_allDirections_3 (by decide) rfl ?_
  exact lp_X8_ad hst hm hz ok C.length 0 0 (by omega) (by omega) (by simp)
theorem t_counted (hst : l.stackTraces = false) (hm : isM N sh) (hz : zR (μ 274) xs ys C S) (ok : okS ((xs, ys), C, S)) (hn : μ 273 1 = (Z.length : Int)) (hw : 0 ≤ w ∧ w ≤ 8) : Zi G l N sh M_X8_counted [.ref (gB G + 273), vI w] μ (fun r μ' => r = (if w = 0 then (xs.length : Int) else if w = 1 then ((rnD xs ys).length : Int) else if w = 2 then ((stk xs ys S).length : Int) else if w = 3 then (rnL xs ys).sum else if w = 4 then (fgvOf xs ys S).2 else if w = 5 then (C.length : Int) else if w = 6 then (C.map (fun L => (L.length : Int))).sum else if w = 7 then leastA C S else (Z.length : Int)) ∧ frK aL bN μ μ') := by
  refine Fx.of hst rfl (by decide +kernel) (Nat.le_of_ble_eq_true rfl) rfl ?_
  obtain ⟨⟨ok1, ok2, ok3, ok4⟩, ⟨ok5, ok6, ok7⟩, ok8⟩ := okS.un ok
  obtain ⟨hw5, hw0, hw1, hw2, hw3, hw4⟩ := id ok8
  have z5 : μ 274 5 = (xs.length : Int) := hz.2.1
  have z6 : μ 274 6 = (C.length : Int) := hz.2.2.1
  refine VW.iload_n dX8_counted_0 rfl ?_
  by_cases hsw : 0 ≤ w ∧ w ≤ 7
  · have hcs : w = 0 ∨ w = 1 ∨ w = 2 ∨ w = 3 ∨ w = 4 ∨ w = 5 ∨ w = 6 ∨ w = 7 := by omega
    rcases hcs with hcv | hcv | hcv | hcv | hcv | hcv | hcv | hcv
    · refine VW.tswIn 48 ⟨by omega, by omega⟩ dX8_counted_1 (by omega) (by omega) (by rw [hcv]; rfl) (by decide) ?_
      refine VW.aload_n dX8_counted_48 rfl ?_
      refine VW.getR dX8_counted_49 fa_X8_7 (by have := hm.1; omega) hm.2.1 rfl ?_
      refine VW.iconst dX8_counted_52 ?_
      refine VW.iaload dX8_counted_53 (by have := hm.1; omega) hm.2.2.1 (by omega) (by omega) (by decide) ?_
      rw [show (5 : Int).toNat = 5 from rfl, z5]
      refine VW.ireturn dX8_counted_54 rfl rfl ?_
      subst hcv
      exact fxP.ii ⟨rfl, frK.rf⟩
    · refine VW.tswIn 55 ⟨by omega, by omega⟩ dX8_counted_1 (by omega) (by omega) (by rw [hcv]; rfl) (by decide) ?_
      refine VW.aload_n dX8_counted_55 rfl ?_
      refine VW.fiV0 cv_X8_counted_X8_manyRuns dX8_counted_56 (Nat.le_of_ble_eq_true rfl) (by have := hm.1; omega) hm.2.1 (t_manyRuns hst hm hz ok) (fun r1 μ1 h1 => ?_)
      refine VW.ireturn dX8_counted_59 rfl rfl ?_
      subst hcv
      exact fxP.ii ⟨h1.1, h1.2.2.2⟩
    · refine VW.tswIn 60 ⟨by omega, by omega⟩ dX8_counted_1 (by omega) (by omega) (by rw [hcv]; rfl) (by decide) ?_
      refine VW.aload_n dX8_counted_60 rfl ?_
      refine VW.fiV0 cv_X8_counted_X8_manyDirections dX8_counted_61 (Nat.le_of_ble_eq_true rfl) (by have := hm.1; omega) hm.2.1 (t_manyDirections hst hm hz ok) (fun r1 μ1 h1 => ?_)
      refine VW.ireturn dX8_counted_64 rfl rfl ?_
      subst hcv
      exact fxP.ii ⟨h1.1, h1.2⟩
    · refine VW.tswIn 65 ⟨by omega, by omega⟩ dX8_counted_1 (by omega) (by omega) (by rw [hcv]; rfl) (by decide) ?_
      refine VW.aload_n dX8_counted_65 rfl ?_
      refine VW.fiV0 cv_X8_counted_X8_pathLength dX8_counted_66 (Nat.le_of_ble_eq_true rfl) (by have := hm.1; omega) hm.2.1 (t_pathLength hst hm hz ok) (fun r1 μ1 h1 => ?_)
      refine VW.ireturn dX8_counted_69 rfl rfl ?_
      subst hcv
      exact fxP.ii ⟨h1.1, h1.2.2⟩
    · refine VW.tswIn 70 ⟨by omega, by omega⟩ dX8_counted_1 (by omega) (by omega) (by rw [hcv]; rfl) (by decide) ?_
      refine VW.aload_n dX8_counted_70 rfl ?_
      refine VW.fiV0 cv_X8_counted_X8_manyDropped dX8_counted_71 (Nat.le_of_ble_eq_true rfl) (by have := hm.1; omega) hm.2.1 (t_manyDropped hst hm hz ok) (fun r1 μ1 h1 => ?_)
      refine VW.ireturn dX8_counted_74 rfl rfl ?_
      subst hcv
      exact fxP.ii ⟨h1.1, h1.2⟩
    · refine VW.tswIn 75 ⟨by omega, by omega⟩ dX8_counted_1 (by omega) (by omega) (by rw [hcv]; rfl) (by decide) ?_
      refine VW.aload_n dX8_counted_75 rfl ?_
      refine VW.getR dX8_counted_76 fa_X8_7 (by have := hm.1; omega) hm.2.1 rfl ?_
      refine VW.bipush dX8_counted_79 rfl ?_
      refine VW.iaload dX8_counted_81 (by have := hm.1; omega) hm.2.2.1 (by omega) (by omega) (by decide) ?_
      rw [show (6 : Int).toNat = 6 from rfl, z6]
      refine VW.ireturn dX8_counted_82 rfl rfl ?_
      subst hcv
      exact fxP.ii ⟨rfl, frK.rf⟩
    · refine VW.tswIn 83 ⟨by omega, by omega⟩ dX8_counted_1 (by omega) (by omega) (by rw [hcv]; rfl) (by decide) ?_
      refine VW.aload_n dX8_counted_83 rfl ?_
      refine VW.pV0 cv_X8_counted_X8_allDirections dX8_counted_84 (Nat.le_of_ble_eq_true rfl) (by have := hm.1; omega) hm.2.1 (t_allDirections hst hm hz ok) ?_
      refine VW.ireturn dX8_counted_87 rfl rfl ?_
      subst hcv
      exact fxP.ii ⟨rfl, frK.rf⟩
    · refine VW.tswIn 88 ⟨by omega, by omega⟩ dX8_counted_1 (by omega) (by omega) (by rw [hcv]; rfl) (by decide) ?_
      refine VW.aload_n dX8_counted_88 rfl ?_
      refine VW.fiV0 cv_X8_counted_X8_leastDistance dX8_counted_89 (Nat.le_of_ble_eq_true rfl) (by have := hm.1; omega) hm.2.1 (t_leastDistance hst hm hz ok) (fun r1 μ1 h1 => ?_)
      refine VW.ireturn dX8_counted_92 rfl rfl ?_
      subst hcv
      exact fxP.ii ⟨h1.1, h1.2.wid (by decide) (by decide)⟩
  · refine VW.tswOut 93 ⟨by omega, by omega⟩ dX8_counted_1 (by omega) (by decide) ?_
    refine VW.aload_n dX8_counted_93 rfl ?_
    refine VW.getI dX8_counted_94 fa_X8_47 (by have := hm.1; omega) hm.2.1 rfl ?_
    rw [hn]
    refine VW.ireturn dX8_counted_97 rfl rfl ?_
    obtain rfl : w = 8 := by omega
    exact fxP.ii ⟨rfl, frK.rf⟩
variable {x y : Int}
theorem t_pointThen (hst : l.stackTraces = false) (hm : isM N sh) (hz : zR (μ 274) xs ys C S) (ok : okS ((xs, ys), C, S)) (hx : 0 ≤ x ∧ x ≤ 31) (hy : 0 ≤ y ∧ y ≤ 31) : Zi G l N sh M_X8_pointThen [.ref (gB G + 273), vI x, vI y] μ (fun r μ' => r = ifP xs ys C S x y ∧ frK aL bN μ μ') := by
  refine Fx.of hst rfl (by decide +kernel) (Nat.le_of_ble_eq_true rfl) rfl ?_
  obtain ⟨⟨ok1, ok2, ok3, ok4⟩, ⟨ok5, ok6, ok7⟩, ok8⟩ := okS.un ok
  obtain ⟨hw5, hw0, hw1, hw2, hw3, hw4⟩ := id ok8
  have z5 : μ 274 5 = (xs.length : Int) := hz.2.1
  have z6 : μ 274 6 = (C.length : Int) := hz.2.2.1
  refine VW.aload_n dX8_pointThen_0 rfl ?_
  refine VW.fvV0 cv_X8_pointThen_X8_takePath dX8_pointThen_1 (Nat.le_of_ble_eq_true rfl) (by have := hm.1; omega) hm.2.1 (t_takePath hst hm hz ⟨ok1, ok2⟩) (fun μ1 h1 => ?_)
  have e8 : μ1 273 8 = (xs.length : Int) := h1.1.1
  refine VW.aload_n dX8_pointThen_4 rfl ?_
  refine VW.getR dX8_pointThen_5 fa_X8_19 (by have := hm.1; omega) hm.2.1 rfl ?_
  refine VW.aload_n dX8_pointThen_8 rfl ?_
  refine VW.getI dX8_pointThen_9 fa_X8_64 (by have := hm.1; omega) hm.2.1 rfl ?_
  rw [e8]
  refine VW.iload_n dX8_pointThen_12 rfl ?_
  refine VW.iastore dX8_pointThen_13 (by have := hm.1; omega) hm.2.2.2.2.2.1 (by omega) (by omega) (by decide) ?_
  have g1 : frK [277] [] μ1 (mup μ1 277 xs.length x) := frK_a (by decide)
  have p1 := h1.1.2.2.1.push (v := x)
  rw [Int.toNat_natCast]
  obtain ⟨μ3, hμ3⟩ : ∃ m, m = mup μ1 277 xs.length x := ⟨_, rfl⟩
  rw [← hμ3] at g1 p1 ⊢
  have e83 : μ3 273 8 = (xs.length : Int) := (g1.2 8 (by decide)).trans e8
  refine VW.aload_n dX8_pointThen_14 rfl ?_
  refine VW.getR dX8_pointThen_15 fa_X8_22 (by have := hm.1; omega) hm.2.1 rfl ?_
  refine VW.aload_n dX8_pointThen_18 rfl ?_
  refine VW.getI dX8_pointThen_19 fa_X8_64 (by have := hm.1; omega) hm.2.1 rfl ?_
  rw [e83]
  refine VW.iload_n dX8_pointThen_22 rfl ?_
  refine VW.iastore dX8_pointThen_23 (by have := hm.1; omega) hm.2.2.2.2.2.2.1 (by omega) (by omega) (by decide) ?_
  have g2 : frK [278] [] μ3 (mup μ3 278 xs.length y) := frK_a (by decide)
  have p2 := (h1.1.2.2.2.keep g1 (by decide) (by decide)).push (v := y)
  rw [ok1] at p2
  rw [Int.toNat_natCast]
  obtain ⟨μ4, hμ4⟩ : ∃ m, m = mup μ3 278 xs.length y := ⟨_, rfl⟩
  rw [← hμ4] at g2 p2 ⊢
  have e84 : μ4 273 8 = (xs.length : Int) := (g2.2 8 (by decide)).trans e83
  have f4 : frK aL bN μ μ4 := ((h1.2.wid (by decide) (by decide)).tr (g1.wid (by decide) (by decide))).tr (g2.wid (by decide) (by decide))
  refine VW.aload_n dX8_pointThen_24 rfl ?_
  refine VW.dup dX8_pointThen_25 rfl ?_
  refine VW.getI dX8_pointThen_26 fa_X8_64 (by have := hm.1; omega) hm.2.1 rfl ?_
  rw [e84]
  refine VW.iconst dX8_pointThen_29 ?_
  refine VW.iadd dX8_pointThen_30 ?_
  refine VW.putI dX8_pointThen_31 fp_X8_64 (by have := hm.1; omega) hm.2.1 rfl ?_
  have g3 : frK [] [8] μ4 (mup μ4 273 8 ((xs.length : Int) + 1)) := frK_f
  have hP5 : hasMP (mup μ4 273 8 ((xs.length : Int) + 1)) (xs ++ [x]) (ys ++ [y]) := ⟨by rw [mup_s]; simp, by simp [ok1], (p1.keep g2 (by decide) (by decide)).keep g3 (by decide) (by decide), p2.keep g3 (by decide) (by decide)⟩
  have hz5 : zR ((mup μ4 273 8 ((xs.length : Int) + 1)) 274) xs ys C S := (hz.keep f4 (by decide)).keep g3 (by decide)
  have hbX : bnd (xs ++ [x]) 0 31 := bnd_snoc ok3 hx
  have hbY : bnd (ys ++ [y]) 0 31 := bnd_snoc ok4 hy
  refine VW.aload_n dX8_pointThen_34 rfl ?_
  refine VW.fvV0 cv_X8_pointThen_X8_layStroke dX8_pointThen_35 (Nat.le_of_ble_eq_true rfl) (by have := hm.1; omega) hm.2.1 (t_layStroke hst hm hz5 ok8 hP5 hbX hbY (by simp; omega)) (fun μ6 h6 => ?_)
  have sk := stk_ok (S := S) hbX hbY (by simp; omega)
  have f6 : frK aL bN μ μ6 := (((f4.tr (g3.wid (by decide) (by decide)))).tr (h6.2.2.wid (by decide) (by decide)))
  refine VW.aload_n dX8_pointThen_38 rfl ?_
  refine VW.fiV0 cv_X8_pointThen_X8_readAs dX8_pointThen_39 (Nat.le_of_ble_eq_true rfl) (by have := hm.1; omega) hm.2.1 (t_readAs hst hm (hz5.keep h6.2.2 (by decide)) ok h6.2.1 sk.1 sk.2) (fun r7 μ7 h7 => ?_)
  obtain ⟨rfl, h7f⟩ := h7
  refine VW.ireturn dX8_pointThen_42 rfl rfl ?_
  exact fxP.ii ⟨readOf_c (by have := stk_pos (xs ++ [x]) (ys ++ [y]) S; omega), f6.tr (h7f.wid (by decide) (by decide))⟩
theorem t_againstNow (hst : l.stackTraces = false) (hm : isM N sh) (hz : zR (μ 274) xs ys C S) (ok : okS ((xs, ys), C, S)) : Zi G l N sh M_X8_againstNow [.ref (gB G + 273)] μ (fun r μ' => r = agn xs ys C S ∧ frK aL bN μ μ') := by
  refine Fx.of hst rfl (by decide +kernel) (Nat.le_of_ble_eq_true rfl) rfl ?_
  obtain ⟨⟨ok1, ok2, ok3, ok4⟩, ⟨ok5, ok6, ok7⟩, ok8⟩ := okS.un ok
  obtain ⟨hw5, hw0, hw1, hw2, hw3, hw4⟩ := id ok8
  have z5 : μ 274 5 = (xs.length : Int) := hz.2.1
  have z6 : μ 274 6 = (C.length : Int) := hz.2.2.1
  refine VW.aload_n dX8_againstNow_0 rfl ?_
  refine VW.fvV0 cv_X8_againstNow_X8_pathStroke dX8_againstNow_1 (Nat.le_of_ble_eq_true rfl) (by have := hm.1; omega) hm.2.1 (t_pathStroke hst hm hz ok) (fun μ1 h1 => ?_)
  obtain ⟨h1q, h1k, h1f⟩ := h1
  have z1 := hz.keep h1f (by decide)
  have sk := stk_ok (S := S) ok3 ok4 (by omega : xs.length ≤ 41)
  have fn : frK aL bN μ μ1 := h1f.wid (by decide) (by decide)
  refine VW.aload_n dX8_againstNow_4 rfl ?_
  refine VW.fiV0 cv_X8_againstNow_X8_tooNear dX8_againstNow_5 (Nat.le_of_ble_eq_true rfl) (by have := hm.1; omega) hm.2.1 (t_tooNear hst hm z1 ok h1k sk.1 sk.2) (fun r2 μ2 h2 => ?_)
  refine VW.ireturn dX8_againstNow_8 rfl rfl ?_
  exact fxP.ii ⟨h2.1, fn.tr (h2.2.wid (by decide) (by decide))⟩
end PW
