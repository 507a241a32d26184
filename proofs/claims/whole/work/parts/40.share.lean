/-! ===== straightness and doubt, of both ===== -/
theorem dir_none {a b : Int} (h : dirF (sgn a) (sgn b) 8 0 = -1) : a = 0 ∧ b = 0 := by
  unfold sgn at h
  by_cases a1 : a < 0
  · rw [if_pos a1] at h
    by_cases b1 : b < 0
    · rw [if_pos b1] at h; exact absurd h (by decide)
    · rw [if_neg b1] at h
      by_cases b2 : b = 0
      · rw [if_pos b2] at h; exact absurd h (by decide)
      · rw [if_neg b2] at h; exact absurd h (by decide)
  · rw [if_neg a1] at h
    by_cases a2 : a = 0
    · rw [if_pos a2] at h
      by_cases b1 : b < 0
      · rw [if_pos b1] at h; exact absurd h (by decide)
      · rw [if_neg b1] at h
        by_cases b2 : b = 0
        · exact ⟨a2, b2⟩
        · rw [if_neg b2] at h; exact absurd h (by decide)
    · rw [if_neg a2] at h
      by_cases b1 : b < 0
      · rw [if_pos b1] at h; exact absurd h (by decide)
      · rw [if_neg b1] at h
        by_cases b2 : b = 0
        · rw [if_pos b2] at h; exact absurd h (by decide)
        · rw [if_neg b2] at h; exact absurd h (by decide)
theorem extR_sum {q : List Int × List Int} {k : Nat} {d n : Int} (h : okR q k) : (extR q d n).2.sum = q.2.sum + (if d = -1 then 0 else n) := by
  obtain ⟨h1, h2, h3, h4, h5⟩ := h
  unfold extR
  by_cases c1 : d ≠ -1 ∧ d = rat q.1 (q.1.length - 1)
  · rw [if_pos c1, if_neg c1.1]
    have hl : 0 < q.1.length := by
      rcases Nat.eq_zero_or_pos q.1.length with e | e
      · exfalso
        rw [rat_out (by omega)] at c1
        exact c1.1 c1.2
      · exact e
    have hr : rat q.2 (q.1.length - 1) = q.2.getD ((q.1.length : Int) - 1).toNat 0 := by unfold rat; rw [if_pos (by omega)]
    show (q.2.set _ _).sum = _
    rw [sum_set (by omega), hr]
    omega
  · rw [if_neg c1]
    by_cases c2 : d ≠ -1
    · rw [if_pos c2, if_neg c2]
      simp
    · rw [if_neg c2, if_pos (by omega)]
      omega
theorem runs_reach {xs ys : List Int} (hx : bnd xs 0 31) (hy : bnd ys 0 31) (hl : ys.length = xs.length) : ∀ k : Nat, k + 1 ≤ xs.length → iabs (rat xs (k : Int) - rat xs 0) ≤ (runsTo xs ys k).2.sum ∧ iabs (rat ys (k : Int) - rat ys 0) ≤ (runsTo xs ys k).2.sum
  | 0, _ => by
    have e : iabs (rat xs ((0 : Nat) : Int) - rat xs 0) = 0 := by show iabs (rat xs 0 - rat xs 0) = 0; rw [Int.sub_self]; rfl
    have e2 : iabs (rat ys ((0 : Nat) : Int) - rat ys 0) = 0 := by show iabs (rat ys 0 - rat ys 0) = 0; rw [Int.sub_self]; rfl
    rw [e, e2]
    exact ⟨Int.le_refl _, Int.le_refl _⟩
  | k + 1, h => by
    have ih := runs_reach hx hy hl k (by omega)
    have es : (runsTo xs ys (k + 1)).2.sum = (runsTo xs ys k).2.sum + (if sDir xs ys ((k : Int) + 1) = -1 then 0 else sLen xs ys ((k : Int) + 1)) := extR_sum (runsTo_ok hx hy k)
    have dx : dif xs ((k : Int) + 1) = rat xs ((k : Int) + 1) - rat xs (k : Int) := by
      unfold dif
      rw [if_neg (by omega), show (k : Int) + 1 - 1 = (k : Int) by omega]
    have dy : dif ys ((k : Int) + 1) = rat ys ((k : Int) + 1) - rat ys (k : Int) := by
      unfold dif
      rw [if_neg (by omega), show (k : Int) + 1 - 1 = (k : Int) by omega]
    rw [es, show ((k + 1 : Nat) : Int) = (k : Int) + 1 from rfl]
    have hz : sDir xs ys ((k : Int) + 1) = -1 → dif xs ((k : Int) + 1) = 0 ∧ dif ys ((k : Int) + 1) = 0 := fun q => dir_none q
    have hs : sLen xs ys ((k : Int) + 1) = max (iabs (dif xs ((k : Int) + 1))) (iabs (dif ys ((k : Int) + 1))) := rfl
    generalize sLen xs ys ((k : Int) + 1) = L at hs ⊢
    generalize dif xs ((k : Int) + 1) = a at hs dx hz
    generalize dif ys ((k : Int) + 1) = b at hs dy hz
    generalize rat xs ((k : Int) + 1) = x1 at dx ⊢
    generalize rat ys ((k : Int) + 1) = y1 at dy ⊢
    generalize rat xs (k : Int) = x0 at dx ih
    generalize rat ys (k : Int) = y0 at dy ih
    generalize (runsTo xs ys k).2.sum = s at ih ⊢
    unfold iabs at *
    by_cases hc : sDir xs ys ((k : Int) + 1) = -1
    · rw [if_pos hc]
      have := hz hc
      constructor <;> omega
    · rw [if_neg hc]
      constructor <;> omega
theorem reach_le {xs ys : List Int} (hx : bnd xs 0 31) (hy : bnd ys 0 31) (hl : ys.length = xs.length) (h1 : 1 ≤ xs.length) : 0 ≤ reachOf xs ys ∧ reachOf xs ys ≤ (rnL xs ys).sum := by
  have h := runs_reach hx hy hl (xs.length - 1) (by omega)
  rw [show ((xs.length - 1 : Nat) : Int) = (xs.length : Int) - 1 by omega] at h
  have e : (runsTo xs ys (xs.length - 1)).2.sum = (rnL xs ys).sum := rfl
  rw [e] at h
  unfold reachOf
  refine ⟨?_, by omega⟩
  unfold iabs
  omega
theorem rnL_len {xs ys : List Int} (h : ¬ (rnL xs ys).sum = 0) : 1 ≤ xs.length := by
  rcases Nat.eq_zero_or_pos xs.length with e | e
  · exfalso
    refine h ?_
    unfold rnL
    rw [show xs.length - 1 = 0 by omega]
    rfl
  · exact e
def strt (xs ys : List Int) : Int := if (rnL xs ys).sum ≤ 0 then 1065353216 else ((sh32 (reachOf xs ys) (rnL xs ys).sum).toNat : Int)
def dbtV (D : List Int) : UInt64 := if nbut D (-1) = -1 ∨ nbut D (nbut D (-1)) = -1 then 0 else if rat D (nbut D (nbut D (-1))) ≤ 0 then 0 else sh64 (rat D (nbut D (-1))) (rat D (nbut D (nbut D (-1))))
def dbt (xs ys : List Int) (C : List (List Int)) (S : List Int) : UInt64 := dbtV (dsts xs ys C S)
theorem nbut_le {D : List Int} (h1 : ¬ nbut D (-1) = -1) (h2 : ¬ nbut D (nbut D (-1)) = -1) : rat D (nbut D (-1)) ≤ rat D (nbut D (nbut D (-1))) := by
  have hb := nbut_b D (nbut D (-1))
  rcases nbF_min D D.length 0 (-1) (by omega) (by omega) with ⟨q, -, -⟩ | ⟨-, -, q⟩
  · exact absurd q h1
  · exact q _ (by omega)
/-- what the doubt may be -/
theorem dbtV_c {D : List Int} (hD : bnd D 0 1000) : dbtV D = 0 ∨ ∃ a t : Int, dbtV D = sh64 a t ∧ 0 ≤ a ∧ a ≤ t ∧ 1 ≤ t ∧ t < 65536 := by
  unfold dbtV
  split
  · exact Or.inl rfl
  · rename_i h
    split
    · exact Or.inl rfl
    · rename_i h2
      have b1 := nbut_b D (-1)
      have b2 := nbut_b D (nbut D (-1))
      have r1 := rat_b hD (i := nbut D (-1)) (by omega) (by omega)
      have r2 := rat_b hD (i := nbut D (nbut D (-1))) (by omega) (by omega)
      exact Or.inr ⟨_, _, rfl, by omega, nbut_le (by omega) (by omega), by omega, by omega⟩
section PSD
variable {G : GT} {l : Launch} {N : Nat} {sh : Nat → ShT} {μ μ' : Mem} {xs ys S D Ln : List Int} {C : List (List Int)} {v lo hi : Int}
variable {Z : List St} {B : List Int} {p w c : Int}
theorem p_reach (hst : l.stackTraces = false) {p : Nat} (hp : isPath N sh p) (hP : hasP μ p xs ys) : Zi G l N sh M_X3_reach [.ref (gB G + p)] μ (fun r μ' => r = reachOf xs ys ∧ μ' = μ) := by
  have h := s_X3_reach (G := G) (μ := μ) hst hp hP.wf
  rw [hP.1.2, hP.2.1.2] at h
  exact h
theorem s_fb1 (hst : l.stackTraces = false) : Zi G l N sh M_X7_floatBits [.float Jvm.FP.fconst1] μ (fun r μ' => r = 1065353216 ∧ μ' = μ) := by
  have h := s_X7_floatBits (G := G) (N := N) (sh := sh) (μ := μ) hst (E := 127) (T := 0) (by decide) (by decide)
  rw [show nb32 127 0 = Jvm.FP.fconst1 from by decide +kernel] at h
  exact h
theorem z_fb1 (hst : l.stackTraces = false) : Zi G l N sh M_Jxf58ca_floatToIntBits_5c35a [.float Jvm.FP.fconst1] μ (fun r μ' => r = 1065353216 ∧ μ' = μ) := z_bits32 hst (by decide +kernel) (by decide +kernel)
theorem s_db0 (hst : l.stackTraces = false) (hD : bnd D 0 1000) : Zl G l N sh M_X7_doubleBits [.double (dbtV D)] μ (fun r μ' => r = ((dbtV D).toNat : Int) ∧ μ' = μ) := by
  rcases dbtV_c hD with h | ⟨a, t, h, h0, h1, h2, h3⟩
  · rw [h]
    exact s_X7_doubleBits0 hst
  · rw [h]
    exact s_fb64 hst h0 h1 h2 h3
theorem z_db0 (hst : l.stackTraces = false) (hD : bnd D 0 1000) : Zl G l N sh M_Jxe99ae_doubleToLongBits_ccdee [.double (dbtV D)] μ (fun r μ' => r = ((dbtV D).toNat : Int) ∧ μ' = μ) := by
  rcases dbtV_c hD with h | ⟨a, t, h, h0, h1, h2, h3⟩
  · rw [h]
    exact z_bits64 hst (by decide +kernel) (by decide +kernel)
  · rw [h]
    exact z_fb64 hst h0 h1 h2 h3
theorem g_straightness (hst : l.stackTraces = false) (hg : isG N sh) (h : hasG μ xs ys C S Z B) (ok : okA (mk xs ys C S Z B)) : Zi G l N sh M_X7_straightness [.ref (gB G + 0)] μ (fun r μ' => r = strt xs ys ∧ μ' = μ) := by
  refine Fx.of hst rfl (by decide +kernel) (Nat.le_of_ble_eq_true rfl) rfl ?_
  obtain ⟨⟨⟨ok1, ok2, ok3, ok4⟩, ⟨ok5, ok6, ok7⟩, ok8⟩, ⟨ok9, ok10⟩, ok11, ok12⟩ := okA.un ok
  obtain ⟨h0, hv⟩ := id h
  obtain ⟨hP, hC, hS, hZ, hB, tx, ty, hT⟩ := id h0
  have okC : ∀ L ∈ C, bnd L 0 7 := fun L hL => (ok6 L hL).2
  have rk := rn_ok ok3 ok4 (by omega : xs.length ≤ 41)
  have rk3 := sum_nng rk.2.2.2.1
  have rk5 := rk.2.2.2.2
  refine VW.aload_n dX7_straightness_0 rfl ?_
  refine VW.getR dX7_straightness_1 fa_X7_35 (gLt hg) hg.2.1 rfl ?_
  refine VW.getR dX7_straightness_4 fa_X7_248 (by have := hg.1; omega) (gVs hg) rfl ?_
  refine VW.pV0 cv_X7_straightness_X4_sum dX7_straightness_7 (Nat.le_of_ble_eq_true rfl) (gV22 hg).1 (gV22 hg).2.1 (r_sum hst (gV22 hg) hv.2.1) ?_
  skip
  refine VW.istore_n (lv' := [(0, _), (1, _)]) dX7_straightness_10 (by decide) rfl ?_
  refine VW.iload_n dX7_straightness_11 rfl ?_
  refine VW.if_gt 20 ⟨by omega, by omega⟩ dX7_straightness_12 (by decide) (fun c12 => ?_) (fun c12 => ?_)
  · have xl := rnL_len (xs := xs) (ys := ys) (by omega)
    have rl := reach_le ok3 ok4 ok1 xl
    refine VW.aload_n dX7_straightness_20 rfl ?_
    refine VW.getR dX7_straightness_21 fa_X7_10 (gLt hg) hg.2.1 rfl ?_
    refine VW.getR dX7_straightness_24 fa_X7_73 (by have := hg.1; omega) (gSs hg) rfl ?_
    refine VW.pV0 cv_X7_straightness_X3_reach dX7_straightness_27 (Nat.le_of_ble_eq_true rfl) (gSp hg).1 (gSp hg).2.1 (p_reach hst (gSp hg) hP) ?_
    refine VW.i2f (x := (Jvm.FP.i2f (Int32.ofInt (reachOf xs ys)))) dX7_straightness_30 rfl ?_
    refine VW.iload_n dX7_straightness_31 rfl ?_
    refine VW.i2f (x := (Jvm.FP.i2f (Int32.ofInt (rnL xs ys).sum))) dX7_straightness_32 rfl ?_
    refine VW.fdiv (x := (sh32 (reachOf xs ys) (rnL xs ys).sum)) dX7_straightness_33 (sh32_n (by omega) (by omega) (by omega) (by omega)).1 rfl ?_
    refine VW.pS1 cs_X7_straightness_X7_floatBits dX7_straightness_34 (Nat.le_of_ble_eq_true rfl) (s_fb32 hst (by omega) (by omega) (by omega) (by omega)) ?_
    refine VW.ireturn dX7_straightness_37 rfl rfl ?_
    exact fxP.ii ⟨(if_neg (by omega)).symm, rfl⟩
  · refine VW.fconst1 dX7_straightness_15 ?_
    refine VW.pS1 cs_X7_straightness_X7_floatBits dX7_straightness_16 (Nat.le_of_ble_eq_true rfl) (s_fb1 hst) ?_
    refine VW.ireturn dX7_straightness_19 rfl rfl ?_
    exact fxP.ii ⟨(if_pos (by omega)).symm, rfl⟩
theorem g_doubt (hst : l.stackTraces = false) (hg : isG N sh) (h : hasG μ xs ys C S Z B) (ok : okA (mk xs ys C S Z B)) : Zd G l N sh M_X7_doubt [.ref (gB G + 0)] μ (fun r μ' => r = dbt xs ys C S ∧ μ' = μ) := by
  refine Fx.of hst rfl (by decide +kernel) (Nat.le_of_ble_eq_true rfl) rfl ?_
  obtain ⟨⟨⟨ok1, ok2, ok3, ok4⟩, ⟨ok5, ok6, ok7⟩, ok8⟩, ⟨ok9, ok10⟩, ok11, ok12⟩ := okA.un ok
  obtain ⟨h0, hv⟩ := id h
  obtain ⟨hP, hC, hS, hZ, hB, tx, ty, hT⟩ := id h0
  have okC : ∀ L ∈ C, bnd L 0 7 := fun L hL => (ok6 L hL).2
  have db := dsts_b (C := C) ok3 ok4 (by omega : xs.length ≤ 41) ok8 ok6
  have nb1 := nbut_b (dsts xs ys C S) (-1)
  have nb2 := nbut_b (dsts xs ys C S) (nbut (dsts xs ys C S) (-1))
  have dl : (dsts xs ys C S).length = C.length := List.length_map _
  have hvd : hasRow μ 241 10 (dsts xs ys C S) := hv.2.2.2.2.2.1
  refine VW.aload_n dX7_doubt_0 rfl ?_
  refine VW.getR dX7_doubt_1 fa_X7_35 (gLt hg) hg.2.1 rfl ?_
  refine VW.iconst dX7_doubt_4 ?_
  refine VW.pV1 cv_X7_doubt_X6_nearestBut dX7_doubt_5 (Nat.le_of_ble_eq_true rfl) (by have := hg.1; omega) (gVs hg) (v_nearestBut hst (gV hg) hvd db (w := -1) ⟨by omega, by omega⟩) ?_
  refine VW.istore_n (lv' := [(0, _), (1, _)]) dX7_doubt_8 (by decide) rfl ?_
  refine VW.aload_n dX7_doubt_9 rfl ?_
  refine VW.getR dX7_doubt_10 fa_X7_35 (gLt hg) hg.2.1 rfl ?_
  refine VW.iload_n dX7_doubt_13 rfl ?_
  refine VW.pV1 cv_X7_doubt_X6_nearestBut dX7_doubt_14 (Nat.le_of_ble_eq_true rfl) (by have := hg.1; omega) (gVs hg) (v_nearestBut hst (gV hg) hvd db (w := (nbut (dsts xs ys C S) (-1))) ⟨by omega, by omega⟩) ?_
  refine VW.istore_n (lv' := [(0, _), (1, _), (2, _)]) dX7_doubt_17 (by decide) rfl ?_
  refine VW.iload_n dX7_doubt_18 rfl ?_
  refine VW.iconst dX7_doubt_19 ?_
  refine VW.icmp_eq 28 ⟨by omega, by omega⟩ ⟨by omega, by omega⟩ dX7_doubt_20 (by decide) (fun c20 => ?_) (fun c20 => ?_)
  · refine VW.dconst0 dX7_doubt_28 ?_
    refine VW.dreturn dX7_doubt_29 rfl ?_
    exact fxP.dd ⟨(if_pos (by omega)).symm, rfl⟩
  · refine VW.iload_n dX7_doubt_23 rfl ?_
    refine VW.iconst dX7_doubt_24 ?_
    refine VW.icmp_ne 30 ⟨by omega, by omega⟩ ⟨by omega, by omega⟩ dX7_doubt_25 (by decide) (fun c25 => ?_) (fun c25 => ?_)
    · have rr1 := rat_b db (i := (nbut (dsts xs ys C S) (-1))) (by omega) (by omega)
      have rr2 := rat_b db (i := (nbut (dsts xs ys C S) (nbut (dsts xs ys C S) (-1)))) (by omega) (by omega)
      have rr3 := nbut_le (D := dsts xs ys C S) (by omega) (by omega)
      refine VW.aload_n dX7_doubt_30 rfl ?_
      refine VW.getR dX7_doubt_31 fa_X7_35 (gLt hg) hg.2.1 rfl ?_
      refine VW.getR dX7_doubt_34 fa_X7_260 (by have := hg.1; omega) (gVs hg) rfl ?_
      refine VW.iload_n dX7_doubt_37 rfl ?_
      refine VW.pV1 cv_X7_doubt_X4_at dX7_doubt_38 (Nat.le_of_ble_eq_true rfl) (gV5 hg).1 (gV5 hg).2.1 (r_at hst (gV5 hg) hvd (i := (nbut (dsts xs ys C S) (nbut (dsts xs ys C S) (-1)))) ⟨by omega, by omega⟩) ?_
      refine VW.istore_n (lv' := [(0, _), (1, _), (2, _), (3, _)]) dX7_doubt_41 (by decide) rfl ?_
      refine VW.iload_n dX7_doubt_42 rfl ?_
      refine VW.if_gt 48 ⟨by omega, by omega⟩ dX7_doubt_43 (by decide) (fun c43 => ?_) (fun c43 => ?_)
      · refine VW.aload_n dX7_doubt_48 rfl ?_
        refine VW.getR dX7_doubt_49 fa_X7_35 (gLt hg) hg.2.1 rfl ?_
        refine VW.getR dX7_doubt_52 fa_X7_260 (by have := hg.1; omega) (gVs hg) rfl ?_
        refine VW.iload_n dX7_doubt_55 rfl ?_
        refine VW.pV1 cv_X7_doubt_X4_at dX7_doubt_56 (Nat.le_of_ble_eq_true rfl) (gV5 hg).1 (gV5 hg).2.1 (r_at hst (gV5 hg) hvd (i := (nbut (dsts xs ys C S) (-1))) ⟨by omega, by omega⟩) ?_
        refine VW.i2d (x := (Jvm.FP.i2d (Int32.ofInt (rat (dsts xs ys C S) (nbut (dsts xs ys C S) (-1)))))) dX7_doubt_59 rfl ?_
        refine VW.iload_n dX7_doubt_60 rfl ?_
        refine VW.i2d (x := (Jvm.FP.i2d (Int32.ofInt (rat (dsts xs ys C S) (nbut (dsts xs ys C S) (nbut (dsts xs ys C S) (-1))))))) dX7_doubt_61 rfl ?_
        refine VW.ddiv (x := (sh64 (rat (dsts xs ys C S) (nbut (dsts xs ys C S) (-1))) (rat (dsts xs ys C S) (nbut (dsts xs ys C S) (nbut (dsts xs ys C S) (-1)))))) dX7_doubt_62 (sh64_n (a := (rat (dsts xs ys C S) (nbut (dsts xs ys C S) (-1)))) (t := (rat (dsts xs ys C S) (nbut (dsts xs ys C S) (nbut (dsts xs ys C S) (-1))))) (by omega) (by omega) (by omega) (by omega)).1 rfl ?_
        refine VW.dreturn dX7_doubt_63 rfl ?_
        exact fxP.dd ⟨((if_neg (by omega)).trans (if_neg (by omega))).symm, rfl⟩
      · refine VW.dconst0 dX7_doubt_46 ?_
        refine VW.dreturn dX7_doubt_47 rfl ?_
        exact fxP.dd ⟨((if_neg (by omega)).trans (if_pos (by omega))).symm, rfl⟩
    · refine VW.dconst0 dX7_doubt_28 ?_
      refine VW.dreturn dX7_doubt_29 rfl ?_
      exact fxP.dd ⟨(if_pos (by omega)).symm, rfl⟩
theorem t_straightNow (hst : l.stackTraces = false) (hm : isM N sh) (hz : zR (μ 274) xs ys C S) (ok : okS ((xs, ys), C, S)) : Zi G l N sh M_X8_straightNow [.ref (gB G + 273)] μ (fun r μ' => r = strt xs ys ∧ frK aL bN μ μ') := by
  refine Fx.of hst rfl (by decide +kernel) (Nat.le_of_ble_eq_true rfl) rfl ?_
  obtain ⟨⟨ok1, ok2, ok3, ok4⟩, ⟨ok5, ok6, ok7⟩, ok8⟩ := okS.un ok
  obtain ⟨hw5, hw0, hw1, hw2, hw3, hw4⟩ := id ok8
  have z5 : μ 274 5 = (xs.length : Int) := hz.2.1
  have z6 : μ 274 6 = (C.length : Int) := hz.2.2.1
  have rk := rn_ok ok3 ok4 (by omega : xs.length ≤ 41)
  have rk3 := sum_nng rk.2.2.2.1
  have rk5 := rk.2.2.2.2
  refine VW.aload_n dX8_straightNow_0 rfl ?_
  refine VW.fiV0 cv_X8_straightNow_X8_pathLength dX8_straightNow_1 (Nat.le_of_ble_eq_true rfl) (by have := hm.1; omega) hm.2.1 (t_pathLength hst hm hz ok) (fun r1 μ1 h1 => ?_)
  obtain ⟨rfl, h1p, h1f⟩ := h1
  have f1 : frK aL bN μ μ1 := h1f.wid (by decide) (by decide)
  have e8 : μ1 273 8 = (xs.length : Int) := h1p.1
  refine VW.istore_n (lv' := [(0, _), (1, _)]) dX8_straightNow_4 (by decide) rfl ?_
  refine VW.aload_n dX8_straightNow_5 rfl ?_
  refine VW.getI dX8_straightNow_6 fa_X8_64 (by have := hm.1; omega) hm.2.1 rfl ?_
  rw [e8]
  refine VW.iconst dX8_straightNow_9 ?_
  refine VW.isub dX8_straightNow_10 ?_
  refine VW.istore_n (lv' := [(0, _), (1, _), (2, _)]) dX8_straightNow_11 (by decide) rfl ?_
  refine VW.iload_n dX8_straightNow_12 rfl ?_
  refine VW.if_ne 20 ⟨by omega, by omega⟩ dX8_straightNow_13 (by decide) (fun c13 => ?_) (fun c13 => ?_)
  · have xl := rnL_len (xs := xs) (ys := ys) (by omega)
    have rl := reach_le ok3 ok4 ok1 xl
    have x1 := rat_b ok3 (i := (xs.length : Int) - 1) (by omega) (by omega)
    have x0 := rat_b ok3 (i := 0) (by omega) (by omega)
    have y1 := rat_b ok4 (i := (xs.length : Int) - 1) (by omega) (by omega)
    have y0 := rat_b ok4 (i := 0) (by omega) (by omega)
    have ax := iabs_b (z := rat xs ((xs.length : Int) - 1) - rat xs 0) (hi := 100) (by omega)
    have ay := iabs_b (z := rat ys ((xs.length : Int) - 1) - rat ys 0) (hi := 100) (by omega)
    have ro : max (iabs (rat xs ((xs.length : Int) - 1) - rat xs 0)) (iabs (rat ys ((xs.length : Int) - 1) - rat ys 0)) = reachOf xs ys := rfl
    refine VW.aload_n dX8_straightNow_20 rfl ?_
    refine VW.getR dX8_straightNow_21 fa_X8_19 (by have := hm.1; omega) hm.2.1 rfl ?_
    refine VW.iload_n dX8_straightNow_24 rfl ?_
    refine VW.iaload dX8_straightNow_25 (by have := hm.1; omega) hm.2.2.2.2.2.1 (by omega) (by omega) (by decide) ?_
    rw [h1p.2.2.1 ((xs.length : Int) - 1) (by omega)]
    refine VW.aload_n dX8_straightNow_26 rfl ?_
    refine VW.getR dX8_straightNow_27 fa_X8_19 (by have := hm.1; omega) hm.2.1 rfl ?_
    refine VW.iconst dX8_straightNow_30 ?_
    refine VW.iaload dX8_straightNow_31 (by have := hm.1; omega) hm.2.2.2.2.2.1 (by omega) (by omega) (by decide) ?_
    rw [h1p.2.2.1 0 (by omega)]
    refine VW.isub dX8_straightNow_32 ?_
    refine VW.pS1 cs_X8_straightNow_X8_size dX8_straightNow_33 (Nat.le_of_ble_eq_true rfl) (t_size hst ⟨by omega, by omega⟩) ?_
    refine VW.aload_n dX8_straightNow_36 rfl ?_
    refine VW.getR dX8_straightNow_37 fa_X8_22 (by have := hm.1; omega) hm.2.1 rfl ?_
    refine VW.iload_n dX8_straightNow_40 rfl ?_
    refine VW.iaload dX8_straightNow_41 (by have := hm.1; omega) hm.2.2.2.2.2.2.1 (by omega) (by omega) (by decide) ?_
    rw [h1p.2.2.2 ((xs.length : Int) - 1) (by omega)]
    refine VW.aload_n dX8_straightNow_42 rfl ?_
    refine VW.getR dX8_straightNow_43 fa_X8_22 (by have := hm.1; omega) hm.2.1 rfl ?_
    refine VW.iconst dX8_straightNow_46 ?_
    refine VW.iaload dX8_straightNow_47 (by have := hm.1; omega) hm.2.2.2.2.2.2.1 (by omega) (by omega) (by decide) ?_
    rw [h1p.2.2.2 0 (by omega)]
    refine VW.isub dX8_straightNow_48 ?_
    refine VW.pS1 cs_X8_straightNow_X8_size dX8_straightNow_49 (Nat.le_of_ble_eq_true rfl) (t_size hst ⟨by omega, by omega⟩) ?_
    refine VW.pS2 cs_X8_straightNow_X8_greater dX8_straightNow_52 (Nat.le_of_ble_eq_true rfl) (t_greater hst ⟨by omega, by omega⟩ ⟨by omega, by omega⟩) ?_
    rw [ro]
    refine VW.istore_n (lv' := [(0, _), (1, _), (2, _), (3, _)]) dX8_straightNow_55 (by decide) rfl ?_
    refine VW.iload_n dX8_straightNow_56 rfl ?_
    refine VW.if_ne 64 ⟨by omega, by omega⟩ dX8_straightNow_57 (by decide) (fun c57 => ?_) (fun c57 => absurd c57 c13)
    refine VW.iload_n dX8_straightNow_64 rfl ?_
    refine VW.i2f (x := (Jvm.FP.i2f (Int32.ofInt (reachOf xs ys)))) dX8_straightNow_65 rfl ?_
    refine VW.iload_n dX8_straightNow_66 rfl ?_
    refine VW.i2f (x := (Jvm.FP.i2f (Int32.ofInt (rnL xs ys).sum))) dX8_straightNow_67 rfl ?_
    refine VW.fdiv (x := (sh32 (reachOf xs ys) (rnL xs ys).sum)) dX8_straightNow_68 (sh32_n (by omega) (by omega) (by omega) (by omega)).1 rfl ?_
    refine VW.pS1 cs_X8_straightNow_Jxf58ca_floatToIntBits_5c35a dX8_straightNow_69 (Nat.le_of_ble_eq_true rfl) (z_fb32 hst (by omega) (by omega) (by omega) (by omega)) ?_
    refine VW.ireturn dX8_straightNow_72 rfl rfl ?_
    exact fxP.ii ⟨(if_neg (by omega)).symm, f1⟩
  · refine VW.iconst dX8_straightNow_16 ?_
    refine VW.goto 55 dX8_straightNow_17 (by decide) ?_
    skip
    refine VW.istore_n (lv' := [(0, _), (1, _), (2, _), (3, _)]) dX8_straightNow_55 (by decide) rfl ?_
    refine VW.iload_n dX8_straightNow_56 rfl ?_
    refine VW.if_ne 64 ⟨by omega, by omega⟩ dX8_straightNow_57 (by decide) (fun c57 => absurd c13 c57) (fun c57 => ?_)
    refine VW.fconst1 dX8_straightNow_60 ?_
    refine VW.goto 69 dX8_straightNow_61 (by decide) ?_
    refine VW.pS1 cs_X8_straightNow_Jxf58ca_floatToIntBits_5c35a dX8_straightNow_69 (Nat.le_of_ble_eq_true rfl) (z_fb1 hst) ?_
    refine VW.ireturn dX8_straightNow_72 rfl rfl ?_
    exact fxP.ii ⟨(if_pos (by omega)).symm, f1⟩
theorem t_doubtNow (hst : l.stackTraces = false) (hm : isM N sh) (hz : zR (μ 274) xs ys C S) (ok : okS ((xs, ys), C, S)) : Zd G l N sh M_X8_doubtNow [.ref (gB G + 273)] μ (fun r μ' => r = dbt xs ys C S ∧ frK aL bN μ μ') := by
  refine Fx.of hst rfl (by decide +kernel) (Nat.le_of_ble_eq_true rfl) rfl ?_
  obtain ⟨⟨ok1, ok2, ok3, ok4⟩, ⟨ok5, ok6, ok7⟩, ok8⟩ := okS.un ok
  obtain ⟨hw5, hw0, hw1, hw2, hw3, hw4⟩ := id ok8
  have z5 : μ 274 5 = (xs.length : Int) := hz.2.1
  have z6 : μ 274 6 = (C.length : Int) := hz.2.2.1
  have db := dsts_b (C := C) ok3 ok4 (by omega : xs.length ≤ 41) ok8 ok6
  have nb1 := nbut_b (dsts xs ys C S) (-1)
  have nb2 := nbut_b (dsts xs ys C S) (nbut (dsts xs ys C S) (-1))
  have dl : (dsts xs ys C S).length = C.length := List.length_map _
  refine VW.aload_n dX8_doubtNow_0 rfl ?_
  refine VW.fvV0 cv_X8_doubtNow_X8_pathStroke dX8_doubtNow_1 (Nat.le_of_ble_eq_true rfl) (by have := hm.1; omega) hm.2.1 (t_pathStroke hst hm hz ok) (fun μ1 h1 => ?_)
  obtain ⟨h1q, h1k, h1f⟩ := h1
  have z1 := hz.keep h1f (by decide)
  have sk := stk_ok (S := S) ok3 ok4 (by omega : xs.length ≤ 41)
  have fn : frK aL bN μ μ1 := h1f.wid (by decide) (by decide)
  have hk1 := h1k
  refine VW.aload_n dX8_doubtNow_4 rfl ?_
  refine VW.iconst dX8_doubtNow_5 ?_
  refine VW.fiV1 cv_X8_doubtNow_X8_nearest dX8_doubtNow_6 (Nat.le_of_ble_eq_true rfl) (by have := hm.1; omega) hm.2.1 (t_nearest hst hm z1 ok hk1 sk.1 sk.2 (w := -1) (by decide)) (fun r2 μ2 h2 => ?_)
  obtain ⟨rfl, h2f⟩ := h2
  have z2 := z1.keep h2f (by decide)
  have hk2 := hk1.keep h2f (by decide) (by decide)
  rw [show nbut (C.map (dstOf S (stk xs ys S))) (-1) = (nbut (dsts xs ys C S) (-1)) from rfl]
  refine VW.istore_n (lv' := [(0, _), (1, _)]) dX8_doubtNow_9 (by decide) rfl ?_
  refine VW.aload_n dX8_doubtNow_10 rfl ?_
  refine VW.iload_n dX8_doubtNow_11 rfl ?_
  refine VW.fiV1 cv_X8_doubtNow_X8_nearest dX8_doubtNow_12 (Nat.le_of_ble_eq_true rfl) (by have := hm.1; omega) hm.2.1 (t_nearest hst hm z2 ok hk2 sk.1 sk.2 (w := (nbut (dsts xs ys C S) (-1))) ⟨by omega, by omega⟩) (fun r3 μ3 h3 => ?_)
  obtain ⟨rfl, h3f⟩ := h3
  have z3 := z2.keep h3f (by decide)
  have hk3 := hk2.keep h3f (by decide) (by decide)
  rw [show nbut (C.map (dstOf S (stk xs ys S))) (nbut (dsts xs ys C S) (-1)) = (nbut (dsts xs ys C S) (nbut (dsts xs ys C S) (-1))) from rfl]
  refine VW.istore_n (lv' := [(0, _), (1, _), (2, _)]) dX8_doubtNow_15 (by decide) rfl ?_
  refine VW.iload_n dX8_doubtNow_16 rfl ?_
  refine VW.iconst dX8_doubtNow_17 ?_
  refine VW.icmp_eq 26 ⟨by omega, by omega⟩ ⟨by omega, by omega⟩ dX8_doubtNow_18 (by decide) (fun c18 => ?_) (fun c18 => ?_)
  · refine VW.dconst0 dX8_doubtNow_26 ?_
    refine VW.dreturn dX8_doubtNow_27 rfl ?_
    exact fxP.dd ⟨(if_pos (by omega)).symm, (fn.tr (h2f.wid (by decide) (by decide))).tr (h3f.wid (by decide) (by decide))⟩
  · refine VW.iload_n dX8_doubtNow_21 rfl ?_
    refine VW.iconst dX8_doubtNow_22 ?_
    refine VW.icmp_ne 28 ⟨by omega, by omega⟩ ⟨by omega, by omega⟩ dX8_doubtNow_23 (by decide) (fun c23 => ?_) (fun c23 => ?_)
    · have rr1 := rat_b db (i := (nbut (dsts xs ys C S) (-1))) (by omega) (by omega)
      have rr2 := rat_b db (i := (nbut (dsts xs ys C S) (nbut (dsts xs ys C S) (-1)))) (by omega) (by omega)
      have rr3 := nbut_le (D := dsts xs ys C S) (by omega) (by omega)
      refine VW.aload_n dX8_doubtNow_28 rfl ?_
      refine VW.iload_n dX8_doubtNow_29 rfl ?_
      refine VW.fiV1 cv_X8_doubtNow_X8_distanceFrom dX8_doubtNow_30 (Nat.le_of_ble_eq_true rfl) (by have := hm.1; omega) hm.2.1 (t_distanceFrom hst hm z3 ok (c := (nbut (dsts xs ys C S) (nbut (dsts xs ys C S) (-1)))) ⟨by omega, by omega⟩ hk3 sk.1 sk.2) (fun r4 μ4 h4 => ?_)
      obtain ⟨rfl, -, h4f⟩ := h4
      have z4 := z3.keep h4f (by decide)
      have hk4 := hk3.keep h4f (by decide) (by decide)
      rw [show dstOf S (stk xs ys S) (C.getD (nbut (dsts xs ys C S) (nbut (dsts xs ys C S) (-1))).toNat []) = (rat (dsts xs ys C S) (nbut (dsts xs ys C S) (nbut (dsts xs ys C S) (-1)))) from (rat_map (dstOf S (stk xs ys S)) (C := C) (c := (nbut (dsts xs ys C S) (nbut (dsts xs ys C S) (-1)))) ⟨by omega, by omega⟩).symm]
      refine VW.istore_n (lv' := [(0, _), (1, _), (2, _), (3, _)]) dX8_doubtNow_33 (by decide) rfl ?_
      refine VW.iload_n dX8_doubtNow_34 rfl ?_
      refine VW.if_ne 42 ⟨by omega, by omega⟩ dX8_doubtNow_35 (by decide) (fun c35 => ?_) (fun c35 => ?_)
      · refine VW.aload_n dX8_doubtNow_42 rfl ?_
        refine VW.iload_n dX8_doubtNow_43 rfl ?_
        refine VW.fiV1 cv_X8_doubtNow_X8_distanceFrom dX8_doubtNow_44 (Nat.le_of_ble_eq_true rfl) (by have := hm.1; omega) hm.2.1 (t_distanceFrom hst hm z4 ok (c := (nbut (dsts xs ys C S) (-1))) ⟨by omega, by omega⟩ hk4 sk.1 sk.2) (fun r5 μ5 h5 => ?_)
        obtain ⟨rfl, -, h5f⟩ := h5
        rw [show dstOf S (stk xs ys S) (C.getD (nbut (dsts xs ys C S) (-1)).toNat []) = (rat (dsts xs ys C S) (nbut (dsts xs ys C S) (-1))) from (rat_map (dstOf S (stk xs ys S)) (C := C) (c := (nbut (dsts xs ys C S) (-1))) ⟨by omega, by omega⟩).symm]
        refine VW.i2d (x := (Jvm.FP.i2d (Int32.ofInt (rat (dsts xs ys C S) (nbut (dsts xs ys C S) (-1)))))) dX8_doubtNow_47 rfl ?_
        refine VW.iload_n dX8_doubtNow_48 rfl ?_
        refine VW.i2d (x := (Jvm.FP.i2d (Int32.ofInt (rat (dsts xs ys C S) (nbut (dsts xs ys C S) (nbut (dsts xs ys C S) (-1))))))) dX8_doubtNow_49 rfl ?_
        refine VW.ddiv (x := (sh64 (rat (dsts xs ys C S) (nbut (dsts xs ys C S) (-1))) (rat (dsts xs ys C S) (nbut (dsts xs ys C S) (nbut (dsts xs ys C S) (-1)))))) dX8_doubtNow_50 (sh64_n (a := (rat (dsts xs ys C S) (nbut (dsts xs ys C S) (-1)))) (t := (rat (dsts xs ys C S) (nbut (dsts xs ys C S) (nbut (dsts xs ys C S) (-1))))) (by omega) (by omega) (by omega) (by omega)).1 rfl ?_
        refine VW.dreturn dX8_doubtNow_51 rfl ?_
        first
        | exact fxP.dd ⟨((if_neg (by omega)).trans (if_pos (by omega))).symm, ((fn.tr (h2f.wid (by decide) (by decide))).tr (h3f.wid (by decide) (by decide))).tr (h4f.wid (by decide) (by decide))⟩
        | exact fxP.dd ⟨((if_neg (by omega)).trans (if_neg (by omega))).symm, (((fn.tr (h2f.wid (by decide) (by decide))).tr (h3f.wid (by decide) (by decide))).tr (h4f.wid (by decide) (by decide))).tr (h5f.wid (by decide) (by decide))⟩
      · refine VW.dconst0 dX8_doubtNow_38 ?_
        refine VW.goto 51 dX8_doubtNow_39 (by decide) ?_
        refine VW.dreturn dX8_doubtNow_51 rfl ?_
        first
        | exact fxP.dd ⟨((if_neg (by omega)).trans (if_pos (by omega))).symm, ((fn.tr (h2f.wid (by decide) (by decide))).tr (h3f.wid (by decide) (by decide))).tr (h4f.wid (by decide) (by decide))⟩
        | exact fxP.dd ⟨((if_neg (by omega)).trans (if_neg (by omega))).symm, (((fn.tr (h2f.wid (by decide) (by decide))).tr (h3f.wid (by decide) (by decide))).tr (h4f.wid (by decide) (by decide))).tr (h5f.wid (by decide) (by decide))⟩
    · refine VW.dconst0 dX8_doubtNow_26 ?_
      refine VW.dreturn dX8_doubtNow_27 rfl ?_
      exact fxP.dd ⟨(if_pos (by omega)).symm, (fn.tr (h2f.wid (by decide) (by decide))).tr (h3f.wid (by decide) (by decide))⟩
theorem t_straightness (hst : l.stackTraces = false) (hm : isM N sh) (h : hasM μ xs ys C S Z B) (ok : okS ((xs, ys), C, S)) : Zi G l N sh M_X8_straightness [.ref (gB G + 273)] μ (fun r μ' => r = strt xs ys ∧ frK aL bL μ μ') := by
  refine Fx.of hst rfl (by decide +kernel) (Nat.le_of_ble_eq_true rfl) rfl ?_
  obtain ⟨⟨ok1, ok2, ok3, ok4⟩, ⟨ok5, ok6, ok7⟩, ok8⟩ := okS.un ok
  obtain ⟨hz, hn, hh, hb, hB⟩ := id h
  obtain ⟨hw5, hw0, hw1, hw2, hw3, hw4⟩ := id ok8
  have z5 : μ 274 5 = (xs.length : Int) := hz.2.1
  have z6 : μ 274 6 = (C.length : Int) := hz.2.2.1
  refine VW.aload_n dX8_straightness_0 rfl ?_
  refine VW.iconst dX8_straightness_1 ?_
  refine VW.putI dX8_straightness_2 fp_X8_43 (by have := hm.1; omega) hm.2.1 rfl ?_
  have gt : frK aL bL μ (mup μ 273 5 0) := frK_f.wid (by decide) (by decide)
  have ht : zR ((mup μ 273 5 0) 274) xs ys C S := hz.keep (frK_f : frK [] [5] μ _) (by decide)
  refine VW.aload_n dX8_straightness_5 rfl ?_
  refine VW.fiV0 cv_X8_straightness_X8_straightNow dX8_straightness_6 (Nat.le_of_ble_eq_true rfl) (by have := hm.1; omega) hm.2.1 (t_straightNow hst hm ht ok) (fun r9 μ9 h9 => ?_)
  refine VW.ireturn dX8_straightness_9 rfl rfl ?_
  exact fxP.ii ⟨h9.1, gt.tr (h9.2.wid (by decide) (by decide))⟩
theorem t_doubt (hst : l.stackTraces = false) (hm : isM N sh) (h : hasM μ xs ys C S Z B) (ok : okS ((xs, ys), C, S)) : Zd G l N sh M_X8_doubt [.ref (gB G + 273)] μ (fun r μ' => r = dbt xs ys C S ∧ frK aL bL μ μ') := by
  refine Fx.of hst rfl (by decide +kernel) (Nat.le_of_ble_eq_true rfl) rfl ?_
  obtain ⟨⟨ok1, ok2, ok3, ok4⟩, ⟨ok5, ok6, ok7⟩, ok8⟩ := okS.un ok
  obtain ⟨hz, hn, hh, hb, hB⟩ := id h
  obtain ⟨hw5, hw0, hw1, hw2, hw3, hw4⟩ := id ok8
  have z5 : μ 274 5 = (xs.length : Int) := hz.2.1
  have z6 : μ 274 6 = (C.length : Int) := hz.2.2.1
  refine VW.aload_n dX8_doubt_0 rfl ?_
  refine VW.iconst dX8_doubt_1 ?_
  refine VW.putI dX8_doubt_2 fp_X8_43 (by have := hm.1; omega) hm.2.1 rfl ?_
  have gt : frK aL bL μ (mup μ 273 5 0) := frK_f.wid (by decide) (by decide)
  have ht : zR ((mup μ 273 5 0) 274) xs ys C S := hz.keep (frK_f : frK [] [5] μ _) (by decide)
  refine VW.aload_n dX8_doubt_5 rfl ?_
  refine VW.fdV0 cv_X8_doubt_X8_doubtNow dX8_doubt_6 (Nat.le_of_ble_eq_true rfl) (by have := hm.1; omega) hm.2.1 (t_doubtNow hst hm ht ok) (fun r9 μ9 h9 => ?_)
  refine VW.dreturn dX8_doubt_9 rfl ?_
  exact fxP.dd ⟨h9.1, gt.tr (h9.2.wid (by decide) (by decide))⟩
end PSD
