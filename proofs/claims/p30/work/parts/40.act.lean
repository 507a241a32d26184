/-! ===== act: one act of the law, beside the class ===== -/
section PAH
variable {μ μ' : Mem} {xs ys S D : List Int} {C : List (List Int)} {Z : List St} {zl v : Int}
theorem hasL.z (h : hasL μ xs ys C S zl) : hasL (mup μ 273 2 v) xs ys C S v := by
  obtain ⟨h1, h2, h3, ⟨s0, s1, s2, s3, s4⟩, h5, h6, h7⟩ := h
  exact ⟨by rw [mup_k (by decide)]; exact h1, by rw [mup_k (by decide)]; exact h2, mup_s _ _ _ _, ⟨by rw [mup_k (by decide)]; exact s0, by rw [mup_k (by decide)]; exact s1, by rw [mup_k (by decide)]; exact s2, by rw [mup_k (by decide)]; exact s3, by rw [mup_k (by decide)]; exact s4⟩, h5.same (mup_n (by decide)), h6.same (mup_n (by decide)), h7.eq (mup_n (by decide))⟩
theorem hasL.zero (h : hasL μ xs ys C S zl) : hasL (mup μ 273 0 0) [] [] C S zl := by
  obtain ⟨h1, h2, h3, ⟨s0, s1, s2, s3, s4⟩, h5, h6, h7⟩ := h
  exact ⟨mup_s _ _ _ _, by rw [mup_k (by decide)]; exact h2, by rw [mup_k (by decide)]; exact h3, ⟨by rw [mup_k (by decide)]; exact s0, by rw [mup_k (by decide)]; exact s1, by rw [mup_k (by decide)]; exact s2, by rw [mup_k (by decide)]; exact s3, by rw [mup_k (by decide)]; exact s4⟩, fun k hk => by simp at hk; omega, fun k hk => by simp at hk; omega, h7.eq (mup_n (by decide))⟩
theorem hasL.push {x y : Int} (h : hasL μ xs ys C S zl) (e : ys.length = xs.length) : hasL (mup (mup (mup μ 274 xs.length x) 273 0 ((xs.length : Int) + 1)) 275 xs.length y) (xs ++ [x]) (ys ++ [y]) C S zl := by
  obtain ⟨h1, h2, h3, ⟨s0, s1, s2, s3, s4⟩, h5, h6, h7⟩ := h
  refine ⟨?_, ?_, ?_, ⟨?_, ?_, ?_, ?_, ?_⟩, ?_, ?_, ?_⟩
  · rw [mup_n (by decide), mup_s, List.length_append, List.length_singleton]; push_cast; rfl
  · rw [mup_n (by decide), mup_k (by decide), mup_n (by decide)]; exact h2
  · rw [mup_n (by decide), mup_k (by decide), mup_n (by decide)]; exact h3
  · rw [mup_n (by decide), mup_k (by decide), mup_n (by decide)]; exact s0
  · rw [mup_n (by decide), mup_k (by decide), mup_n (by decide)]; exact s1
  · rw [mup_n (by decide), mup_k (by decide), mup_n (by decide)]; exact s2
  · rw [mup_n (by decide), mup_k (by decide), mup_n (by decide)]; exact s3
  · rw [mup_n (by decide), mup_k (by decide), mup_n (by decide)]; exact s4
  · exact h5.push.same ((mup_n (by decide)).trans (mup_n (by decide)))
  · rw [← e]
    exact (h6.same ((mup_n (by decide)).trans (mup_n (by decide)))).push
  · exact h7.eq ((mup_n (by decide)).trans ((mup_n (by decide)).trans (mup_n (by decide))))
theorem hasNS.at (h : hasNS μ S) {s : Int} (hs : 0 ≤ s ∧ s < 5) : μ 273 (3 + s).toNat = rat S s := by
  obtain ⟨s0, s1, s2, s3, s4⟩ := h
  rcases (by omega : s = 0 ∨ s = 1 ∨ s = 2 ∨ s = 3 ∨ s = 4) with rfl | rfl | rfl | rfl | rfl
  · exact s0
  · exact s1
  · exact s2
  · exact s3
  · exact s4
theorem hasNS.set (h : hasNS μ S) (h5 : S.length = 5) {s : Int} (hs : 0 ≤ s ∧ s < 5) : hasNS (mup μ 273 (3 + s).toNat v) (S.set s.toNat v) := by
  obtain ⟨s0, s1, s2, s3, s4⟩ := h
  have r : ∀ j : Int, 0 ≤ j ∧ j < 5 → rat (S.set s.toNat v) j = if j = s then v else rat S j := fun j hj => rat_set (by omega) (by omega)
  unfold hasNS
  rw [r 0 (by omega), r 1 (by omega), r 2 (by omega), r 3 (by omega), r 4 (by omega)]
  rcases (by omega : s = 0 ∨ s = 1 ∨ s = 2 ∨ s = 3 ∨ s = 4) with rfl | rfl | rfl | rfl | rfl
  · exact ⟨mup_s _ _ _ _, (mup_k (by decide)).trans s1, (mup_k (by decide)).trans s2, (mup_k (by decide)).trans s3, (mup_k (by decide)).trans s4⟩
  · exact ⟨(mup_k (by decide)).trans s0, mup_s _ _ _ _, (mup_k (by decide)).trans s2, (mup_k (by decide)).trans s3, (mup_k (by decide)).trans s4⟩
  · exact ⟨(mup_k (by decide)).trans s0, (mup_k (by decide)).trans s1, mup_s _ _ _ _, (mup_k (by decide)).trans s3, (mup_k (by decide)).trans s4⟩
  · exact ⟨(mup_k (by decide)).trans s0, (mup_k (by decide)).trans s1, (mup_k (by decide)).trans s2, mup_s _ _ _ _, (mup_k (by decide)).trans s4⟩
  · exact ⟨(mup_k (by decide)).trans s0, (mup_k (by decide)).trans s1, (mup_k (by decide)).trans s2, (mup_k (by decide)).trans s3, mup_s _ _ _ _⟩
theorem hasL.setS (h : hasL μ xs ys C S zl) (h5 : S.length = 5) {s : Int} (hs : 0 ≤ s ∧ s < 5) : hasL (mup μ 273 (3 + s).toNat v) xs ys C (S.set s.toNat v) zl := by
  obtain ⟨h1, h2, h3, h4, h5', h6, h7⟩ := h
  exact ⟨by rw [mup_k (by omega)]; exact h1, by rw [mup_k (by omega)]; exact h2, by rw [mup_k (by omega)]; exact h3, h4.set h5 hs, h5'.same (mup_n (by decide)), h6.same (mup_n (by decide)), h7.eq (mup_n (by decide))⟩
theorem kp_lt {σ : St} (h : Z.length < 6) : ((kp Z σ).length : Int) = (Z.length : Int) + 1 := by
  unfold kp
  rw [if_neg (by omega), List.length_append, List.length_singleton]
  push_cast
  rfl
theorem kp_ge {σ : St} (h : Z.length = 6) : ((kp Z σ).length : Int) = (Z.length : Int) := by
  unfold kp
  rw [if_pos h, List.length_append, List.length_singleton, List.length_drop]
  omega
/-- whether one more step stays on the lattice -/
theorem step_in {c s j : Int} (hc : 0 ≤ c ∧ c ≤ 31) (hs : -1 ≤ s ∧ s ≤ 1) (hj : 0 ≤ j ∧ j < 6) : ((0 ≤ c + s * (j + 1) ∧ c + s * (j + 1) < 32) ↔ j + 1 ≤ stepsW c s) ∧ -100 ≤ c + s * (j + 1) ∧ c + s * (j + 1) ≤ 100 := by
  unfold stepsW
  rcases (by omega : s = -1 ∨ s = 0 ∨ s = 1) with rfl | rfl | rfl
  · rw [if_neg (by decide), if_neg (by decide)]; omega
  · rw [if_pos (by decide)]; omega
  · rw [if_neg (by decide), if_pos (by decide)]; omega
theorem set_back {s : Int} (hs : 0 ≤ s ∧ s < S.length) : (S.set s.toNat v).set s.toNat (rat S s) = S := by
  rw [List.set_set]
  apply List.ext_getElem?
  intro j
  rw [List.getElem?_set]
  by_cases e : s.toNat = j
  · subst e
    have hl : s.toNat < S.length := by omega
    have e2 : rat S s = S.getD s.toNat 0 := by unfold rat; rw [if_pos (by omega)]
    rw [if_pos rfl, if_pos hl, e2]
    simp [List.getD, hl]
  · rw [if_neg e]
def aP : Int → Mem → Prop := fun r μ'' => r = 1 ∧ ∃ xs ys C S Z, Inv μ'' xs ys C S Z
end PAH
section PAC
variable {G : GT} {l : Launch} {N : Nat} {sh : Nat → ShT} {μ μ' : Mem} {xs ys S D Ln : List Int} {C : List (List Int)} {d : Nat}
variable {Z : List St} {p k m : Nat} {Φ : RT → Prop} {c q y act : Int} {sh0 : Nat → ShT}
theorem act_begin (hst : l.stackTraces = false) (hg : isG N sh) (hl : isL N sh) (ht : isT N sh d) (hI : Inv μ xs ys C S Z) (hN : p + k = N) (hk : k ≤ 3) (hm : m ≤ 82) (hsh : los p sh0 sh) {x : Int} : VW G l (some p) M_L_act 434 [(0, .ref (gB G + 0)), (1, vI x), (2, vI y), (3, .ref (gB G + 273)), (4, .ref (gB G + 274)), (5, .ref (gB G + 275)), (6, .ref (gB G + 276)), (7, vI act), (8, .ref (gB G + d)), (9, .ref (gB G + (d + 1))), (10, .ref (gB G + (d + 2)))] [] (N, sh, μ) k m (xaP p sh0 70 700 aP) := by
  obtain ⟨hA, ok, hL, hok, hpw⟩ := id hI
  obtain ⟨⟨⟨ok1, ok2, ok3, ok4⟩, ⟨ok5, ok6, ok7⟩, ok8⟩, ⟨ok9, ok10⟩, ok11, ok12⟩ := okA.un ok
  have hd1 := ht.1.1
  have hd2 := ht.1.2
  have h7 := hok.1
  refine VW.aload_n dL_act_434 rfl ?_
  refine VW.iconst dL_act_435 ?_
  refine VW.iaload dL_act_436 (hl.1 273 (by decide)) hl.2.1 (by omega) (by omega) (by decide) ?_
  rw [show μ 273 (0 : Int).toNat = (xs.length : Int) from hL.1]
  refine VW.istore (lv' := [(0, _), (1, _), (2, _), (3, _), (4, _), (5, _), (6, _), (7, _), (8, _), (9, _), (10, _), (11, _)]) dL_act_437 (by decide) rfl ?_
  refine VW.aload_n dL_act_439 rfl ?_
  refine VW.iconst dL_act_440 ?_
  refine VW.iconst dL_act_441 ?_
  refine VW.iastore dL_act_442 (hl.1 273 (by decide)) hl.2.1 (by omega) (by omega) (by decide) ?_
  refine VW.nmm (fun μw hμw => ?_)
  have Lw : hasL μw [] [] C S Z.length := by
    rw [hμw]
    exact hL.zero
  have Aw : hasA μw (mk xs ys C S Z []) := by
    rw [hμw]
    exact hA.keep (frm_mup (lo := 273) (hi := 277) ⟨by decide, by decide⟩) (Nat.le_refl _)
  obtain ⟨σ0, hσ⟩ : ∃ σ0 : St, σ0 = ((xs, ys), C, S) := ⟨_, rfl⟩
  refine VW.aload_n dL_act_443 rfl ?_
  refine VW.iconst dL_act_444 ?_
  refine VW.iaload dL_act_445 (hl.1 273 (by decide)) hl.2.1 (by omega) (by omega) (by decide) ?_
  rw [show μw 273 (2 : Int).toNat = (Z.length : Int) from Lw.2.2.1]
  refine VW.bipush dL_act_446 rfl ?_
  refine VW.icmp_ge 458 ⟨by omega, by omega⟩ ⟨by omega, by omega⟩ dL_act_448 (by decide) (fun c448 => ?_) (fun c448 => ?_)
  · refine VW.nmm (fun μz hμz => ?_)
    have LZ : hasL μz [] [] C S ((kp Z σ0).length : Int) := by
      rw [hμz, kp_ge (by omega)]
      exact Lw
    have AZ : hasA μz (mk xs ys C S Z []) := by
      rw [hμz]
      exact Aw
    refine VW.aload_n dL_act_458 rfl ?_
    refine VW.gPc (av := []) cv_L_act_X7_begin dL_act_459 rfl (Nat.le_of_ble_eq_true rfl) (gLt hg) hg.2.1 (g_begin hst hg AZ ok) rfl (fun μ9 h9 f9 => ?_)
    have LF := LZ.rl (n := 277) (rl.rf.f f9) (Nat.le_refl _)
    rw [hσ] at LF
    refine VW.iload dL_act_462 rfl ?_
    refine VW.icmp_neS 471 dL_act_464 (by decide) ?_
    refine VW.iconst dL_act_467 ?_
    refine VW.goto 472 dL_act_468 (by decide) ?_
    refine VW.ireturn dL_act_472 rfl rfl ?_
    exact xaP.i (by omega) (by omega) (by omega) hsh ⟨rfl, _, _, _, _, _, h9, okA_begin ok, LF, hok, hpw⟩
  · refine VW.aload_n dL_act_451 rfl ?_
    refine VW.iconst dL_act_452 ?_
    refine VW.dup2 dL_act_453 rfl rfl ?_
    refine VW.iaload dL_act_454 (hl.1 273 (by decide)) hl.2.1 (by omega) (by omega) (by decide) ?_
    rw [show μw 273 (2 : Int).toNat = (Z.length : Int) from Lw.2.2.1]
    refine VW.iconst dL_act_455 ?_
    refine VW.iadd dL_act_456 ?_
    refine VW.iastore dL_act_457 (hl.1 273 (by decide)) hl.2.1 (by omega) (by omega) (by decide) ?_
    refine VW.nmm (fun μz hμz => ?_)
    have LZ : hasL μz [] [] C S ((kp Z σ0).length : Int) := by
      rw [hμz, kp_lt (by omega)]
      exact Lw.z
    have AZ : hasA μz (mk xs ys C S Z []) := by
      rw [hμz]
      exact Aw.keep (frm_mup (lo := 273) (hi := 277) ⟨by decide, by decide⟩) (Nat.le_refl _)
    refine VW.aload_n dL_act_458 rfl ?_
    refine VW.gPc (av := []) cv_L_act_X7_begin dL_act_459 rfl (Nat.le_of_ble_eq_true rfl) (gLt hg) hg.2.1 (g_begin hst hg AZ ok) rfl (fun μ9 h9 f9 => ?_)
    have LF := LZ.rl (n := 277) (rl.rf.f f9) (Nat.le_refl _)
    rw [hσ] at LF
    refine VW.iload dL_act_462 rfl ?_
    refine VW.icmp_neS 471 dL_act_464 (by decide) ?_
    refine VW.iconst dL_act_467 ?_
    refine VW.goto 472 dL_act_468 (by decide) ?_
    refine VW.ireturn dL_act_472 rfl rfl ?_
    exact xaP.i (by omega) (by omega) (by omega) hsh ⟨rfl, _, _, _, _, _, h9, okA_begin ok, LF, hok, hpw⟩
theorem act_point (hst : l.stackTraces = false) (hg : isG N sh) (hl : isL N sh) (ht : isT N sh d) (hI : Inv μ xs ys C S Z) (hN : p + k = N) (hk : k ≤ 3) (hm : m ≤ 82) (hsh : los p sh0 sh) {x : Int} (h40 : xs.length < 40) : VW G l (some p) M_L_act 341 [(0, .ref (gB G + 0)), (1, vI x), (2, vI y), (3, .ref (gB G + 273)), (4, .ref (gB G + 274)), (5, .ref (gB G + 275)), (6, .ref (gB G + 276)), (7, vI act), (8, .ref (gB G + d)), (9, .ref (gB G + (d + 1))), (10, .ref (gB G + (d + 2)))] [] (N, sh, μ) k m (xaP p sh0 70 700 aP) := by
  obtain ⟨hA, ok, hL, hok, hpw⟩ := id hI
  obtain ⟨⟨⟨ok1, ok2, ok3, ok4⟩, ⟨ok5, ok6, ok7⟩, ok8⟩, ⟨ok9, ok10⟩, ok11, ok12⟩ := okA.un ok
  have hd1 := ht.1.1
  have hd2 := ht.1.2
  have h7 := hok.1
  refine VW.aload dL_act_341 rfl ?_
  refine VW.aload_n dL_act_343 rfl ?_
  refine VW.iconst dL_act_344 ?_
  refine VW.iaload dL_act_345 (hl.1 273 (by decide)) hl.2.1 (by omega) (by omega) (by decide) ?_
  rw [show μ 273 (0 : Int).toNat = (xs.length : Int) from hL.1]
  refine VW.iload_n dL_act_346 rfl ?_
  refine VW.bipush dL_act_347 rfl ?_
  refine VW.zqS (av := [vI y, vI 32]) cs_L_act_L_at dL_act_349 rfl (Nat.le_of_ble_eq_true rfl) (l_at hst ⟨by omega, by omega⟩) (fun r1 hr1 => ?_)
  refine VW.iastore dL_act_352 (hl.1 274 (by decide)) hl.2.2.1 (by omega) (by omega) (by decide) ?_
  refine VW.aload dL_act_353 rfl ?_
  refine VW.aload_n dL_act_355 rfl ?_
  refine VW.iconst dL_act_356 ?_
  refine VW.dup2 dL_act_357 rfl rfl ?_
  refine VW.iaload dL_act_358 (hl.1 273 (by decide)) hl.2.1 (by omega) (by omega) (by decide) ?_
  rw [show mup μ 274 (xs.length : Int).toNat r1 273 (0 : Int).toNat = (xs.length : Int) from (congrFun (mup_n (by decide)) _).trans hL.1]
  refine VW.dup_x2 dL_act_359 rfl rfl rfl ?_
  refine VW.iconst dL_act_360 ?_
  refine VW.iadd dL_act_361 ?_
  refine VW.iastore dL_act_362 (hl.1 273 (by decide)) hl.2.1 (by omega) (by omega) (by decide) ?_
  refine VW.iload_n dL_act_363 rfl ?_
  refine VW.bipush dL_act_364 rfl ?_
  refine VW.ishrX dL_act_366 (fun x366 hx366 => ?_)
  refine VW.bipush dL_act_367 rfl ?_
  refine VW.zqS (av := [vI x366, vI 32]) cs_L_act_L_at dL_act_369 rfl (Nat.le_of_ble_eq_true rfl) (l_at hst ⟨by omega, by omega⟩) (fun r2 hr2 => ?_)
  refine VW.iastore dL_act_372 (hl.1 275 (by decide)) hl.2.2.2.1 (by omega) (by omega) (by decide) ?_
  refine VW.nmm (fun μw hμw => ?_)
  have Lw : hasL μw (xs ++ [r1]) (ys ++ [r2]) C S Z.length := by
    rw [hμw, Int.toNat_natCast]
    exact hL.push ok1
  have Aw : hasA μw (mk xs ys C S Z []) := by
    rw [hμw]
    exact hA.keep (((frm_mup (lo := 273) (hi := 277) ⟨by decide, by decide⟩).tr (frm_mup ⟨by decide, by decide⟩)).tr (frm_mup ⟨by decide, by decide⟩)) (Nat.le_refl _)
  obtain ⟨σ0, hσ⟩ : ∃ σ0 : St, σ0 = ((xs, ys), C, S) := ⟨_, rfl⟩
  refine VW.aload_n dL_act_373 rfl ?_
  refine VW.iconst dL_act_374 ?_
  refine VW.iaload dL_act_375 (hl.1 273 (by decide)) hl.2.1 (by omega) (by omega) (by decide) ?_
  rw [show μw 273 (2 : Int).toNat = (Z.length : Int) from Lw.2.2.1]
  refine VW.bipush dL_act_376 rfl ?_
  refine VW.icmp_ge 388 ⟨by omega, by omega⟩ ⟨by omega, by omega⟩ dL_act_378 (by decide) (fun c378 => ?_) (fun c378 => ?_)
  · refine VW.nmm (fun μz hμz => ?_)
    have LZ : hasL μz (xs ++ [r1]) (ys ++ [r2]) C S ((kp Z σ0).length : Int) := by
      rw [hμz, kp_ge (by omega)]
      exact Lw
    have AZ : hasA μz (mk xs ys C S Z []) := by
      rw [hμz]
      exact Aw
    have hl9 : (((xs ++ [r1]).length : Nat) : Int) = (xs.length : Int) + 1 := by rw [List.length_append, List.length_singleton]; push_cast; rfl
    have hon : onLat r1 r2 = true := by unfold onLat; rw [decide_eq_true_eq]; omega
    have hop : opPoint xs ys C S Z [] r1 r2 = ((0, (xs.length : Int) + 1), mk2 (xs ++ [r1]) (ys ++ [r2]) C S xs ys C S Z []) := (if_neg (fun q9 => q9 hon)).trans (if_neg (by omega))
    have hok9 := okA_point ok r1 r2
    rw [hop] at hok9
    refine VW.aload_n dL_act_388 rfl ?_
    refine VW.aload dL_act_389 rfl ?_
    refine VW.aload_n dL_act_391 rfl ?_
    refine VW.iconst dL_act_392 ?_
    refine VW.iaload dL_act_393 (hl.1 273 (by decide)) hl.2.1 (by omega) (by omega) (by decide) ?_
    rw [show μz 273 (0 : Int).toNat = ((xs ++ [r1]).length : Int) from LZ.1]
    refine VW.iconst dL_act_394 ?_
    refine VW.isub dL_act_395 ?_
    refine VW.iaload dL_act_396 (hl.1 274 (by decide)) hl.2.2.1 (by omega) (by omega) (by decide) ?_
    have e9 : (((xs ++ [r1]).length : Nat) : Int) - 1 = (xs.length : Int) := by rw [List.length_append, List.length_singleton]; omega
    rw [show μz 274 ((((xs ++ [r1]).length : Nat) : Int) - 1).toNat = r1 from by rw [e9]; exact (LZ.2.2.2.2.1 (xs.length : Int) ⟨by omega, by rw [List.length_append, List.length_singleton]; omega⟩).trans (by rw [rat_snoc, if_pos rfl])]
    refine VW.aload dL_act_397 rfl ?_
    refine VW.aload_n dL_act_399 rfl ?_
    refine VW.iconst dL_act_400 ?_
    refine VW.iaload dL_act_401 (hl.1 273 (by decide)) hl.2.1 (by omega) (by omega) (by decide) ?_
    rw [show μz 273 (0 : Int).toNat = ((xs ++ [r1]).length : Int) from LZ.1]
    refine VW.iconst dL_act_402 ?_
    refine VW.isub dL_act_403 ?_
    refine VW.iaload dL_act_404 (hl.1 275 (by decide)) hl.2.2.2.1 (by omega) (by omega) (by decide) ?_
    rw [show μz 275 ((((xs ++ [r1]).length : Nat) : Int) - 1).toNat = r2 from by rw [e9]; exact (LZ.2.2.2.2.2.1 (xs.length : Int) ⟨by omega, by rw [List.length_append, List.length_singleton, ok1]; omega⟩).trans (by rw [rat_snoc, if_pos (by rw [ok1])])]
    refine VW.gPc (av := [vI r1, vI r2]) cv_L_act_X7_point dL_act_405 rfl (Nat.le_of_ble_eq_true rfl) (gLt hg) hg.2.1 (g_point hst hg AZ ok ⟨by omega, by omega⟩ ⟨by omega, by omega⟩) hop (fun μ9 h9 f9 => ?_)
    have LF := LZ.rl (n := 277) (rl.rf.f f9) (Nat.le_refl _)
    rw [hσ] at LF
    refine VW.aload_n dL_act_408 rfl ?_
    refine VW.iconst dL_act_409 ?_
    refine VW.iaload dL_act_410 (hl.1 273 (by decide)) hl.2.1 (by omega) (by omega) (by decide) ?_
    rw [show μ9 273 (0 : Int).toNat = (xs.length : Int) + 1 from LF.1.trans (by rw [List.length_append, List.length_singleton]; push_cast; rfl)]
    refine VW.icmp_neS 418 dL_act_411 (by decide) ?_
    refine VW.iconst dL_act_414 ?_
    refine VW.goto 419 dL_act_415 (by decide) ?_
    refine VW.ireturn dL_act_419 rfl rfl ?_
    exact xaP.i (by omega) (by omega) (by omega) hsh ⟨rfl, _, _, _, _, _, h9, hok9, LF, hok, hpw⟩
  · refine VW.aload_n dL_act_381 rfl ?_
    refine VW.iconst dL_act_382 ?_
    refine VW.dup2 dL_act_383 rfl rfl ?_
    refine VW.iaload dL_act_384 (hl.1 273 (by decide)) hl.2.1 (by omega) (by omega) (by decide) ?_
    rw [show μw 273 (2 : Int).toNat = (Z.length : Int) from Lw.2.2.1]
    refine VW.iconst dL_act_385 ?_
    refine VW.iadd dL_act_386 ?_
    refine VW.iastore dL_act_387 (hl.1 273 (by decide)) hl.2.1 (by omega) (by omega) (by decide) ?_
    refine VW.nmm (fun μz hμz => ?_)
    have LZ : hasL μz (xs ++ [r1]) (ys ++ [r2]) C S ((kp Z σ0).length : Int) := by
      rw [hμz, kp_lt (by omega)]
      exact Lw.z
    have AZ : hasA μz (mk xs ys C S Z []) := by
      rw [hμz]
      exact Aw.keep (frm_mup (lo := 273) (hi := 277) ⟨by decide, by decide⟩) (Nat.le_refl _)
    have hl9 : (((xs ++ [r1]).length : Nat) : Int) = (xs.length : Int) + 1 := by rw [List.length_append, List.length_singleton]; push_cast; rfl
    have hon : onLat r1 r2 = true := by unfold onLat; rw [decide_eq_true_eq]; omega
    have hop : opPoint xs ys C S Z [] r1 r2 = ((0, (xs.length : Int) + 1), mk2 (xs ++ [r1]) (ys ++ [r2]) C S xs ys C S Z []) := (if_neg (fun q9 => q9 hon)).trans (if_neg (by omega))
    have hok9 := okA_point ok r1 r2
    rw [hop] at hok9
    refine VW.aload_n dL_act_388 rfl ?_
    refine VW.aload dL_act_389 rfl ?_
    refine VW.aload_n dL_act_391 rfl ?_
    refine VW.iconst dL_act_392 ?_
    refine VW.iaload dL_act_393 (hl.1 273 (by decide)) hl.2.1 (by omega) (by omega) (by decide) ?_
    rw [show μz 273 (0 : Int).toNat = ((xs ++ [r1]).length : Int) from LZ.1]
    refine VW.iconst dL_act_394 ?_
    refine VW.isub dL_act_395 ?_
    refine VW.iaload dL_act_396 (hl.1 274 (by decide)) hl.2.2.1 (by omega) (by omega) (by decide) ?_
    have e9 : (((xs ++ [r1]).length : Nat) : Int) - 1 = (xs.length : Int) := by rw [List.length_append, List.length_singleton]; omega
    rw [show μz 274 ((((xs ++ [r1]).length : Nat) : Int) - 1).toNat = r1 from by rw [e9]; exact (LZ.2.2.2.2.1 (xs.length : Int) ⟨by omega, by rw [List.length_append, List.length_singleton]; omega⟩).trans (by rw [rat_snoc, if_pos rfl])]
    refine VW.aload dL_act_397 rfl ?_
    refine VW.aload_n dL_act_399 rfl ?_
    refine VW.iconst dL_act_400 ?_
    refine VW.iaload dL_act_401 (hl.1 273 (by decide)) hl.2.1 (by omega) (by omega) (by decide) ?_
    rw [show μz 273 (0 : Int).toNat = ((xs ++ [r1]).length : Int) from LZ.1]
    refine VW.iconst dL_act_402 ?_
    refine VW.isub dL_act_403 ?_
    refine VW.iaload dL_act_404 (hl.1 275 (by decide)) hl.2.2.2.1 (by omega) (by omega) (by decide) ?_
    rw [show μz 275 ((((xs ++ [r1]).length : Nat) : Int) - 1).toNat = r2 from by rw [e9]; exact (LZ.2.2.2.2.2.1 (xs.length : Int) ⟨by omega, by rw [List.length_append, List.length_singleton, ok1]; omega⟩).trans (by rw [rat_snoc, if_pos (by rw [ok1])])]
    refine VW.gPc (av := [vI r1, vI r2]) cv_L_act_X7_point dL_act_405 rfl (Nat.le_of_ble_eq_true rfl) (gLt hg) hg.2.1 (g_point hst hg AZ ok ⟨by omega, by omega⟩ ⟨by omega, by omega⟩) hop (fun μ9 h9 f9 => ?_)
    have LF := LZ.rl (n := 277) (rl.rf.f f9) (Nat.le_refl _)
    rw [hσ] at LF
    refine VW.aload_n dL_act_408 rfl ?_
    refine VW.iconst dL_act_409 ?_
    refine VW.iaload dL_act_410 (hl.1 273 (by decide)) hl.2.1 (by omega) (by omega) (by decide) ?_
    rw [show μ9 273 (0 : Int).toNat = (xs.length : Int) + 1 from LF.1.trans (by rw [List.length_append, List.length_singleton]; push_cast; rfl)]
    refine VW.icmp_neS 418 dL_act_411 (by decide) ?_
    refine VW.iconst dL_act_414 ?_
    refine VW.goto 419 dL_act_415 (by decide) ?_
    refine VW.ireturn dL_act_419 rfl rfl ?_
    exact xaP.i (by omega) (by omega) (by omega) hsh ⟨rfl, _, _, _, _, _, h9, hok9, LF, hok, hpw⟩
theorem act_set2 (hst : l.stackTraces = false) (hg : isG N sh) (hl : isL N sh) (ht : isT N sh d) (hI : Inv μ xs ys C S Z) (hN : p + k = N) (hk : k ≤ 3) (hm : m ≤ 82) (hsh : los p sh0 sh) {s v : Int} (hs : 0 ≤ s ∧ s < 5) (hv : tbo 1 s ≤ v ∧ v ≤ tbo 2 s) {x : Int} : VW G l (some p) M_L_act 849 [(0, .ref (gB G + 0)), (1, vI x), (2, vI y), (3, .ref (gB G + 273)), (4, .ref (gB G + 274)), (5, .ref (gB G + 275)), (6, .ref (gB G + 276)), (7, vI act), (8, .ref (gB G + d)), (9, .ref (gB G + (d + 1))), (10, .ref (gB G + (d + 2))), (11, vI s), (12, vI (rat S s))] [vI v, vI (3 + s), .ref (gB G + 273)] (N, sh, μ) k m (xaP p sh0 70 700 aP) := by
  obtain ⟨hA, ok, hL, hok, hpw⟩ := id hI
  obtain ⟨⟨⟨ok1, ok2, ok3, ok4⟩, ⟨ok5, ok6, ok7⟩, ok8⟩, ⟨ok9, ok10⟩, ok11, ok12⟩ := okA.un ok
  have hd1 := ht.1.1
  have hd2 := ht.1.2
  have h7 := hok.1
  have ok8l := ok8.1
  refine VW.iastore dL_act_849 (hl.1 273 (by decide)) hl.2.1 (by omega) (by omega) (by decide) ?_
  refine VW.nmm (fun μw hμw => ?_)
  have Lw : hasL μw xs ys C (S.set s.toNat v) Z.length := by
    rw [hμw]
    exact hL.setS ok8.1 hs
  have Aw : hasA μw (mk xs ys C S Z []) := by
    rw [hμw]
    exact hA.keep (frm_mup (lo := 273) (hi := 277) ⟨by decide, by decide⟩) (Nat.le_refl _)
  have hw9 := wfS_set (v := v) ok8 hs hv
  have t12 := @tb12 s
  obtain ⟨hw5, hw0, hw1, hw2, hw3, hw4⟩ := id hw9
  have pb : pairsF (S.set s.toNat v) C ≤ 9999 := (prO_le (S.set s.toNat v) C C.length 0 9999).1
  obtain ⟨σ0, hσ⟩ : ∃ σ0 : St, σ0 = ((xs, ys), C, S) := ⟨_, rfl⟩
  refine VW.aload_n dL_act_850 rfl ?_
  refine VW.aload dL_act_851 rfl ?_
  refine VW.xS (av := [.ref (gB G + 273), .ref (gB G + 276)]) (n0 := p) cs_L_act_L_pairs dL_act_853 rfl (Nat.le_of_ble_eq_true rfl) rfl (by omega) (l_pairs hst hl Lw.2.2.2.1 hw9 Lw.2.2.2.2.2.2 Lw.2.1 hok) (fun x5 c5 s5 sh5 μ5 hc5 hs5 hl5 hp5 => ?_)
  obtain ⟨rfl, hp5⟩ := hp5
  have n7 := hl.1 276 (by decide)
  have A5 := hasA.lo Aw hp5 (by omega)
  have L5 := Lw.rl (n := 277) (rl.rf.l hp5 (by omega)) (Nat.le_refl _)
  have hl2 := hl.los hl5 (by omega : N ≤ N + c5)
  have hg2 := hg.los hl5 (by omega : N ≤ N + c5)
  have hsh := hsh.tr hl5 (by omega)
  have pb0 : 0 ≤ pairsF (S.set s.toNat v) C := by
    rw [pairs_la hw9 hok.b8]
    have lb := least_b hw9 hok.b8
    unfold big
    split <;> omega
  refine VW.iconst dL_act_856 ?_
  refine VW.aload_n dL_act_857 rfl ?_
  refine VW.bipush dL_act_858 rfl ?_
  refine VW.iaload dL_act_860 (hl2.1 273 (by decide)) hl2.2.1 (by omega) (by omega) (by decide) ?_
  rw [show μ5 273 (7 : Int).toNat = rat (S.set s.toNat v) 4 from L5.2.2.2.1.2.2.2.2]
  refine VW.imul dL_act_861 ?_
  refine VW.icmp_gt 890 ⟨by omega, by omega⟩ ⟨by omega, by omega⟩ dL_act_862 (by decide) (fun c862 => ?_) (fun c862 => ?_)
  · refine VW.aload_n dL_act_890 rfl ?_
    refine VW.iconst dL_act_891 ?_
    refine VW.iaload dL_act_892 (hl2.1 273 (by decide)) hl2.2.1 (by omega) (by omega) (by decide) ?_
    rw [show μ5 273 (2 : Int).toNat = (Z.length : Int) from L5.2.2.1]
    refine VW.bipush dL_act_893 rfl ?_
    refine VW.icmp_ge 905 ⟨by omega, by omega⟩ ⟨by omega, by omega⟩ dL_act_895 (by decide) (fun c895 => ?_) (fun c895 => ?_)
    · refine VW.nmm (fun μz hμz => ?_)
      have LZ : hasL μz xs ys C (S.set s.toNat v) ((kp Z σ0).length : Int) := by
        rw [hμz, kp_ge (by omega)]
        exact L5
      have AZ : hasA μz (mk xs ys C S Z []) := by
        rw [hμz]
        exact A5
      have hgt : 2 * rat (S.set s.toNat v) 4 < pairsF (S.set s.toNat v) C := by omega
      have hop : opSet xs ys C S Z [] s v = ((0, rat S s), mk2 xs ys C (S.set s.toNat v) xs ys C S Z []) := (if_neg (fun q9 => q9 hs)).trans ((if_neg (fun q9 => q9 hv)).trans (if_neg (fun q9 => q9 (least_gt hw9 hok.b8 hgt))))
      have hok9 := okA_set ok s v
      rw [hop] at hok9
      refine VW.aload_n dL_act_905 rfl ?_
      refine VW.iload dL_act_906 rfl ?_
      refine VW.aload_n dL_act_908 rfl ?_
      refine VW.iconst dL_act_909 ?_
      refine VW.iload dL_act_910 rfl ?_
      refine VW.iadd dL_act_912 ?_
      refine VW.iaload dL_act_913 (hl2.1 273 (by decide)) hl2.2.1 (by omega) (by omega) (by decide) ?_
      rw [show μz 273 (3 + s).toNat = v from (LZ.2.2.2.1.at hs).trans (by rw [rat_set (by omega) (by omega), if_pos rfl])]
      refine VW.gPc (av := [vI s, vI v]) cv_L_act_X7_set dL_act_914 rfl (Nat.le_of_ble_eq_true rfl) (gLt hg2) hg2.2.1 (g_set hst hg2 AZ ok ⟨by omega, by omega⟩ ⟨by omega, by omega⟩) hop (fun μ9 h9 f9 => ?_)
      have LF := LZ.rl (n := 277) (rl.rf.f f9) (Nat.le_refl _)
      rw [hσ] at LF
      refine VW.iload dL_act_917 rfl ?_
      refine VW.icmp_neS 926 dL_act_919 (by decide) ?_
      refine VW.iconst dL_act_922 ?_
      refine VW.goto 927 dL_act_923 (by decide) ?_
      refine VW.ireturn dL_act_927 rfl rfl ?_
      exact xaP.i (by omega) (by omega) (by omega) hsh ⟨rfl, _, _, _, _, _, h9, hok9, LF, hok, (pairs_pw (by omega))⟩
    · refine VW.aload_n dL_act_898 rfl ?_
      refine VW.iconst dL_act_899 ?_
      refine VW.dup2 dL_act_900 rfl rfl ?_
      refine VW.iaload dL_act_901 (hl2.1 273 (by decide)) hl2.2.1 (by omega) (by omega) (by decide) ?_
      rw [show μ5 273 (2 : Int).toNat = (Z.length : Int) from L5.2.2.1]
      refine VW.iconst dL_act_902 ?_
      refine VW.iadd dL_act_903 ?_
      refine VW.iastore dL_act_904 (hl2.1 273 (by decide)) hl2.2.1 (by omega) (by omega) (by decide) ?_
      refine VW.nmm (fun μz hμz => ?_)
      have LZ : hasL μz xs ys C (S.set s.toNat v) ((kp Z σ0).length : Int) := by
        rw [hμz, kp_lt (by omega)]
        exact L5.z
      have AZ : hasA μz (mk xs ys C S Z []) := by
        rw [hμz]
        exact A5.keep (frm_mup (lo := 273) (hi := 277) ⟨by decide, by decide⟩) (Nat.le_refl _)
      have hgt : 2 * rat (S.set s.toNat v) 4 < pairsF (S.set s.toNat v) C := by omega
      have hop : opSet xs ys C S Z [] s v = ((0, rat S s), mk2 xs ys C (S.set s.toNat v) xs ys C S Z []) := (if_neg (fun q9 => q9 hs)).trans ((if_neg (fun q9 => q9 hv)).trans (if_neg (fun q9 => q9 (least_gt hw9 hok.b8 hgt))))
      have hok9 := okA_set ok s v
      rw [hop] at hok9
      refine VW.aload_n dL_act_905 rfl ?_
      refine VW.iload dL_act_906 rfl ?_
      refine VW.aload_n dL_act_908 rfl ?_
      refine VW.iconst dL_act_909 ?_
      refine VW.iload dL_act_910 rfl ?_
      refine VW.iadd dL_act_912 ?_
      refine VW.iaload dL_act_913 (hl2.1 273 (by decide)) hl2.2.1 (by omega) (by omega) (by decide) ?_
      rw [show μz 273 (3 + s).toNat = v from (LZ.2.2.2.1.at hs).trans (by rw [rat_set (by omega) (by omega), if_pos rfl])]
      refine VW.gPc (av := [vI s, vI v]) cv_L_act_X7_set dL_act_914 rfl (Nat.le_of_ble_eq_true rfl) (gLt hg2) hg2.2.1 (g_set hst hg2 AZ ok ⟨by omega, by omega⟩ ⟨by omega, by omega⟩) hop (fun μ9 h9 f9 => ?_)
      have LF := LZ.rl (n := 277) (rl.rf.f f9) (Nat.le_refl _)
      rw [hσ] at LF
      refine VW.iload dL_act_917 rfl ?_
      refine VW.icmp_neS 926 dL_act_919 (by decide) ?_
      refine VW.iconst dL_act_922 ?_
      refine VW.goto 927 dL_act_923 (by decide) ?_
      refine VW.ireturn dL_act_927 rfl rfl ?_
      exact xaP.i (by omega) (by omega) (by omega) hsh ⟨rfl, _, _, _, _, _, h9, hok9, LF, hok, (pairs_pw (by omega))⟩
  · refine VW.aload_n dL_act_865 rfl ?_
    refine VW.iconst dL_act_866 ?_
    refine VW.iload dL_act_867 rfl ?_
    refine VW.iadd dL_act_869 ?_
    refine VW.iload dL_act_870 rfl ?_
    refine VW.iastore dL_act_872 (hl2.1 273 (by decide)) hl2.2.1 (by omega) (by omega) (by decide) ?_
    refine VW.nmm (fun μ6 hμ6 => ?_)
    have L6 : hasL μ6 xs ys C S Z.length := by
      rw [hμ6, ← set_back (S := S) (v := v) (s := s) (by omega)]
      rw [set_back (S := S) (v := v) (s := s) (by omega)]
      have t := L5.setS (v := rat S s) hw5 hs
      rw [set_back (by omega)] at t
      exact t
    have A6 : hasA μ6 (mk xs ys C S Z []) := by
      rw [hμ6]
      exact A5.keep (frm_mup (lo := 273) (hi := 277) ⟨by decide, by decide⟩) (Nat.le_refl _)
    refine VW.aload_n dL_act_873 rfl ?_
    refine VW.iload dL_act_874 rfl ?_
    refine VW.gLc (av := [vI s]) cv_L_act_X7_setting dL_act_876 rfl (Nat.le_of_ble_eq_true rfl) (gLt hg2) hg2.2.1 (g_setting hst hg2 A6 ok ⟨by omega, by omega⟩) (if_neg (fun q9 => q9 hs)) (fun μ9 h9 f9 => ?_)
    have LF := L6.rl (n := 277) (rl.rf.f f9) (Nat.le_refl _)
    refine VW.iload dL_act_879 rfl ?_
    refine VW.icmp_neS 888 dL_act_881 (by decide) ?_
    refine VW.iconst dL_act_884 ?_
    refine VW.goto 889 dL_act_885 (by decide) ?_
    refine VW.ireturn dL_act_889 rfl rfl ?_
    exact xaP.i (by omega) (by omega) (by omega) hsh ⟨rfl, _, _, _, _, _, h9, ok, LF, hok, hpw⟩
end PAC
