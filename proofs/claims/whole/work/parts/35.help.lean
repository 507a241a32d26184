/-! ===== the law's helpers ===== -/
section PZ
variable {G : GT} {l : Launch} {N : Nat} {sh : Nat → ShT} {μ μ' : Mem} {q : QS} {m : Int}
/-- a helper ends with a number; a thrown exception may have cost a cell -/
def Hx (G : GT) (l : Launch) (N : Nat) (sh : Nat → ShT) (M : MD) (av : List Value) (μ : Mem) (Ψ : Int → Mem → Prop) : Prop := ∃ r, Run G l false M av (N, sh, μ) r ∧ ∃ a μ' c s, r = (.inl (some (vI a)), (N, sh, μ'), c, s) ∧ c ≤ 1 ∧ s ≤ 6 ∧ Ψ a μ'
def lpP (N : Nat) (sh : Nat → ShT) (Ψ : Int → Mem → Prop) : RT → Prop := fun r => ∃ a μ' c s, r = (.inl (some (vI a)), (N, sh, μ'), c, s) ∧ c ≤ 1 ∧ s ≤ 6 ∧ Ψ a μ'
theorem Hx.of (hst : l.stackTraces = false) {M : MD} {av : List Value} {Ψ : Int → Mem → Prop} {h0 : Nat × Nat × Nat × Nat} {hs : List (Nat × Nat × Nat × Nat)} (hh : mH M = h0 :: hs) (hp : plainName (mY M).cls = true) (hav : (lg_sl av).length ≤ mL M) (h : VW G l none M 0 (lv_args 0 av) [] (N, sh, μ) 0 0 (lpP N sh Ψ)) : Hx G l N sh M av μ Ψ := by
  obtain ⟨r, a, b⟩ := h
  exact ⟨r, Run.ofH hst (t := false) hh hp hav b, a⟩
theorem hasA.keep {A : AS} (h : hasA μ A) {lo hi : Nat} (f : frm μ μ' lo hi) (hl : 273 ≤ lo) : hasA μ' A := hasG.keep h f (by omega) (Or.inr (by omega))
variable {q2 : Int × Int} {A : AS} {p0 p1 : Int}
theorem l_point (hst : l.stackTraces = false) {fks : List FK} (hg : 0 < N ∧ sh 0 = sO 7 fks) (h285 : 285 < N ∧ sh 285 = sL 1) (h : Fx G l N sh M_X7_point [.ref (gB G + 0), vI p0, vI p1] μ (gPo e12 q μ)) (hq : q.1.1 = 0 ∨ q.1.1 = 1 ∨ q.1.1 = 2) : Hx G l N sh M_L_point [.ref (gB G + 0), vI p0, vI p1, .ref (gB G + 285)] μ (fun k μ' => k = q.1.1 ∧ (k = 0 → μ' 285 0 = w32 q.1.2) ∧ hasA μ' q.2 ∧ ∀ i, 273 ≤ i → i ≠ 285 → μ' i = μ i) := by
  refine Hx.of hst rfl (by decide +kernel) (Nat.le_of_ble_eq_true rfl) ?_
  refine VW.aload_n dL_point_0 rfl ?_
  refine VW.iconst dL_point_1 ?_
  refine VW.aload_n dL_point_2 rfl ?_
  refine VW.iload_n dL_point_3 rfl ?_
  refine VW.iload_n dL_point_4 rfl ?_
  obtain ⟨r1, hrun, o, μ1, e, ho, hA, hf⟩ := h
  subst e
  rcases hq with hq | hq | hq
  · rw [if_pos hq] at ho
    subst ho
    refine VW.callV (av := [vI p0, vI p1]) (t := false) cv_L_point_X7_point dL_point_5 rfl (Nat.le_of_ble_eq_true rfl) hg.1 hg.2 (fun h => by cases h) ⟨_, hrun, _, rfl, ?_⟩
    refine VW.i2lw dL_point_8 ?_
    refine VW.lastore dL_point_9 h285.1 h285.2 (by decide) (by decide) (by decide) ?_
    refine VW.goto 21 dL_point_10 (by decide) ?_
    refine VW.iconst dL_point_21 ?_
    refine VW.ireturn dL_point_22 rfl rfl ?_
    have f9 : frm μ1 (mup μ1 285 (0 : Int).toNat (w32 q.1.2)) 285 286 := frm_mup (by omega)
    exact ⟨0, _, _, _, rfl, Nat.le_of_ble_eq_true rfl, Nat.le_of_ble_eq_true rfl, hq.symm, fun _ => mup_s _ _ _ _, hA.keep f9 (by omega), fun i h1 h2 => by rw [f9 i (by omega)]; exact hf i (by omega)⟩
  · rw [if_neg (by omega)] at ho
    subst ho
    refine VW.ofThrow (E := xIA) (pre := (tableOf (mH M_L_point)).take 0) (suf := (tableOf (mH M_L_point)).drop 1) (by rw [hq]; rfl) rfl (fun y hy => by cases hy) (by decide) (by decide) wd_687 (by decide +kernel) (Or.inr ⟨4, dL_point_13, rfl, by decide, rfl⟩) ?_ (callV_run (av := [vI p0, vI p1]) cv_L_point_X7_point dL_point_5 rfl (Nat.le_of_ble_eq_true rfl) hg.1 hg.2 hrun)
    refine VW.iconst dL_point_15 ?_
    refine VW.ireturn dL_point_16 rfl rfl ?_
    exact ⟨1, _, _, _, rfl, Nat.le_of_ble_eq_true rfl, Nat.le_of_ble_eq_true rfl, hq.symm, fun w => absurd w (by decide), hA, fun i h1 h2 => hf i (by omega)⟩
  · rw [if_neg (by omega)] at ho
    subst ho
    refine VW.ofThrow (E := xIS) (pre := (tableOf (mH M_L_point)).take 1) (suf := (tableOf (mH M_L_point)).drop 2) (by rw [hq]; rfl) rfl (fun y hy => by rw [List.mem_singleton.mp hy]; exact Or.inr ⟨by decide, xIA, wd_687, by decide +kernel⟩) (by decide) (by decide) wd_688 (by decide +kernel) (Or.inr ⟨4, dL_point_17, rfl, by decide, rfl⟩) ?_ (callV_run (av := [vI p0, vI p1]) cv_L_point_X7_point dL_point_5 rfl (Nat.le_of_ble_eq_true rfl) hg.1 hg.2 hrun)
    refine VW.iconst dL_point_19 ?_
    refine VW.ireturn dL_point_20 rfl rfl ?_
    exact ⟨2, _, _, _, rfl, Nat.le_of_ble_eq_true rfl, Nat.le_of_ble_eq_true rfl, hq.symm, fun w => absurd w (by decide), hA, fun i h1 h2 => hf i (by omega)⟩
theorem l_go (hst : l.stackTraces = false) {fks : List FK} (hg : 0 < N ∧ sh 0 = sO 7 fks) (h285 : 285 < N ∧ sh 285 = sL 1) (h : Fx G l N sh M_X7_go [.ref (gB G + 0), vI p0, vI p1] μ (gPo e12 q μ)) (hq : q.1.1 = 0 ∨ q.1.1 = 1 ∨ q.1.1 = 2) : Hx G l N sh M_L_go [.ref (gB G + 0), vI p0, vI p1, .ref (gB G + 285)] μ (fun k μ' => k = q.1.1 ∧ (k = 0 → μ' 285 0 = w32 q.1.2) ∧ hasA μ' q.2 ∧ ∀ i, 273 ≤ i → i ≠ 285 → μ' i = μ i) := by
  refine Hx.of hst rfl (by decide +kernel) (Nat.le_of_ble_eq_true rfl) ?_
  refine VW.aload_n dL_go_0 rfl ?_
  refine VW.iconst dL_go_1 ?_
  refine VW.aload_n dL_go_2 rfl ?_
  refine VW.iload_n dL_go_3 rfl ?_
  refine VW.iload_n dL_go_4 rfl ?_
  obtain ⟨r1, hrun, o, μ1, e, ho, hA, hf⟩ := h
  subst e
  rcases hq with hq | hq | hq
  · rw [if_pos hq] at ho
    subst ho
    refine VW.callV (av := [vI p0, vI p1]) (t := false) cv_L_go_X7_go dL_go_5 rfl (Nat.le_of_ble_eq_true rfl) hg.1 hg.2 (fun h => by cases h) ⟨_, hrun, _, rfl, ?_⟩
    refine VW.i2lw dL_go_8 ?_
    refine VW.lastore dL_go_9 h285.1 h285.2 (by decide) (by decide) (by decide) ?_
    refine VW.goto 21 dL_go_10 (by decide) ?_
    refine VW.iconst dL_go_21 ?_
    refine VW.ireturn dL_go_22 rfl rfl ?_
    have f9 : frm μ1 (mup μ1 285 (0 : Int).toNat (w32 q.1.2)) 285 286 := frm_mup (by omega)
    exact ⟨0, _, _, _, rfl, Nat.le_of_ble_eq_true rfl, Nat.le_of_ble_eq_true rfl, hq.symm, fun _ => mup_s _ _ _ _, hA.keep f9 (by omega), fun i h1 h2 => by rw [f9 i (by omega)]; exact hf i (by omega)⟩
  · rw [if_neg (by omega)] at ho
    subst ho
    refine VW.ofThrow (E := xIA) (pre := (tableOf (mH M_L_go)).take 0) (suf := (tableOf (mH M_L_go)).drop 1) (by rw [hq]; rfl) rfl (fun y hy => by cases hy) (by decide) (by decide) wd_687 (by decide +kernel) (Or.inr ⟨4, dL_go_13, rfl, by decide, rfl⟩) ?_ (callV_run (av := [vI p0, vI p1]) cv_L_go_X7_go dL_go_5 rfl (Nat.le_of_ble_eq_true rfl) hg.1 hg.2 hrun)
    refine VW.iconst dL_go_15 ?_
    refine VW.ireturn dL_go_16 rfl rfl ?_
    exact ⟨1, _, _, _, rfl, Nat.le_of_ble_eq_true rfl, Nat.le_of_ble_eq_true rfl, hq.symm, fun w => absurd w (by decide), hA, fun i h1 h2 => hf i (by omega)⟩
  · rw [if_neg (by omega)] at ho
    subst ho
    refine VW.ofThrow (E := xIS) (pre := (tableOf (mH M_L_go)).take 1) (suf := (tableOf (mH M_L_go)).drop 2) (by rw [hq]; rfl) rfl (fun y hy => by rw [List.mem_singleton.mp hy]; exact Or.inr ⟨by decide, xIA, wd_687, by decide +kernel⟩) (by decide) (by decide) wd_688 (by decide +kernel) (Or.inr ⟨4, dL_go_17, rfl, by decide, rfl⟩) ?_ (callV_run (av := [vI p0, vI p1]) cv_L_go_X7_go dL_go_5 rfl (Nat.le_of_ble_eq_true rfl) hg.1 hg.2 hrun)
    refine VW.iconst dL_go_19 ?_
    refine VW.ireturn dL_go_20 rfl rfl ?_
    exact ⟨2, _, _, _, rfl, Nat.le_of_ble_eq_true rfl, Nat.le_of_ble_eq_true rfl, hq.symm, fun w => absurd w (by decide), hA, fun i h1 h2 => hf i (by omega)⟩
theorem l_back (hst : l.stackTraces = false) {fks : List FK} (hg : 0 < N ∧ sh 0 = sO 7 fks) (h285 : 285 < N ∧ sh 285 = sL 1) (h : Fx G l N sh M_X7_back [.ref (gB G + 0), vI p0] μ (gPo eA1 q μ)) (hq : q.1.1 = 0 ∨ q.1.1 = 1) : Hx G l N sh M_L_back [.ref (gB G + 0), vI p0, .ref (gB G + 285)] μ (fun k μ' => k = q.1.1 ∧ (k = 0 → μ' 285 0 = w32 q.1.2) ∧ hasA μ' q.2 ∧ ∀ i, 273 ≤ i → i ≠ 285 → μ' i = μ i) := by
  refine Hx.of hst rfl (by decide +kernel) (Nat.le_of_ble_eq_true rfl) ?_
  refine VW.aload_n dL_back_0 rfl ?_
  refine VW.iconst dL_back_1 ?_
  refine VW.aload_n dL_back_2 rfl ?_
  refine VW.iload_n dL_back_3 rfl ?_
  obtain ⟨r1, hrun, o, μ1, e, ho, hA, hf⟩ := h
  subst e
  rcases hq with hq | hq
  · rw [if_pos hq] at ho
    subst ho
    refine VW.callV (av := [vI p0]) (t := false) cv_L_back_X7_back dL_back_4 rfl (Nat.le_of_ble_eq_true rfl) hg.1 hg.2 (fun h => by cases h) ⟨_, hrun, _, rfl, ?_⟩
    refine VW.i2lw dL_back_7 ?_
    refine VW.lastore dL_back_8 h285.1 h285.2 (by decide) (by decide) (by decide) ?_
    refine VW.goto 15 dL_back_9 (by decide) ?_
    refine VW.iconst dL_back_15 ?_
    refine VW.ireturn dL_back_16 rfl rfl ?_
    have f9 : frm μ1 (mup μ1 285 (0 : Int).toNat (w32 q.1.2)) 285 286 := frm_mup (by omega)
    exact ⟨0, _, _, _, rfl, Nat.le_of_ble_eq_true rfl, Nat.le_of_ble_eq_true rfl, hq.symm, fun _ => mup_s _ _ _ _, hA.keep f9 (by omega), fun i h1 h2 => by rw [f9 i (by omega)]; exact hf i (by omega)⟩
  · rw [if_neg (by omega)] at ho
    subst ho
    refine VW.ofThrow (E := xIA) (pre := (tableOf (mH M_L_back)).take 0) (suf := (tableOf (mH M_L_back)).drop 1) (by rw [hq]; rfl) rfl (fun y hy => by cases hy) (by decide) (by decide) wd_687 (by decide +kernel) (Or.inl ⟨3, dL_back_12, rfl, by decide, rfl⟩) ?_ (callV_run (av := [vI p0]) cv_L_back_X7_back dL_back_4 rfl (Nat.le_of_ble_eq_true rfl) hg.1 hg.2 hrun)
    refine VW.iconst dL_back_13 ?_
    refine VW.ireturn dL_back_14 rfl rfl ?_
    exact ⟨1, _, _, _, rfl, Nat.le_of_ble_eq_true rfl, Nat.le_of_ble_eq_true rfl, hq.symm, fun w => absurd w (by decide), hA, fun i h1 h2 => hf i (by omega)⟩
theorem l_turn (hst : l.stackTraces = false) {fks : List FK} (hg : 0 < N ∧ sh 0 = sO 7 fks) (h285 : 285 < N ∧ sh 285 = sL 1) (h : Fx G l N sh M_X7_turn [.ref (gB G + 0), vI p0] μ (gPo e12 q μ)) (hq : q.1.1 = 0 ∨ q.1.1 = 1 ∨ q.1.1 = 2) : Hx G l N sh M_L_turn [.ref (gB G + 0), vI p0, .ref (gB G + 285)] μ (fun k μ' => k = q.1.1 ∧ (k = 0 → μ' 285 0 = w32 q.1.2) ∧ hasA μ' q.2 ∧ ∀ i, 273 ≤ i → i ≠ 285 → μ' i = μ i) := by
  refine Hx.of hst rfl (by decide +kernel) (Nat.le_of_ble_eq_true rfl) ?_
  refine VW.aload_n dL_turn_0 rfl ?_
  refine VW.iconst dL_turn_1 ?_
  refine VW.aload_n dL_turn_2 rfl ?_
  refine VW.iload_n dL_turn_3 rfl ?_
  obtain ⟨r1, hrun, o, μ1, e, ho, hA, hf⟩ := h
  subst e
  rcases hq with hq | hq | hq
  · rw [if_pos hq] at ho
    subst ho
    refine VW.callV (av := [vI p0]) (t := false) cv_L_turn_X7_turn dL_turn_4 rfl (Nat.le_of_ble_eq_true rfl) hg.1 hg.2 (fun h => by cases h) ⟨_, hrun, _, rfl, ?_⟩
    refine VW.i2lw dL_turn_7 ?_
    refine VW.lastore dL_turn_8 h285.1 h285.2 (by decide) (by decide) (by decide) ?_
    refine VW.goto 18 dL_turn_9 (by decide) ?_
    refine VW.iconst dL_turn_18 ?_
    refine VW.ireturn dL_turn_19 rfl rfl ?_
    have f9 : frm μ1 (mup μ1 285 (0 : Int).toNat (w32 q.1.2)) 285 286 := frm_mup (by omega)
    exact ⟨0, _, _, _, rfl, Nat.le_of_ble_eq_true rfl, Nat.le_of_ble_eq_true rfl, hq.symm, fun _ => mup_s _ _ _ _, hA.keep f9 (by omega), fun i h1 h2 => by rw [f9 i (by omega)]; exact hf i (by omega)⟩
  · rw [if_neg (by omega)] at ho
    subst ho
    refine VW.ofThrow (E := xIA) (pre := (tableOf (mH M_L_turn)).take 0) (suf := (tableOf (mH M_L_turn)).drop 1) (by rw [hq]; rfl) rfl (fun y hy => by cases hy) (by decide) (by decide) wd_687 (by decide +kernel) (Or.inl ⟨3, dL_turn_12, rfl, by decide, rfl⟩) ?_ (callV_run (av := [vI p0]) cv_L_turn_X7_turn dL_turn_4 rfl (Nat.le_of_ble_eq_true rfl) hg.1 hg.2 hrun)
    refine VW.iconst dL_turn_13 ?_
    refine VW.ireturn dL_turn_14 rfl rfl ?_
    exact ⟨1, _, _, _, rfl, Nat.le_of_ble_eq_true rfl, Nat.le_of_ble_eq_true rfl, hq.symm, fun w => absurd w (by decide), hA, fun i h1 h2 => hf i (by omega)⟩
  · rw [if_neg (by omega)] at ho
    subst ho
    refine VW.ofThrow (E := xIS) (pre := (tableOf (mH M_L_turn)).take 1) (suf := (tableOf (mH M_L_turn)).drop 2) (by rw [hq]; rfl) rfl (fun y hy => by rw [List.mem_singleton.mp hy]; exact Or.inr ⟨by decide, xIA, wd_687, by decide +kernel⟩) (by decide) (by decide) wd_688 (by decide +kernel) (Or.inl ⟨3, dL_turn_15, rfl, by decide, rfl⟩) ?_ (callV_run (av := [vI p0]) cv_L_turn_X7_turn dL_turn_4 rfl (Nat.le_of_ble_eq_true rfl) hg.1 hg.2 hrun)
    refine VW.iconst dL_turn_16 ?_
    refine VW.ireturn dL_turn_17 rfl rfl ?_
    exact ⟨2, _, _, _, rfl, Nat.le_of_ble_eq_true rfl, Nat.le_of_ble_eq_true rfl, hq.symm, fun w => absurd w (by decide), hA, fun i h1 h2 => hf i (by omega)⟩
theorem l_learn (hst : l.stackTraces = false) {fks : List FK} (hg : 0 < N ∧ sh 0 = sO 7 fks) (h285 : 285 < N ∧ sh 285 = sL 1) (h : Fx G l N sh M_X7_learn [.ref (gB G + 0)] μ (gPo eS1 q μ)) (hq : q.1.1 = 0 ∨ q.1.1 = 1) : Hx G l N sh M_L_learn [.ref (gB G + 0), .ref (gB G + 285)] μ (fun k μ' => k = q.1.1 ∧ (k = 0 → μ' 285 0 = w32 q.1.2) ∧ hasA μ' q.2 ∧ ∀ i, 273 ≤ i → i ≠ 285 → μ' i = μ i) := by
  refine Hx.of hst rfl (by decide +kernel) (Nat.le_of_ble_eq_true rfl) ?_
  refine VW.aload_n dL_learn_0 rfl ?_
  refine VW.iconst dL_learn_1 ?_
  refine VW.aload_n dL_learn_2 rfl ?_
  obtain ⟨r1, hrun, o, μ1, e, ho, hA, hf⟩ := h
  subst e
  rcases hq with hq | hq
  · rw [if_pos hq] at ho
    subst ho
    refine VW.callV (av := []) (t := false) cv_L_learn_X7_learn dL_learn_3 rfl (Nat.le_of_ble_eq_true rfl) hg.1 hg.2 (fun h => by cases h) ⟨_, hrun, _, rfl, ?_⟩
    refine VW.i2lw dL_learn_6 ?_
    refine VW.lastore dL_learn_7 h285.1 h285.2 (by decide) (by decide) (by decide) ?_
    refine VW.goto 14 dL_learn_8 (by decide) ?_
    refine VW.iconst dL_learn_14 ?_
    refine VW.ireturn dL_learn_15 rfl rfl ?_
    have f9 : frm μ1 (mup μ1 285 (0 : Int).toNat (w32 q.1.2)) 285 286 := frm_mup (by omega)
    exact ⟨0, _, _, _, rfl, Nat.le_of_ble_eq_true rfl, Nat.le_of_ble_eq_true rfl, hq.symm, fun _ => mup_s _ _ _ _, hA.keep f9 (by omega), fun i h1 h2 => by rw [f9 i (by omega)]; exact hf i (by omega)⟩
  · rw [if_neg (by omega)] at ho
    subst ho
    refine VW.ofThrow (E := xIS) (pre := (tableOf (mH M_L_learn)).take 0) (suf := (tableOf (mH M_L_learn)).drop 1) (by rw [hq]; rfl) rfl (fun y hy => by cases hy) (by decide) (by decide) wd_688 (by decide +kernel) (Or.inl ⟨2, dL_learn_11, rfl, by decide, rfl⟩) ?_ (callV_run (av := []) cv_L_learn_X7_learn dL_learn_3 rfl (Nat.le_of_ble_eq_true rfl) hg.1 hg.2 hrun)
    refine VW.iconst dL_learn_12 ?_
    refine VW.ireturn dL_learn_13 rfl rfl ?_
    exact ⟨1, _, _, _, rfl, Nat.le_of_ble_eq_true rfl, Nat.le_of_ble_eq_true rfl, hq.symm, fun w => absurd w (by decide), hA, fun i h1 h2 => hf i (by omega)⟩
theorem l_read (hst : l.stackTraces = false) {fks : List FK} (hg : 0 < N ∧ sh 0 = sO 7 fks) (h285 : 285 < N ∧ sh 285 = sL 1) (h : Fx G l N sh M_X7_read [.ref (gB G + 0)] μ (gPo e12 q μ)) (hq : q.1.1 = 0 ∨ q.1.1 = 1 ∨ q.1.1 = 2) : Hx G l N sh M_L_read [.ref (gB G + 0), .ref (gB G + 285)] μ (fun k μ' => k = q.1.1 ∧ (k = 0 → μ' 285 0 = w32 q.1.2) ∧ hasA μ' q.2 ∧ ∀ i, 273 ≤ i → i ≠ 285 → μ' i = μ i) := by
  refine Hx.of hst rfl (by decide +kernel) (Nat.le_of_ble_eq_true rfl) ?_
  refine VW.aload_n dL_read_0 rfl ?_
  refine VW.iconst dL_read_1 ?_
  refine VW.aload_n dL_read_2 rfl ?_
  obtain ⟨r1, hrun, o, μ1, e, ho, hA, hf⟩ := h
  subst e
  rcases hq with hq | hq | hq
  · rw [if_pos hq] at ho
    subst ho
    refine VW.callV (av := []) (t := false) cv_L_read_X7_read dL_read_3 rfl (Nat.le_of_ble_eq_true rfl) hg.1 hg.2 (fun h => by cases h) ⟨_, hrun, _, rfl, ?_⟩
    refine VW.i2lw dL_read_6 ?_
    refine VW.lastore dL_read_7 h285.1 h285.2 (by decide) (by decide) (by decide) ?_
    refine VW.goto 17 dL_read_8 (by decide) ?_
    refine VW.iconst dL_read_17 ?_
    refine VW.ireturn dL_read_18 rfl rfl ?_
    have f9 : frm μ1 (mup μ1 285 (0 : Int).toNat (w32 q.1.2)) 285 286 := frm_mup (by omega)
    exact ⟨0, _, _, _, rfl, Nat.le_of_ble_eq_true rfl, Nat.le_of_ble_eq_true rfl, hq.symm, fun _ => mup_s _ _ _ _, hA.keep f9 (by omega), fun i h1 h2 => by rw [f9 i (by omega)]; exact hf i (by omega)⟩
  · rw [if_neg (by omega)] at ho
    subst ho
    refine VW.ofThrow (E := xIA) (pre := (tableOf (mH M_L_read)).take 0) (suf := (tableOf (mH M_L_read)).drop 1) (by rw [hq]; rfl) rfl (fun y hy => by cases hy) (by decide) (by decide) wd_687 (by decide +kernel) (Or.inl ⟨2, dL_read_11, rfl, by decide, rfl⟩) ?_ (callV_run (av := []) cv_L_read_X7_read dL_read_3 rfl (Nat.le_of_ble_eq_true rfl) hg.1 hg.2 hrun)
    refine VW.iconst dL_read_12 ?_
    refine VW.ireturn dL_read_13 rfl rfl ?_
    exact ⟨1, _, _, _, rfl, Nat.le_of_ble_eq_true rfl, Nat.le_of_ble_eq_true rfl, hq.symm, fun w => absurd w (by decide), hA, fun i h1 h2 => hf i (by omega)⟩
  · rw [if_neg (by omega)] at ho
    subst ho
    refine VW.ofThrow (E := xIS) (pre := (tableOf (mH M_L_read)).take 1) (suf := (tableOf (mH M_L_read)).drop 2) (by rw [hq]; rfl) rfl (fun y hy => by rw [List.mem_singleton.mp hy]; exact Or.inr ⟨by decide, xIA, wd_687, by decide +kernel⟩) (by decide) (by decide) wd_688 (by decide +kernel) (Or.inl ⟨2, dL_read_14, rfl, by decide, rfl⟩) ?_ (callV_run (av := []) cv_L_read_X7_read dL_read_3 rfl (Nat.le_of_ble_eq_true rfl) hg.1 hg.2 hrun)
    refine VW.iconst dL_read_15 ?_
    refine VW.ireturn dL_read_16 rfl rfl ?_
    exact ⟨2, _, _, _, rfl, Nat.le_of_ble_eq_true rfl, Nat.le_of_ble_eq_true rfl, hq.symm, fun w => absurd w (by decide), hA, fun i h1 h2 => hf i (by omega)⟩
theorem l_forget (hst : l.stackTraces = false) {fks : List FK} (hg : 0 < N ∧ sh 0 = sO 7 fks) (h285 : 285 < N ∧ sh 285 = sL 1) (h : Fx G l N sh M_X7_forget [.ref (gB G + 0), vI p0] μ (gPo eO1 q μ)) (hq : q.1.1 = 0 ∨ q.1.1 = 1) : Hx G l N sh M_L_forget [.ref (gB G + 0), vI p0, .ref (gB G + 285)] μ (fun k μ' => k = q.1.1 ∧ (k = 0 → μ' 285 0 = w32 q.1.2) ∧ hasA μ' q.2 ∧ ∀ i, 273 ≤ i → i ≠ 285 → μ' i = μ i) := by
  refine Hx.of hst rfl (by decide +kernel) (Nat.le_of_ble_eq_true rfl) ?_
  refine VW.aload_n dL_forget_0 rfl ?_
  refine VW.iconst dL_forget_1 ?_
  refine VW.aload_n dL_forget_2 rfl ?_
  refine VW.iload_n dL_forget_3 rfl ?_
  obtain ⟨r1, hrun, o, μ1, e, ho, hA, hf⟩ := h
  subst e
  rcases hq with hq | hq
  · rw [if_pos hq] at ho
    subst ho
    refine VW.callV (av := [vI p0]) (t := false) cv_L_forget_X7_forget dL_forget_4 rfl (Nat.le_of_ble_eq_true rfl) hg.1 hg.2 (fun h => by cases h) ⟨_, hrun, _, rfl, ?_⟩
    refine VW.i2lw dL_forget_7 ?_
    refine VW.lastore dL_forget_8 h285.1 h285.2 (by decide) (by decide) (by decide) ?_
    refine VW.goto 15 dL_forget_9 (by decide) ?_
    refine VW.iconst dL_forget_15 ?_
    refine VW.ireturn dL_forget_16 rfl rfl ?_
    have f9 : frm μ1 (mup μ1 285 (0 : Int).toNat (w32 q.1.2)) 285 286 := frm_mup (by omega)
    exact ⟨0, _, _, _, rfl, Nat.le_of_ble_eq_true rfl, Nat.le_of_ble_eq_true rfl, hq.symm, fun _ => mup_s _ _ _ _, hA.keep f9 (by omega), fun i h1 h2 => by rw [f9 i (by omega)]; exact hf i (by omega)⟩
  · rw [if_neg (by omega)] at ho
    subst ho
    refine VW.ofThrow (E := xIO) (pre := (tableOf (mH M_L_forget)).take 0) (suf := (tableOf (mH M_L_forget)).drop 1) (by rw [hq]; rfl) rfl (fun y hy => by cases hy) (by decide) (by decide) wd_787 (by decide +kernel) (Or.inl ⟨3, dL_forget_12, rfl, by decide, rfl⟩) ?_ (callV_run (av := [vI p0]) cv_L_forget_X7_forget dL_forget_4 rfl (Nat.le_of_ble_eq_true rfl) hg.1 hg.2 hrun)
    refine VW.iconst dL_forget_13 ?_
    refine VW.ireturn dL_forget_14 rfl rfl ?_
    exact ⟨1, _, _, _, rfl, Nat.le_of_ble_eq_true rfl, Nat.le_of_ble_eq_true rfl, hq.symm, fun w => absurd w (by decide), hA, fun i h1 h2 => hf i (by omega)⟩
theorem l_set (hst : l.stackTraces = false) {fks : List FK} (hg : 0 < N ∧ sh 0 = sO 7 fks) (h285 : 285 < N ∧ sh 285 = sL 1) (h : Fx G l N sh M_X7_set [.ref (gB G + 0), vI p0, vI p1] μ (gPo eO3 q μ)) (hq : q.1.1 = 0 ∨ q.1.1 = 1 ∨ q.1.1 = 2 ∨ q.1.1 = 3) : Hx G l N sh M_L_set [.ref (gB G + 0), vI p0, vI p1, .ref (gB G + 285)] μ (fun k μ' => k = q.1.1 ∧ (k = 0 → μ' 285 0 = w32 q.1.2) ∧ hasA μ' q.2 ∧ ∀ i, 273 ≤ i → i ≠ 285 → μ' i = μ i) := by
  refine Hx.of hst rfl (by decide +kernel) (Nat.le_of_ble_eq_true rfl) ?_
  refine VW.aload_n dL_set_0 rfl ?_
  refine VW.iconst dL_set_1 ?_
  refine VW.aload_n dL_set_2 rfl ?_
  refine VW.iload_n dL_set_3 rfl ?_
  refine VW.iload_n dL_set_4 rfl ?_
  obtain ⟨r1, hrun, o, μ1, e, ho, hA, hf⟩ := h
  subst e
  rcases hq with hq | hq | hq | hq
  · rw [if_pos hq] at ho
    subst ho
    refine VW.callV (av := [vI p0, vI p1]) (t := false) cv_L_set_X7_set dL_set_5 rfl (Nat.le_of_ble_eq_true rfl) hg.1 hg.2 (fun h => by cases h) ⟨_, hrun, _, rfl, ?_⟩
    refine VW.i2lw dL_set_8 ?_
    refine VW.lastore dL_set_9 h285.1 h285.2 (by decide) (by decide) (by decide) ?_
    refine VW.goto 25 dL_set_10 (by decide) ?_
    refine VW.iconst dL_set_25 ?_
    refine VW.ireturn dL_set_26 rfl rfl ?_
    have f9 : frm μ1 (mup μ1 285 (0 : Int).toNat (w32 q.1.2)) 285 286 := frm_mup (by omega)
    exact ⟨0, _, _, _, rfl, Nat.le_of_ble_eq_true rfl, Nat.le_of_ble_eq_true rfl, hq.symm, fun _ => mup_s _ _ _ _, hA.keep f9 (by omega), fun i h1 h2 => by rw [f9 i (by omega)]; exact hf i (by omega)⟩
  · rw [if_neg (by omega)] at ho
    subst ho
    refine VW.ofThrow (E := xIO) (pre := (tableOf (mH M_L_set)).take 0) (suf := (tableOf (mH M_L_set)).drop 1) (by rw [hq]; rfl) rfl (fun y hy => by cases hy) (by decide) (by decide) wd_787 (by decide +kernel) (Or.inr ⟨4, dL_set_13, rfl, by decide, rfl⟩) ?_ (callV_run (av := [vI p0, vI p1]) cv_L_set_X7_set dL_set_5 rfl (Nat.le_of_ble_eq_true rfl) hg.1 hg.2 hrun)
    refine VW.iconst dL_set_15 ?_
    refine VW.ireturn dL_set_16 rfl rfl ?_
    exact ⟨1, _, _, _, rfl, Nat.le_of_ble_eq_true rfl, Nat.le_of_ble_eq_true rfl, hq.symm, fun w => absurd w (by decide), hA, fun i h1 h2 => hf i (by omega)⟩
  · rw [if_neg (by omega)] at ho
    subst ho
    refine VW.ofThrow (E := xIA) (pre := (tableOf (mH M_L_set)).take 1) (suf := (tableOf (mH M_L_set)).drop 2) (by rw [hq]; rfl) rfl (fun y hy => by rw [List.mem_singleton.mp hy]; exact Or.inr ⟨by decide, xIO, wd_787, by decide +kernel⟩) (by decide) (by decide) wd_687 (by decide +kernel) (Or.inr ⟨4, dL_set_17, rfl, by decide, rfl⟩) ?_ (callV_run (av := [vI p0, vI p1]) cv_L_set_X7_set dL_set_5 rfl (Nat.le_of_ble_eq_true rfl) hg.1 hg.2 hrun)
    refine VW.iconst dL_set_19 ?_
    refine VW.ireturn dL_set_20 rfl rfl ?_
    exact ⟨2, _, _, _, rfl, Nat.le_of_ble_eq_true rfl, Nat.le_of_ble_eq_true rfl, hq.symm, fun w => absurd w (by decide), hA, fun i h1 h2 => hf i (by omega)⟩
  · rw [if_neg (by omega)] at ho
    subst ho
    refine VW.ofThrow (E := xIS) (pre := (tableOf (mH M_L_set)).take 2) (suf := (tableOf (mH M_L_set)).drop 3) (by rw [hq]; rfl) rfl (fun y hy => by rcases List.mem_cons.mp hy with rfl | hy; { exact Or.inr ⟨by decide, xIO, wd_787, by decide +kernel⟩ }; { rw [List.mem_singleton.mp hy]; exact Or.inr ⟨by decide, xIA, wd_687, by decide +kernel⟩ }) (by decide) (by decide) wd_688 (by decide +kernel) (Or.inr ⟨4, dL_set_21, rfl, by decide, rfl⟩) ?_ (callV_run (av := [vI p0, vI p1]) cv_L_set_X7_set dL_set_5 rfl (Nat.le_of_ble_eq_true rfl) hg.1 hg.2 hrun)
    refine VW.iconst dL_set_23 ?_
    refine VW.ireturn dL_set_24 rfl rfl ?_
    exact ⟨3, _, _, _, rfl, Nat.le_of_ble_eq_true rfl, Nat.le_of_ble_eq_true rfl, hq.symm, fun w => absurd w (by decide), hA, fun i h1 h2 => hf i (by omega)⟩
theorem l_append (hst : l.stackTraces = false) {fks : List FK} (hg : 0 < N ∧ sh 0 = sO 7 fks) (h285 : 285 < N ∧ sh 285 = sL 1) (h : Fx G l N sh M_X7_append [.ref (gB G + 0), vI p0] μ (gPo e12 q μ)) (hq : q.1.1 = 0 ∨ q.1.1 = 1 ∨ q.1.1 = 2) : Hx G l N sh M_L_append [.ref (gB G + 0), vI p0, .ref (gB G + 285)] μ (fun k μ' => k = q.1.1 ∧ (k = 0 → μ' 285 0 = w32 q.1.2) ∧ hasA μ' q.2 ∧ ∀ i, 273 ≤ i → i ≠ 285 → μ' i = μ i) := by
  refine Hx.of hst rfl (by decide +kernel) (Nat.le_of_ble_eq_true rfl) ?_
  refine VW.aload_n dL_append_0 rfl ?_
  refine VW.iconst dL_append_1 ?_
  refine VW.aload_n dL_append_2 rfl ?_
  refine VW.iload_n dL_append_3 rfl ?_
  obtain ⟨r1, hrun, o, μ1, e, ho, hA, hf⟩ := h
  subst e
  rcases hq with hq | hq | hq
  · rw [if_pos hq] at ho
    subst ho
    refine VW.callV (av := [vI p0]) (t := false) cv_L_append_X7_append dL_append_4 rfl (Nat.le_of_ble_eq_true rfl) hg.1 hg.2 (fun h => by cases h) ⟨_, hrun, _, rfl, ?_⟩
    refine VW.i2lw dL_append_7 ?_
    refine VW.lastore dL_append_8 h285.1 h285.2 (by decide) (by decide) (by decide) ?_
    refine VW.goto 18 dL_append_9 (by decide) ?_
    refine VW.iconst dL_append_18 ?_
    refine VW.ireturn dL_append_19 rfl rfl ?_
    have f9 : frm μ1 (mup μ1 285 (0 : Int).toNat (w32 q.1.2)) 285 286 := frm_mup (by omega)
    exact ⟨0, _, _, _, rfl, Nat.le_of_ble_eq_true rfl, Nat.le_of_ble_eq_true rfl, hq.symm, fun _ => mup_s _ _ _ _, hA.keep f9 (by omega), fun i h1 h2 => by rw [f9 i (by omega)]; exact hf i (by omega)⟩
  · rw [if_neg (by omega)] at ho
    subst ho
    refine VW.ofThrow (E := xIA) (pre := (tableOf (mH M_L_append)).take 0) (suf := (tableOf (mH M_L_append)).drop 1) (by rw [hq]; rfl) rfl (fun y hy => by cases hy) (by decide) (by decide) wd_687 (by decide +kernel) (Or.inl ⟨3, dL_append_12, rfl, by decide, rfl⟩) ?_ (callV_run (av := [vI p0]) cv_L_append_X7_append dL_append_4 rfl (Nat.le_of_ble_eq_true rfl) hg.1 hg.2 hrun)
    refine VW.iconst dL_append_13 ?_
    refine VW.ireturn dL_append_14 rfl rfl ?_
    exact ⟨1, _, _, _, rfl, Nat.le_of_ble_eq_true rfl, Nat.le_of_ble_eq_true rfl, hq.symm, fun w => absurd w (by decide), hA, fun i h1 h2 => hf i (by omega)⟩
  · rw [if_neg (by omega)] at ho
    subst ho
    refine VW.ofThrow (E := xIS) (pre := (tableOf (mH M_L_append)).take 1) (suf := (tableOf (mH M_L_append)).drop 2) (by rw [hq]; rfl) rfl (fun y hy => by rw [List.mem_singleton.mp hy]; exact Or.inr ⟨by decide, xIA, wd_687, by decide +kernel⟩) (by decide) (by decide) wd_688 (by decide +kernel) (Or.inl ⟨3, dL_append_15, rfl, by decide, rfl⟩) ?_ (callV_run (av := [vI p0]) cv_L_append_X7_append dL_append_4 rfl (Nat.le_of_ble_eq_true rfl) hg.1 hg.2 hrun)
    refine VW.iconst dL_append_16 ?_
    refine VW.ireturn dL_append_17 rfl rfl ?_
    exact ⟨2, _, _, _, rfl, Nat.le_of_ble_eq_true rfl, Nat.le_of_ble_eq_true rfl, hq.symm, fun w => absurd w (by decide), hA, fun i h1 h2 => hf i (by omega)⟩
theorem l_undo (hst : l.stackTraces = false) {fks : List FK} (hg : 0 < N ∧ sh 0 = sO 7 fks) (h285 : 285 < N ∧ sh 285 = sL 1) (h : Fx G l N sh M_X7_undo [.ref (gB G + 0)] μ (gPo eS1 q μ)) (hq : q.1.1 = 0 ∨ q.1.1 = 1) : Hx G l N sh M_L_undo [.ref (gB G + 0), .ref (gB G + 285)] μ (fun k μ' => k = q.1.1 ∧ (k = 0 → μ' 285 0 = w32 q.1.2) ∧ hasA μ' q.2 ∧ ∀ i, 273 ≤ i → i ≠ 285 → μ' i = μ i) := by
  refine Hx.of hst rfl (by decide +kernel) (Nat.le_of_ble_eq_true rfl) ?_
  refine VW.aload_n dL_undo_0 rfl ?_
  refine VW.iconst dL_undo_1 ?_
  refine VW.aload_n dL_undo_2 rfl ?_
  obtain ⟨r1, hrun, o, μ1, e, ho, hA, hf⟩ := h
  subst e
  rcases hq with hq | hq
  · rw [if_pos hq] at ho
    subst ho
    refine VW.callV (av := []) (t := false) cv_L_undo_X7_undo dL_undo_3 rfl (Nat.le_of_ble_eq_true rfl) hg.1 hg.2 (fun h => by cases h) ⟨_, hrun, _, rfl, ?_⟩
    refine VW.i2lw dL_undo_6 ?_
    refine VW.lastore dL_undo_7 h285.1 h285.2 (by decide) (by decide) (by decide) ?_
    refine VW.goto 14 dL_undo_8 (by decide) ?_
    refine VW.iconst dL_undo_14 ?_
    refine VW.ireturn dL_undo_15 rfl rfl ?_
    have f9 : frm μ1 (mup μ1 285 (0 : Int).toNat (w32 q.1.2)) 285 286 := frm_mup (by omega)
    exact ⟨0, _, _, _, rfl, Nat.le_of_ble_eq_true rfl, Nat.le_of_ble_eq_true rfl, hq.symm, fun _ => mup_s _ _ _ _, hA.keep f9 (by omega), fun i h1 h2 => by rw [f9 i (by omega)]; exact hf i (by omega)⟩
  · rw [if_neg (by omega)] at ho
    subst ho
    refine VW.ofThrow (E := xIS) (pre := (tableOf (mH M_L_undo)).take 0) (suf := (tableOf (mH M_L_undo)).drop 1) (by rw [hq]; rfl) rfl (fun y hy => by cases hy) (by decide) (by decide) wd_688 (by decide +kernel) (Or.inl ⟨2, dL_undo_11, rfl, by decide, rfl⟩) ?_ (callV_run (av := []) cv_L_undo_X7_undo dL_undo_3 rfl (Nat.le_of_ble_eq_true rfl) hg.1 hg.2 hrun)
    refine VW.iconst dL_undo_12 ?_
    refine VW.ireturn dL_undo_13 rfl rfl ?_
    exact ⟨1, _, _, _, rfl, Nat.le_of_ble_eq_true rfl, Nat.le_of_ble_eq_true rfl, hq.symm, fun w => absurd w (by decide), hA, fun i h1 h2 => hf i (by omega)⟩
theorem l_pointOf (hst : l.stackTraces = false) {fks : List FK} (hg : 0 < N ∧ sh 0 = sO 7 fks) (h285 : 285 < N ∧ sh 285 = sL 1) (h : Fx G l N sh M_X7_pointOf [.ref (gB G + 0), vI p0, vI p1] μ (gLo eO2 q2 A μ)) (hq : q2.1 = 0 ∨ q2.1 = 1 ∨ q2.1 = 2) : Hx G l N sh M_L_pointOf [.ref (gB G + 0), vI p0, vI p1, .ref (gB G + 285)] μ (fun k μ' => k = q2.1 ∧ (k = 0 → μ' 285 0 = w32 q2.2) ∧ hasA μ' A ∧ ∀ i, 273 ≤ i → i ≠ 285 → μ' i = μ i) := by
  refine Hx.of hst rfl (by decide +kernel) (Nat.le_of_ble_eq_true rfl) ?_
  refine VW.aload_n dL_pointOf_0 rfl ?_
  refine VW.iconst dL_pointOf_1 ?_
  refine VW.aload_n dL_pointOf_2 rfl ?_
  refine VW.iload_n dL_pointOf_3 rfl ?_
  refine VW.iload_n dL_pointOf_4 rfl ?_
  obtain ⟨r1, hrun, o, μ1, e, ho, hA, hf⟩ := h
  subst e
  rcases hq with hq | hq | hq
  · rw [if_pos hq] at ho
    subst ho
    refine VW.callV (av := [vI p0, vI p1]) (t := false) cv_L_pointOf_X7_pointOf dL_pointOf_5 rfl (Nat.le_of_ble_eq_true rfl) hg.1 hg.2 (fun h => by cases h) ⟨_, hrun, _, rfl, ?_⟩
    refine VW.i2lw dL_pointOf_8 ?_
    refine VW.lastore dL_pointOf_9 h285.1 h285.2 (by decide) (by decide) (by decide) ?_
    refine VW.goto 21 dL_pointOf_10 (by decide) ?_
    refine VW.iconst dL_pointOf_21 ?_
    refine VW.ireturn dL_pointOf_22 rfl rfl ?_
    have f9 : frm μ1 (mup μ1 285 (0 : Int).toNat (w32 q2.2)) 285 286 := frm_mup (by omega)
    exact ⟨0, _, _, _, rfl, Nat.le_of_ble_eq_true rfl, Nat.le_of_ble_eq_true rfl, hq.symm, fun _ => mup_s _ _ _ _, hA.keep f9 (by omega), fun i h1 h2 => by rw [f9 i (by omega)]; exact hf i (by omega)⟩
  · rw [if_neg (by omega)] at ho
    subst ho
    refine VW.ofThrow (E := xIO) (pre := (tableOf (mH M_L_pointOf)).take 0) (suf := (tableOf (mH M_L_pointOf)).drop 1) (by rw [hq]; rfl) rfl (fun y hy => by cases hy) (by decide) (by decide) wd_787 (by decide +kernel) (Or.inr ⟨4, dL_pointOf_13, rfl, by decide, rfl⟩) ?_ (callV_run (av := [vI p0, vI p1]) cv_L_pointOf_X7_pointOf dL_pointOf_5 rfl (Nat.le_of_ble_eq_true rfl) hg.1 hg.2 hrun)
    refine VW.iconst dL_pointOf_15 ?_
    refine VW.ireturn dL_pointOf_16 rfl rfl ?_
    exact ⟨1, _, _, _, rfl, Nat.le_of_ble_eq_true rfl, Nat.le_of_ble_eq_true rfl, hq.symm, fun w => absurd w (by decide), hA, fun i h1 h2 => hf i (by omega)⟩
  · rw [if_neg (by omega)] at ho
    subst ho
    refine VW.ofThrow (E := xIA) (pre := (tableOf (mH M_L_pointOf)).take 1) (suf := (tableOf (mH M_L_pointOf)).drop 2) (by rw [hq]; rfl) rfl (fun y hy => by rw [List.mem_singleton.mp hy]; exact Or.inr ⟨by decide, xIO, wd_787, by decide +kernel⟩) (by decide) (by decide) wd_687 (by decide +kernel) (Or.inr ⟨4, dL_pointOf_17, rfl, by decide, rfl⟩) ?_ (callV_run (av := [vI p0, vI p1]) cv_L_pointOf_X7_pointOf dL_pointOf_5 rfl (Nat.le_of_ble_eq_true rfl) hg.1 hg.2 hrun)
    refine VW.iconst dL_pointOf_19 ?_
    refine VW.ireturn dL_pointOf_20 rfl rfl ?_
    exact ⟨2, _, _, _, rfl, Nat.le_of_ble_eq_true rfl, Nat.le_of_ble_eq_true rfl, hq.symm, fun w => absurd w (by decide), hA, fun i h1 h2 => hf i (by omega)⟩
theorem l_run (hst : l.stackTraces = false) {fks : List FK} (hg : 0 < N ∧ sh 0 = sO 7 fks) (h285 : 285 < N ∧ sh 285 = sL 1) (h : Fx G l N sh M_X7_run [.ref (gB G + 0), vI p0, vI p1] μ (gLo eA1 q2 A μ)) (hq : q2.1 = 0 ∨ q2.1 = 1) : Hx G l N sh M_L_run [.ref (gB G + 0), vI p0, vI p1, .ref (gB G + 285)] μ (fun k μ' => k = q2.1 ∧ (k = 0 → μ' 285 0 = w32 q2.2) ∧ hasA μ' A ∧ ∀ i, 273 ≤ i → i ≠ 285 → μ' i = μ i) := by
  refine Hx.of hst rfl (by decide +kernel) (Nat.le_of_ble_eq_true rfl) ?_
  refine VW.aload_n dL_run_0 rfl ?_
  refine VW.iconst dL_run_1 ?_
  refine VW.aload_n dL_run_2 rfl ?_
  refine VW.iload_n dL_run_3 rfl ?_
  refine VW.iload_n dL_run_4 rfl ?_
  obtain ⟨r1, hrun, o, μ1, e, ho, hA, hf⟩ := h
  subst e
  rcases hq with hq | hq
  · rw [if_pos hq] at ho
    subst ho
    refine VW.callV (av := [vI p0, vI p1]) (t := false) cv_L_run_X7_run dL_run_5 rfl (Nat.le_of_ble_eq_true rfl) hg.1 hg.2 (fun h => by cases h) ⟨_, hrun, _, rfl, ?_⟩
    refine VW.i2lw dL_run_8 ?_
    refine VW.lastore dL_run_9 h285.1 h285.2 (by decide) (by decide) (by decide) ?_
    refine VW.goto 17 dL_run_10 (by decide) ?_
    refine VW.iconst dL_run_17 ?_
    refine VW.ireturn dL_run_18 rfl rfl ?_
    have f9 : frm μ1 (mup μ1 285 (0 : Int).toNat (w32 q2.2)) 285 286 := frm_mup (by omega)
    exact ⟨0, _, _, _, rfl, Nat.le_of_ble_eq_true rfl, Nat.le_of_ble_eq_true rfl, hq.symm, fun _ => mup_s _ _ _ _, hA.keep f9 (by omega), fun i h1 h2 => by rw [f9 i (by omega)]; exact hf i (by omega)⟩
  · rw [if_neg (by omega)] at ho
    subst ho
    refine VW.ofThrow (E := xIA) (pre := (tableOf (mH M_L_run)).take 0) (suf := (tableOf (mH M_L_run)).drop 1) (by rw [hq]; rfl) rfl (fun y hy => by cases hy) (by decide) (by decide) wd_687 (by decide +kernel) (Or.inr ⟨4, dL_run_13, rfl, by decide, rfl⟩) ?_ (callV_run (av := [vI p0, vI p1]) cv_L_run_X7_run dL_run_5 rfl (Nat.le_of_ble_eq_true rfl) hg.1 hg.2 hrun)
    refine VW.iconst dL_run_15 ?_
    refine VW.ireturn dL_run_16 rfl rfl ?_
    exact ⟨1, _, _, _, rfl, Nat.le_of_ble_eq_true rfl, Nat.le_of_ble_eq_true rfl, hq.symm, fun w => absurd w (by decide), hA, fun i h1 h2 => hf i (by omega)⟩
theorem l_stroke (hst : l.stackTraces = false) {fks : List FK} (hg : 0 < N ∧ sh 0 = sO 7 fks) (h285 : 285 < N ∧ sh 285 = sL 1) (h : Fx G l N sh M_X7_stroke [.ref (gB G + 0), vI p0] μ (gLo eA1 q2 A μ)) (hq : q2.1 = 0 ∨ q2.1 = 1) : Hx G l N sh M_L_stroke [.ref (gB G + 0), vI p0, .ref (gB G + 285)] μ (fun k μ' => k = q2.1 ∧ (k = 0 → μ' 285 0 = w32 q2.2) ∧ hasA μ' A ∧ ∀ i, 273 ≤ i → i ≠ 285 → μ' i = μ i) := by
  refine Hx.of hst rfl (by decide +kernel) (Nat.le_of_ble_eq_true rfl) ?_
  refine VW.aload_n dL_stroke_0 rfl ?_
  refine VW.iconst dL_stroke_1 ?_
  refine VW.aload_n dL_stroke_2 rfl ?_
  refine VW.iload_n dL_stroke_3 rfl ?_
  obtain ⟨r1, hrun, o, μ1, e, ho, hA, hf⟩ := h
  subst e
  rcases hq with hq | hq
  · rw [if_pos hq] at ho
    subst ho
    refine VW.callV (av := [vI p0]) (t := false) cv_L_stroke_X7_stroke dL_stroke_4 rfl (Nat.le_of_ble_eq_true rfl) hg.1 hg.2 (fun h => by cases h) ⟨_, hrun, _, rfl, ?_⟩
    refine VW.i2lw dL_stroke_7 ?_
    refine VW.lastore dL_stroke_8 h285.1 h285.2 (by decide) (by decide) (by decide) ?_
    refine VW.goto 15 dL_stroke_9 (by decide) ?_
    refine VW.iconst dL_stroke_15 ?_
    refine VW.ireturn dL_stroke_16 rfl rfl ?_
    have f9 : frm μ1 (mup μ1 285 (0 : Int).toNat (w32 q2.2)) 285 286 := frm_mup (by omega)
    exact ⟨0, _, _, _, rfl, Nat.le_of_ble_eq_true rfl, Nat.le_of_ble_eq_true rfl, hq.symm, fun _ => mup_s _ _ _ _, hA.keep f9 (by omega), fun i h1 h2 => by rw [f9 i (by omega)]; exact hf i (by omega)⟩
  · rw [if_neg (by omega)] at ho
    subst ho
    refine VW.ofThrow (E := xIA) (pre := (tableOf (mH M_L_stroke)).take 0) (suf := (tableOf (mH M_L_stroke)).drop 1) (by rw [hq]; rfl) rfl (fun y hy => by cases hy) (by decide) (by decide) wd_687 (by decide +kernel) (Or.inl ⟨3, dL_stroke_12, rfl, by decide, rfl⟩) ?_ (callV_run (av := [vI p0]) cv_L_stroke_X7_stroke dL_stroke_4 rfl (Nat.le_of_ble_eq_true rfl) hg.1 hg.2 hrun)
    refine VW.iconst dL_stroke_13 ?_
    refine VW.ireturn dL_stroke_14 rfl rfl ?_
    exact ⟨1, _, _, _, rfl, Nat.le_of_ble_eq_true rfl, Nat.le_of_ble_eq_true rfl, hq.symm, fun w => absurd w (by decide), hA, fun i h1 h2 => hf i (by omega)⟩
theorem l_strokeOf (hst : l.stackTraces = false) {fks : List FK} (hg : 0 < N ∧ sh 0 = sO 7 fks) (h285 : 285 < N ∧ sh 285 = sL 1) (h : Fx G l N sh M_X7_strokeOf [.ref (gB G + 0), vI p0, vI p1] μ (gLo eO2 q2 A μ)) (hq : q2.1 = 0 ∨ q2.1 = 1 ∨ q2.1 = 2) : Hx G l N sh M_L_strokeOf [.ref (gB G + 0), vI p0, vI p1, .ref (gB G + 285)] μ (fun k μ' => k = q2.1 ∧ (k = 0 → μ' 285 0 = w32 q2.2) ∧ hasA μ' A ∧ ∀ i, 273 ≤ i → i ≠ 285 → μ' i = μ i) := by
  refine Hx.of hst rfl (by decide +kernel) (Nat.le_of_ble_eq_true rfl) ?_
  refine VW.aload_n dL_strokeOf_0 rfl ?_
  refine VW.iconst dL_strokeOf_1 ?_
  refine VW.aload_n dL_strokeOf_2 rfl ?_
  refine VW.iload_n dL_strokeOf_3 rfl ?_
  refine VW.iload_n dL_strokeOf_4 rfl ?_
  obtain ⟨r1, hrun, o, μ1, e, ho, hA, hf⟩ := h
  subst e
  rcases hq with hq | hq | hq
  · rw [if_pos hq] at ho
    subst ho
    refine VW.callV (av := [vI p0, vI p1]) (t := false) cv_L_strokeOf_X7_strokeOf dL_strokeOf_5 rfl (Nat.le_of_ble_eq_true rfl) hg.1 hg.2 (fun h => by cases h) ⟨_, hrun, _, rfl, ?_⟩
    refine VW.i2lw dL_strokeOf_8 ?_
    refine VW.lastore dL_strokeOf_9 h285.1 h285.2 (by decide) (by decide) (by decide) ?_
    refine VW.goto 21 dL_strokeOf_10 (by decide) ?_
    refine VW.iconst dL_strokeOf_21 ?_
    refine VW.ireturn dL_strokeOf_22 rfl rfl ?_
    have f9 : frm μ1 (mup μ1 285 (0 : Int).toNat (w32 q2.2)) 285 286 := frm_mup (by omega)
    exact ⟨0, _, _, _, rfl, Nat.le_of_ble_eq_true rfl, Nat.le_of_ble_eq_true rfl, hq.symm, fun _ => mup_s _ _ _ _, hA.keep f9 (by omega), fun i h1 h2 => by rw [f9 i (by omega)]; exact hf i (by omega)⟩
  · rw [if_neg (by omega)] at ho
    subst ho
    refine VW.ofThrow (E := xIO) (pre := (tableOf (mH M_L_strokeOf)).take 0) (suf := (tableOf (mH M_L_strokeOf)).drop 1) (by rw [hq]; rfl) rfl (fun y hy => by cases hy) (by decide) (by decide) wd_787 (by decide +kernel) (Or.inr ⟨4, dL_strokeOf_13, rfl, by decide, rfl⟩) ?_ (callV_run (av := [vI p0, vI p1]) cv_L_strokeOf_X7_strokeOf dL_strokeOf_5 rfl (Nat.le_of_ble_eq_true rfl) hg.1 hg.2 hrun)
    refine VW.iconst dL_strokeOf_15 ?_
    refine VW.ireturn dL_strokeOf_16 rfl rfl ?_
    exact ⟨1, _, _, _, rfl, Nat.le_of_ble_eq_true rfl, Nat.le_of_ble_eq_true rfl, hq.symm, fun w => absurd w (by decide), hA, fun i h1 h2 => hf i (by omega)⟩
  · rw [if_neg (by omega)] at ho
    subst ho
    refine VW.ofThrow (E := xIA) (pre := (tableOf (mH M_L_strokeOf)).take 1) (suf := (tableOf (mH M_L_strokeOf)).drop 2) (by rw [hq]; rfl) rfl (fun y hy => by rw [List.mem_singleton.mp hy]; exact Or.inr ⟨by decide, xIO, wd_787, by decide +kernel⟩) (by decide) (by decide) wd_687 (by decide +kernel) (Or.inr ⟨4, dL_strokeOf_17, rfl, by decide, rfl⟩) ?_ (callV_run (av := [vI p0, vI p1]) cv_L_strokeOf_X7_strokeOf dL_strokeOf_5 rfl (Nat.le_of_ble_eq_true rfl) hg.1 hg.2 hrun)
    refine VW.iconst dL_strokeOf_19 ?_
    refine VW.ireturn dL_strokeOf_20 rfl rfl ?_
    exact ⟨2, _, _, _, rfl, Nat.le_of_ble_eq_true rfl, Nat.le_of_ble_eq_true rfl, hq.symm, fun w => absurd w (by decide), hA, fun i h1 h2 => hf i (by omega)⟩
theorem l_distance (hst : l.stackTraces = false) {fks : List FK} (hg : 0 < N ∧ sh 0 = sO 7 fks) (h285 : 285 < N ∧ sh 285 = sL 1) (h : Fx G l N sh M_X7_distance [.ref (gB G + 0), vI p0, vI p1] μ (gLo eO1 q2 A μ)) (hq : q2.1 = 0 ∨ q2.1 = 1) : Hx G l N sh M_L_distance [.ref (gB G + 0), vI p0, vI p1, .ref (gB G + 285)] μ (fun k μ' => k = q2.1 ∧ (k = 0 → μ' 285 0 = w32 q2.2) ∧ hasA μ' A ∧ ∀ i, 273 ≤ i → i ≠ 285 → μ' i = μ i) := by
  refine Hx.of hst rfl (by decide +kernel) (Nat.le_of_ble_eq_true rfl) ?_
  refine VW.aload_n dL_distance_0 rfl ?_
  refine VW.iconst dL_distance_1 ?_
  refine VW.aload_n dL_distance_2 rfl ?_
  refine VW.iload_n dL_distance_3 rfl ?_
  refine VW.iload_n dL_distance_4 rfl ?_
  obtain ⟨r1, hrun, o, μ1, e, ho, hA, hf⟩ := h
  subst e
  rcases hq with hq | hq
  · rw [if_pos hq] at ho
    subst ho
    refine VW.callV (av := [vI p0, vI p1]) (t := false) cv_L_distance_X7_distance dL_distance_5 rfl (Nat.le_of_ble_eq_true rfl) hg.1 hg.2 (fun h => by cases h) ⟨_, hrun, _, rfl, ?_⟩
    refine VW.i2lw dL_distance_8 ?_
    refine VW.lastore dL_distance_9 h285.1 h285.2 (by decide) (by decide) (by decide) ?_
    refine VW.goto 17 dL_distance_10 (by decide) ?_
    refine VW.iconst dL_distance_17 ?_
    refine VW.ireturn dL_distance_18 rfl rfl ?_
    have f9 : frm μ1 (mup μ1 285 (0 : Int).toNat (w32 q2.2)) 285 286 := frm_mup (by omega)
    exact ⟨0, _, _, _, rfl, Nat.le_of_ble_eq_true rfl, Nat.le_of_ble_eq_true rfl, hq.symm, fun _ => mup_s _ _ _ _, hA.keep f9 (by omega), fun i h1 h2 => by rw [f9 i (by omega)]; exact hf i (by omega)⟩
  · rw [if_neg (by omega)] at ho
    subst ho
    refine VW.ofThrow (E := xIO) (pre := (tableOf (mH M_L_distance)).take 0) (suf := (tableOf (mH M_L_distance)).drop 1) (by rw [hq]; rfl) rfl (fun y hy => by cases hy) (by decide) (by decide) wd_787 (by decide +kernel) (Or.inr ⟨4, dL_distance_13, rfl, by decide, rfl⟩) ?_ (callV_run (av := [vI p0, vI p1]) cv_L_distance_X7_distance dL_distance_5 rfl (Nat.le_of_ble_eq_true rfl) hg.1 hg.2 hrun)
    refine VW.iconst dL_distance_15 ?_
    refine VW.ireturn dL_distance_16 rfl rfl ?_
    exact ⟨1, _, _, _, rfl, Nat.le_of_ble_eq_true rfl, Nat.le_of_ble_eq_true rfl, hq.symm, fun w => absurd w (by decide), hA, fun i h1 h2 => hf i (by omega)⟩
theorem l_reading (hst : l.stackTraces = false) {fks : List FK} (hg : 0 < N ∧ sh 0 = sO 7 fks) (h285 : 285 < N ∧ sh 285 = sL 1) (h : Fx G l N sh M_X7_reading [.ref (gB G + 0), vI p0] μ (gLo eA1 q2 A μ)) (hq : q2.1 = 0 ∨ q2.1 = 1) : Hx G l N sh M_L_reading [.ref (gB G + 0), vI p0, .ref (gB G + 285)] μ (fun k μ' => k = q2.1 ∧ (k = 0 → μ' 285 0 = w32 q2.2) ∧ hasA μ' A ∧ ∀ i, 273 ≤ i → i ≠ 285 → μ' i = μ i) := by
  refine Hx.of hst rfl (by decide +kernel) (Nat.le_of_ble_eq_true rfl) ?_
  refine VW.aload_n dL_reading_0 rfl ?_
  refine VW.iconst dL_reading_1 ?_
  refine VW.aload_n dL_reading_2 rfl ?_
  refine VW.iload_n dL_reading_3 rfl ?_
  obtain ⟨r1, hrun, o, μ1, e, ho, hA, hf⟩ := h
  subst e
  rcases hq with hq | hq
  · rw [if_pos hq] at ho
    subst ho
    refine VW.callV (av := [vI p0]) (t := false) cv_L_reading_X7_reading dL_reading_4 rfl (Nat.le_of_ble_eq_true rfl) hg.1 hg.2 (fun h => by cases h) ⟨_, hrun, _, rfl, ?_⟩
    refine VW.i2lw dL_reading_7 ?_
    refine VW.lastore dL_reading_8 h285.1 h285.2 (by decide) (by decide) (by decide) ?_
    refine VW.goto 15 dL_reading_9 (by decide) ?_
    refine VW.iconst dL_reading_15 ?_
    refine VW.ireturn dL_reading_16 rfl rfl ?_
    have f9 : frm μ1 (mup μ1 285 (0 : Int).toNat (w32 q2.2)) 285 286 := frm_mup (by omega)
    exact ⟨0, _, _, _, rfl, Nat.le_of_ble_eq_true rfl, Nat.le_of_ble_eq_true rfl, hq.symm, fun _ => mup_s _ _ _ _, hA.keep f9 (by omega), fun i h1 h2 => by rw [f9 i (by omega)]; exact hf i (by omega)⟩
  · rw [if_neg (by omega)] at ho
    subst ho
    refine VW.ofThrow (E := xIA) (pre := (tableOf (mH M_L_reading)).take 0) (suf := (tableOf (mH M_L_reading)).drop 1) (by rw [hq]; rfl) rfl (fun y hy => by cases hy) (by decide) (by decide) wd_687 (by decide +kernel) (Or.inl ⟨3, dL_reading_12, rfl, by decide, rfl⟩) ?_ (callV_run (av := [vI p0]) cv_L_reading_X7_reading dL_reading_4 rfl (Nat.le_of_ble_eq_true rfl) hg.1 hg.2 hrun)
    refine VW.iconst dL_reading_13 ?_
    refine VW.ireturn dL_reading_14 rfl rfl ?_
    exact ⟨1, _, _, _, rfl, Nat.le_of_ble_eq_true rfl, Nat.le_of_ble_eq_true rfl, hq.symm, fun w => absurd w (by decide), hA, fun i h1 h2 => hf i (by omega)⟩
theorem l_count (hst : l.stackTraces = false) {fks : List FK} (hg : 0 < N ∧ sh 0 = sO 7 fks) (h285 : 285 < N ∧ sh 285 = sL 1) (h : Fx G l N sh M_X7_count [.ref (gB G + 0), vI p0] μ (gLo eA1 q2 A μ)) (hq : q2.1 = 0 ∨ q2.1 = 1) : Hx G l N sh M_L_count [.ref (gB G + 0), vI p0, .ref (gB G + 285)] μ (fun k μ' => k = q2.1 ∧ (k = 0 → μ' 285 0 = w32 q2.2) ∧ hasA μ' A ∧ ∀ i, 273 ≤ i → i ≠ 285 → μ' i = μ i) := by
  refine Hx.of hst rfl (by decide +kernel) (Nat.le_of_ble_eq_true rfl) ?_
  refine VW.aload_n dL_count_0 rfl ?_
  refine VW.iconst dL_count_1 ?_
  refine VW.aload_n dL_count_2 rfl ?_
  refine VW.iload_n dL_count_3 rfl ?_
  obtain ⟨r1, hrun, o, μ1, e, ho, hA, hf⟩ := h
  subst e
  rcases hq with hq | hq
  · rw [if_pos hq] at ho
    subst ho
    refine VW.callV (av := [vI p0]) (t := false) cv_L_count_X7_count dL_count_4 rfl (Nat.le_of_ble_eq_true rfl) hg.1 hg.2 (fun h => by cases h) ⟨_, hrun, _, rfl, ?_⟩
    refine VW.i2lw dL_count_7 ?_
    refine VW.lastore dL_count_8 h285.1 h285.2 (by decide) (by decide) (by decide) ?_
    refine VW.goto 15 dL_count_9 (by decide) ?_
    refine VW.iconst dL_count_15 ?_
    refine VW.ireturn dL_count_16 rfl rfl ?_
    have f9 : frm μ1 (mup μ1 285 (0 : Int).toNat (w32 q2.2)) 285 286 := frm_mup (by omega)
    exact ⟨0, _, _, _, rfl, Nat.le_of_ble_eq_true rfl, Nat.le_of_ble_eq_true rfl, hq.symm, fun _ => mup_s _ _ _ _, hA.keep f9 (by omega), fun i h1 h2 => by rw [f9 i (by omega)]; exact hf i (by omega)⟩
  · rw [if_neg (by omega)] at ho
    subst ho
    refine VW.ofThrow (E := xIA) (pre := (tableOf (mH M_L_count)).take 0) (suf := (tableOf (mH M_L_count)).drop 1) (by rw [hq]; rfl) rfl (fun y hy => by cases hy) (by decide) (by decide) wd_687 (by decide +kernel) (Or.inl ⟨3, dL_count_12, rfl, by decide, rfl⟩) ?_ (callV_run (av := [vI p0]) cv_L_count_X7_count dL_count_4 rfl (Nat.le_of_ble_eq_true rfl) hg.1 hg.2 hrun)
    refine VW.iconst dL_count_13 ?_
    refine VW.ireturn dL_count_14 rfl rfl ?_
    exact ⟨1, _, _, _, rfl, Nat.le_of_ble_eq_true rfl, Nat.le_of_ble_eq_true rfl, hq.symm, fun w => absurd w (by decide), hA, fun i h1 h2 => hf i (by omega)⟩
theorem l_setting (hst : l.stackTraces = false) {fks : List FK} (hg : 0 < N ∧ sh 0 = sO 7 fks) (h285 : 285 < N ∧ sh 285 = sL 1) (h : Fx G l N sh M_X7_setting [.ref (gB G + 0), vI p0] μ (gLo eO1 q2 A μ)) (hq : q2.1 = 0 ∨ q2.1 = 1) : Hx G l N sh M_L_setting [.ref (gB G + 0), vI p0, .ref (gB G + 285)] μ (fun k μ' => k = q2.1 ∧ (k = 0 → μ' 285 0 = w32 q2.2) ∧ hasA μ' A ∧ ∀ i, 273 ≤ i → i ≠ 285 → μ' i = μ i) := by
  refine Hx.of hst rfl (by decide +kernel) (Nat.le_of_ble_eq_true rfl) ?_
  refine VW.aload_n dL_setting_0 rfl ?_
  refine VW.iconst dL_setting_1 ?_
  refine VW.aload_n dL_setting_2 rfl ?_
  refine VW.iload_n dL_setting_3 rfl ?_
  obtain ⟨r1, hrun, o, μ1, e, ho, hA, hf⟩ := h
  subst e
  rcases hq with hq | hq
  · rw [if_pos hq] at ho
    subst ho
    refine VW.callV (av := [vI p0]) (t := false) cv_L_setting_X7_setting dL_setting_4 rfl (Nat.le_of_ble_eq_true rfl) hg.1 hg.2 (fun h => by cases h) ⟨_, hrun, _, rfl, ?_⟩
    refine VW.i2lw dL_setting_7 ?_
    refine VW.lastore dL_setting_8 h285.1 h285.2 (by decide) (by decide) (by decide) ?_
    refine VW.goto 15 dL_setting_9 (by decide) ?_
    refine VW.iconst dL_setting_15 ?_
    refine VW.ireturn dL_setting_16 rfl rfl ?_
    have f9 : frm μ1 (mup μ1 285 (0 : Int).toNat (w32 q2.2)) 285 286 := frm_mup (by omega)
    exact ⟨0, _, _, _, rfl, Nat.le_of_ble_eq_true rfl, Nat.le_of_ble_eq_true rfl, hq.symm, fun _ => mup_s _ _ _ _, hA.keep f9 (by omega), fun i h1 h2 => by rw [f9 i (by omega)]; exact hf i (by omega)⟩
  · rw [if_neg (by omega)] at ho
    subst ho
    refine VW.ofThrow (E := xIO) (pre := (tableOf (mH M_L_setting)).take 0) (suf := (tableOf (mH M_L_setting)).drop 1) (by rw [hq]; rfl) rfl (fun y hy => by cases hy) (by decide) (by decide) wd_787 (by decide +kernel) (Or.inl ⟨3, dL_setting_12, rfl, by decide, rfl⟩) ?_ (callV_run (av := [vI p0]) cv_L_setting_X7_setting dL_setting_4 rfl (Nat.le_of_ble_eq_true rfl) hg.1 hg.2 hrun)
    refine VW.iconst dL_setting_13 ?_
    refine VW.ireturn dL_setting_14 rfl rfl ?_
    exact ⟨1, _, _, _, rfl, Nat.le_of_ble_eq_true rfl, Nat.le_of_ble_eq_true rfl, hq.symm, fun w => absurd w (by decide), hA, fun i h1 h2 => hf i (by omega)⟩
theorem l_ifPoint (hst : l.stackTraces = false) {fks : List FK} (hg : 0 < N ∧ sh 0 = sO 7 fks) (h285 : 285 < N ∧ sh 285 = sL 1) (h : Fx G l N sh M_X7_ifPoint [.ref (gB G + 0), vI p0, vI p1] μ (gLo eA1 q2 A μ)) (hq : q2.1 = 0 ∨ q2.1 = 1) : Hx G l N sh M_L_ifPoint [.ref (gB G + 0), vI p0, vI p1, .ref (gB G + 285)] μ (fun k μ' => k = q2.1 ∧ (k = 0 → μ' 285 0 = w32 q2.2) ∧ hasA μ' A ∧ ∀ i, 273 ≤ i → i ≠ 285 → μ' i = μ i) := by
  refine Hx.of hst rfl (by decide +kernel) (Nat.le_of_ble_eq_true rfl) ?_
  refine VW.aload_n dL_ifPoint_0 rfl ?_
  refine VW.iconst dL_ifPoint_1 ?_
  refine VW.aload_n dL_ifPoint_2 rfl ?_
  refine VW.iload_n dL_ifPoint_3 rfl ?_
  refine VW.iload_n dL_ifPoint_4 rfl ?_
  obtain ⟨r1, hrun, o, μ1, e, ho, hA, hf⟩ := h
  subst e
  rcases hq with hq | hq
  · rw [if_pos hq] at ho
    subst ho
    refine VW.callV (av := [vI p0, vI p1]) (t := false) cv_L_ifPoint_X7_ifPoint dL_ifPoint_5 rfl (Nat.le_of_ble_eq_true rfl) hg.1 hg.2 (fun h => by cases h) ⟨_, hrun, _, rfl, ?_⟩
    refine VW.i2lw dL_ifPoint_8 ?_
    refine VW.lastore dL_ifPoint_9 h285.1 h285.2 (by decide) (by decide) (by decide) ?_
    refine VW.goto 17 dL_ifPoint_10 (by decide) ?_
    refine VW.iconst dL_ifPoint_17 ?_
    refine VW.ireturn dL_ifPoint_18 rfl rfl ?_
    have f9 : frm μ1 (mup μ1 285 (0 : Int).toNat (w32 q2.2)) 285 286 := frm_mup (by omega)
    exact ⟨0, _, _, _, rfl, Nat.le_of_ble_eq_true rfl, Nat.le_of_ble_eq_true rfl, hq.symm, fun _ => mup_s _ _ _ _, hA.keep f9 (by omega), fun i h1 h2 => by rw [f9 i (by omega)]; exact hf i (by omega)⟩
  · rw [if_neg (by omega)] at ho
    subst ho
    refine VW.ofThrow (E := xIA) (pre := (tableOf (mH M_L_ifPoint)).take 0) (suf := (tableOf (mH M_L_ifPoint)).drop 1) (by rw [hq]; rfl) rfl (fun y hy => by cases hy) (by decide) (by decide) wd_687 (by decide +kernel) (Or.inr ⟨4, dL_ifPoint_13, rfl, by decide, rfl⟩) ?_ (callV_run (av := [vI p0, vI p1]) cv_L_ifPoint_X7_ifPoint dL_ifPoint_5 rfl (Nat.le_of_ble_eq_true rfl) hg.1 hg.2 hrun)
    refine VW.iconst dL_ifPoint_15 ?_
    refine VW.ireturn dL_ifPoint_16 rfl rfl ?_
    exact ⟨1, _, _, _, rfl, Nat.le_of_ble_eq_true rfl, Nat.le_of_ble_eq_true rfl, hq.symm, fun w => absurd w (by decide), hA, fun i h1 h2 => hf i (by omega)⟩
end PZ
