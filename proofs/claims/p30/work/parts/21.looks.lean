/-! ===== LatticeGestures: looks ===== -/
section PJ
variable {G : GT} {l : Launch} {N : Nat} {sh : Nat → ShT} {μ μ' : Mem} {xs ys xs' ys' S S' B B' : List Int} {C C' : List (List Int)} {Z Z' : List St} {E : Int → String} {q : QS} {q2 : Int × Int}
theorem rat_map (f : List Int → Int) {C : List (List Int)} {c : Int} (h : 0 ≤ c ∧ c < C.length) : rat (C.map f) c = f (C.getD c.toNat []) := by
  have hk : c.toNat < C.length := by omega
  unfold rat
  rw [List.length_map, if_pos h]
  simp [List.getD, hk]
theorem dsts_b {xs ys S : List Int} {C : List (List Int)} (hx : bnd xs 0 31) (hy : bnd ys 0 31) (hl : xs.length ≤ 41) (hw : wfS S) (h8 : ∀ L ∈ C, L.length ≤ 8 ∧ bnd L 0 7) : bnd (dsts xs ys C S) 0 1000 := fun z hz => by
  obtain ⟨L, hL, rfl⟩ := List.mem_map.mp hz
  exact dstOf_b hw _ _ (stk_ok hx hy hl).1 (h8 L hL).1
theorem rsts_b {xs ys S : List Int} {C : List (List Int)} (h8 : ∀ L ∈ C, L.length ≤ 8 ∧ bnd L 0 7) : bnd (rsts xs ys C S) (-1) 8 := fun z hz => by
  obtain ⟨L, hL, rfl⟩ := List.mem_map.mp hz
  have h := lrF_b (costF (rat S 3) (rat S 2) (stk xs ys S) (KL L)) L.length (rat S 4) (L.length + 1) 0
  have h9 := (h8 L hL).1
  unfold rstOf
  omega
variable {r w : Int}
theorem g_run (hst : l.stackTraces = false) (hg : isG N sh) (h : hasG μ xs ys C S Z B) (ok : okA (mk xs ys C S Z B)) (hr : R32 r) (hw : R32 w) : Fx G l N sh M_X7_run [.ref (gB G + 0), vI r, vI w] μ (gLo eA1 (lkRun xs ys S r w) (mk xs ys C S Z B) μ) := by
  refine Fx.of hst rfl (by decide +kernel) (Nat.le_of_ble_eq_true rfl) rfl ?_
  obtain ⟨⟨⟨ok1, ok2, ok3, ok4⟩, ⟨ok5, ok6, ok7⟩, ok8⟩, ⟨ok9, ok10⟩, ok11, ok12⟩ := okA.un ok
  obtain ⟨h0, hv⟩ := id h
  obtain ⟨hP, hC, hS, hZ, hB, tx, ty, hT⟩ := id h0
  have okC : ∀ L ∈ C, bnd L 0 7 := fun L hL => (ok6 L hL).2
  have hv1 : rowOf μ 233 = rnD xs ys := hv.1.2
  have hv2 : rowOf μ 235 = rnL xs ys := hv.2.1.2
  have rk := rn_ok ok3 ok4 (by omega : xs.length ≤ 41)
  have rk1 := rk.1
  have rk2 := rk.2.1
  obtain ⟨hw5, hw0, hw1, hw2, hw3, hw4⟩ := id ok8
  refine VW.iload_n dX7_run_0 rfl ?_
  refine VW.if_lt 13 ⟨by omega, by omega⟩ dX7_run_1 (by decide) (fun c1 => ?_) (fun c1 => ?_)
  · refine VW.throwS (text := "run is below 0, or what is not 0 to 3") hst xt_X7_66 (by decide +kernel) rfl (by decide) (by decide) dX7_run_13 dX7_run_16 dX7_run_17 dX7_run_19 dX7_run_22 ?_
    exact fxP.x (gLo_x (if_pos (by omega)) h frm.rf (by decide) rfl)
  · refine VW.iload_n dX7_run_4 rfl ?_
    refine VW.if_lt 13 ⟨by omega, by omega⟩ dX7_run_5 (by decide) (fun c5 => ?_) (fun c5 => ?_)
    · refine VW.throwS (text := "run is below 0, or what is not 0 to 3") hst xt_X7_66 (by decide +kernel) rfl (by decide) (by decide) dX7_run_13 dX7_run_16 dX7_run_17 dX7_run_19 dX7_run_22 ?_
      exact fxP.x (gLo_x (if_pos (by omega)) h frm.rf (by decide) rfl)
    · refine VW.iload_n dX7_run_8 rfl ?_
      refine VW.iconst dX7_run_9 ?_
      refine VW.icmp_le 23 ⟨by omega, by omega⟩ ⟨by omega, by omega⟩ dX7_run_10 (by decide) (fun c10 => ?_) (fun c10 => ?_)
      · refine VW.iload_n dX7_run_23 rfl ?_
        refine VW.aload_n dX7_run_24 rfl ?_
        refine VW.getR dX7_run_25 fa_X7_35 (gLt hg) hg.2.1 rfl ?_
        refine VW.getR dX7_run_28 fa_X7_245 (by have := hg.1; omega) (gVs hg) rfl ?_
        refine VW.pV0 cv_X7_run_X4_held dX7_run_31 (Nat.le_of_ble_eq_true rfl) (gV1 hg).1 (gV1 hg).2.1 (r_held hst (gV1 hg) hv.1) ?_
        refine VW.icmp_lt 39 ⟨by omega, by omega⟩ ⟨by omega, by omega⟩ dX7_run_34 (by decide) (fun c34 => ?_) (fun c34 => ?_)
        · refine VW.iload_n dX7_run_39 rfl ?_
          by_cases hsw : 0 ≤ w ∧ w ≤ 2
          · have hcs : w = 0 ∨ w = 1 ∨ w = 2 := by omega
            rcases hcs with hcv | hcv | hcv
            · refine VW.tswIn 68 ⟨by omega, by omega⟩ dX7_run_40 (by omega) (by omega) (by rw [hcv]; rfl) (by decide) ?_
              refine VW.aload_n dX7_run_68 rfl ?_
              refine VW.getR dX7_run_69 fa_X7_35 (gLt hg) hg.2.1 rfl ?_
              refine VW.getR dX7_run_72 fa_X7_245 (by have := hg.1; omega) (gVs hg) rfl ?_
              refine VW.iload_n dX7_run_75 rfl ?_
              refine VW.pV1 cv_X7_run_X4_at dX7_run_76 (Nat.le_of_ble_eq_true rfl) (gV1 hg).1 (gV1 hg).2.1 (r_at hst (gV1 hg) hv.1 ⟨by omega, by omega⟩) ?_
              refine VW.ireturn dX7_run_79 rfl rfl ?_
              exact fxP.r (gLo_r ((if_neg (by omega)).trans ((if_neg (by omega)).trans (by subst hcv; rfl))) h frm.rf)
            · refine VW.tswIn 80 ⟨by omega, by omega⟩ dX7_run_40 (by omega) (by omega) (by rw [hcv]; rfl) (by decide) ?_
              refine VW.aload_n dX7_run_80 rfl ?_
              refine VW.getR dX7_run_81 fa_X7_35 (gLt hg) hg.2.1 rfl ?_
              refine VW.getR dX7_run_84 fa_X7_248 (by have := hg.1; omega) (gVs hg) rfl ?_
              refine VW.iload_n dX7_run_87 rfl ?_
              refine VW.pV1 cv_X7_run_X4_at dX7_run_88 (Nat.le_of_ble_eq_true rfl) (gV22 hg).1 (gV22 hg).2.1 (r_at hst (gV22 hg) hv.2.1 ⟨by omega, by omega⟩) ?_
              refine VW.ireturn dX7_run_91 rfl rfl ?_
              exact fxP.r (gLo_r ((if_neg (by omega)).trans ((if_neg (by omega)).trans (by subst hcv; rfl))) h frm.rf)
            · refine VW.tswIn 92 ⟨by omega, by omega⟩ dX7_run_40 (by omega) (by omega) (by rw [hcv]; rfl) (by decide) ?_
              refine VW.aload_n dX7_run_92 rfl ?_
              refine VW.getR dX7_run_93 fa_X7_35 (gLt hg) hg.2.1 rfl ?_
              refine VW.getR dX7_run_96 fa_X7_248 (by have := hg.1; omega) (gVs hg) rfl ?_
              refine VW.iload_n dX7_run_99 rfl ?_
              refine VW.pV1 cv_X7_run_X4_at dX7_run_100 (Nat.le_of_ble_eq_true rfl) (gV22 hg).1 (gV22 hg).2.1 (r_at hst (gV22 hg) hv.2.1 ⟨by omega, by omega⟩) ?_
              have hrr0 := nng_rat rk.2.2.2.1 r
              have hrr1 := sum_rat rk.2.2.2.1 r
              have rk5 := rk.2.2.2.2
              refine VW.aload_n dX7_run_103 rfl ?_
              refine VW.getR dX7_run_104 fa_X7_10 (gLt hg) hg.2.1 rfl ?_
              refine VW.getR dX7_run_107 fa_X7_209 (by have := hg.1; omega) (gSs hg) rfl ?_
              refine VW.iconst dX7_run_110 ?_
              refine VW.pV1 cv_X7_run_X4_at dX7_run_111 (Nat.le_of_ble_eq_true rfl) (gSr hg).1 (gSr hg).2.1 (r_at hst (gSr hg) hS (by decide)) ?_
              refine VW.icmp_ge 121 ⟨by omega, by omega⟩ ⟨by omega, by omega⟩ dX7_run_114 (by decide) (fun c114 => ?_) (fun c114 => ?_)
              · refine VW.iconst dX7_run_121 ?_
                refine VW.ireturn dX7_run_122 rfl rfl ?_
                first
                | (have e : bI (decide (rat (rnL xs ys) r < rat S 0)) = 1 := by rw [decide_eq_true (by omega : rat (rnL xs ys) r < rat S 0)]; rfl
                   exact fxP.r (gLo_r ((if_neg (by omega)).trans ((if_neg (by omega)).trans (by subst hcv; exact congrArg (Prod.mk (0 : Int)) e))) h frm.rf))
                | (have e : bI (decide (rat (rnL xs ys) r < rat S 0)) = 0 := by rw [decide_eq_false (by omega : ¬ rat (rnL xs ys) r < rat S 0)]; rfl
                   exact fxP.r (gLo_r ((if_neg (by omega)).trans ((if_neg (by omega)).trans (by subst hcv; exact congrArg (Prod.mk (0 : Int)) e))) h frm.rf))
              · refine VW.iconst dX7_run_117 ?_
                refine VW.goto 122 dX7_run_118 (by decide) ?_
                refine VW.ireturn dX7_run_122 rfl rfl ?_
                first
                | (have e : bI (decide (rat (rnL xs ys) r < rat S 0)) = 1 := by rw [decide_eq_true (by omega : rat (rnL xs ys) r < rat S 0)]; rfl
                   exact fxP.r (gLo_r ((if_neg (by omega)).trans ((if_neg (by omega)).trans (by subst hcv; exact congrArg (Prod.mk (0 : Int)) e))) h frm.rf))
                | (have e : bI (decide (rat (rnL xs ys) r < rat S 0)) = 0 := by rw [decide_eq_false (by omega : ¬ rat (rnL xs ys) r < rat S 0)]; rfl
                   exact fxP.r (gLo_r ((if_neg (by omega)).trans ((if_neg (by omega)).trans (by subst hcv; exact congrArg (Prod.mk (0 : Int)) e))) h frm.rf))
          · refine VW.tswOut 123 ⟨by omega, by omega⟩ dX7_run_40 (by omega) (by decide) ?_
            refine VW.aload_n dX7_run_123 rfl ?_
            refine VW.getR dX7_run_124 fa_X7_35 (gLt hg) hg.2.1 rfl ?_
            refine VW.getR dX7_run_127 fa_X7_245 (by have := hg.1; omega) (gVs hg) rfl ?_
            refine VW.aload_n dX7_run_130 rfl ?_
            refine VW.getR dX7_run_131 fa_X7_35 (gLt hg) hg.2.1 rfl ?_
            refine VW.getR dX7_run_134 fa_X7_248 (by have := hg.1; omega) (gVs hg) rfl ?_
            refine VW.iload_n dX7_run_137 rfl ?_
            refine VW.aload_n dX7_run_138 rfl ?_
            refine VW.getR dX7_run_139 fa_X7_10 (gLt hg) hg.2.1 rfl ?_
            refine VW.getR dX7_run_142 fa_X7_209 (by have := hg.1; omega) (gSs hg) rfl ?_
            refine VW.iconst dX7_run_145 ?_
            refine VW.pV1 cv_X7_run_X4_at dX7_run_146 (Nat.le_of_ble_eq_true rfl) (gSr hg).1 (gSr hg).2.1 (r_at hst (gSr hg) hS (by decide)) ?_
            refine VW.pS4 cs_X7_run_X7_isCutCorner dX7_run_149 (Nat.le_of_ble_eq_true rfl) (s_X7_isCutCorner hst (gV1 hg) hv.1.1 (gV22 hg) hv.2.1.1 (by rw [hv1]; exact rk.2.2.1) (by rw [hv2]; exact fun x hx => ⟨rk.2.2.2.1 x hx, by have := mem_sum rk.2.2.2.1 x hx; have := rk.2.2.2.2; omega⟩) ⟨by omega, by omega⟩ ⟨by omega, by omega⟩) ?_
            rw [hv1, hv2]
            refine VW.if_eq 159 (bR _) dX7_run_152 (by decide) (fun c152 => ?_) (fun c152 => ?_)
            · refine VW.iconst dX7_run_159 ?_
              refine VW.ireturn dX7_run_160 rfl rfl ?_
              have hw3 : w = 3 := by omega
              first
              | (have e : bI (isCut (rnD xs ys) (rnL xs ys) r (rat S 1)) = 0 := c152
                 exact fxP.r (gLo_r ((if_neg (by omega)).trans ((if_neg (by omega)).trans (by subst hw3; exact congrArg (Prod.mk (0 : Int)) e))) h frm.rf))
              | (have e : bI (isCut (rnD xs ys) (rnL xs ys) r (rat S 1)) = 1 := by have := bI_b (isCut (rnD xs ys) (rnL xs ys) r (rat S 1)); omega
                 exact fxP.r (gLo_r ((if_neg (by omega)).trans ((if_neg (by omega)).trans (by subst hw3; exact congrArg (Prod.mk (0 : Int)) e))) h frm.rf))
            · refine VW.iconst dX7_run_155 ?_
              refine VW.goto 160 dX7_run_156 (by decide) ?_
              refine VW.ireturn dX7_run_160 rfl rfl ?_
              have hw3 : w = 3 := by omega
              first
              | (have e : bI (isCut (rnD xs ys) (rnL xs ys) r (rat S 1)) = 0 := c152
                 exact fxP.r (gLo_r ((if_neg (by omega)).trans ((if_neg (by omega)).trans (by subst hw3; exact congrArg (Prod.mk (0 : Int)) e))) h frm.rf))
              | (have e : bI (isCut (rnD xs ys) (rnL xs ys) r (rat S 1)) = 1 := by have := bI_b (isCut (rnD xs ys) (rnL xs ys) r (rat S 1)); omega
                 exact fxP.r (gLo_r ((if_neg (by omega)).trans ((if_neg (by omega)).trans (by subst hw3; exact congrArg (Prod.mk (0 : Int)) e))) h frm.rf))
        · refine VW.iconst dX7_run_37 ?_
          refine VW.ireturn dX7_run_38 rfl rfl ?_
          exact fxP.r (gLo_r ((if_neg (by omega)).trans (if_pos (by omega))) h frm.rf)
      · refine VW.throwS (text := "run is below 0, or what is not 0 to 3") hst xt_X7_66 (by decide +kernel) rfl (by decide) (by decide) dX7_run_13 dX7_run_16 dX7_run_17 dX7_run_19 dX7_run_22 ?_
        exact fxP.x (gLo_x (if_pos (by omega)) h frm.rf (by decide) rfl)
theorem g_stroke (hst : l.stackTraces = false) (hg : isG N sh) (h : hasG μ xs ys C S Z B) (ok : okA (mk xs ys C S Z B)) {p : Int} (hp : R32 p) : Fx G l N sh M_X7_stroke [.ref (gB G + 0), vI p] μ (gLo eA1 (lkStroke xs ys S p) (mk xs ys C S Z B) μ) := by
  refine Fx.of hst rfl (by decide +kernel) (Nat.le_of_ble_eq_true rfl) rfl ?_
  obtain ⟨⟨⟨ok1, ok2, ok3, ok4⟩, ⟨ok5, ok6, ok7⟩, ok8⟩, ⟨ok9, ok10⟩, ok11, ok12⟩ := okA.un ok
  obtain ⟨h0, hv⟩ := id h
  obtain ⟨hP, hC, hS, hZ, hB, tx, ty, hT⟩ := id h0
  have okC : ∀ L ∈ C, bnd L 0 7 := fun L hL => (ok6 L hL).2
  refine VW.iload_n dX7_stroke_0 rfl ?_
  refine VW.if_ge 14 ⟨by omega, by omega⟩ dX7_stroke_1 (by decide) (fun c1 => ?_) (fun c1 => ?_)
  · refine VW.aload_n dX7_stroke_14 rfl ?_
    refine VW.getR dX7_stroke_15 fa_X7_35 (gLt hg) hg.2.1 rfl ?_
    refine VW.getR dX7_stroke_18 fa_X7_147 (by have := hg.1; omega) (gVs hg) rfl ?_
    refine VW.iload_n dX7_stroke_21 rfl ?_
    refine VW.pV1 cv_X7_stroke_X4_at dX7_stroke_22 (Nat.le_of_ble_eq_true rfl) (gV3 hg).1 (gV3 hg).2.1 (r_at hst (gV3 hg) hv.2.2.1 hp) ?_
    refine VW.ireturn dX7_stroke_25 rfl rfl ?_
    exact fxP.r (gLo_r (if_neg (by omega)) h frm.rf)
  · refine VW.throwS (text := "place is below 0") hst xt_X7_66 (by decide +kernel) rfl (by decide) (by decide) dX7_stroke_4 dX7_stroke_7 dX7_stroke_8 dX7_stroke_10 dX7_stroke_13 ?_
    exact fxP.x (gLo_x (if_pos (by omega)) h frm.rf (by decide) rfl)
theorem g_distance (hst : l.stackTraces = false) (hg : isG N sh) (h : hasG μ xs ys C S Z B) (ok : okA (mk xs ys C S Z B)) {c q : Int} (hc : R32 c) (hq : R32 q) : Fx G l N sh M_X7_distance [.ref (gB G + 0), vI c, vI q] μ (gLo eO1 (lkDistance xs ys C S c q) (mk xs ys C S Z B) μ) := by
  refine Fx.of hst rfl (by decide +kernel) (Nat.le_of_ble_eq_true rfl) rfl ?_
  obtain ⟨⟨⟨ok1, ok2, ok3, ok4⟩, ⟨ok5, ok6, ok7⟩, ok8⟩, ⟨ok9, ok10⟩, ok11, ok12⟩ := okA.un ok
  obtain ⟨h0, hv⟩ := id h
  obtain ⟨hP, hC, hS, hZ, hB, tx, ty, hT⟩ := id h0
  have okC : ∀ L ∈ C, bnd L 0 7 := fun L hL => (ok6 L hL).2
  refine VW.aload_n dX7_distance_0 rfl ?_
  refine VW.iload_n dX7_distance_1 rfl ?_
  refine VW.pV1 cv_X7_distance_X7_isCommand dX7_distance_2 (Nat.le_of_ble_eq_true rfl) (gLt hg) hg.2.1 (g_isCommand hst hg hC hc) ?_
  refine VW.if_eq 21 (bR _) dX7_distance_5 (by decide) (fun c5 => ?_) (fun c5 => ?_)
  · refine VW.throwS (text := "there is no such command") hst xt_X7_188 (by decide +kernel) rfl (by decide) (by decide) dX7_distance_21 dX7_distance_24 dX7_distance_25 dX7_distance_27 dX7_distance_30 ?_
    first
    | (have t := c18; simp [bI0] at t; exact fxP.x (gLo_x (if_pos (by omega)) h frm.rf (by decide) rfl))
    | (have t := c5; simp [bI0] at t; exact fxP.x (gLo_x (if_pos (by omega)) h frm.rf (by decide) rfl))
  · have hcc : 0 ≤ c ∧ c < C.length := by have t := c5; simp [bI0] at t; exact t
    refine VW.iload_n dX7_distance_8 rfl ?_
    refine VW.iconst dX7_distance_9 ?_
    refine VW.icmp_eq 31 ⟨by omega, by omega⟩ ⟨by omega, by omega⟩ dX7_distance_10 (by decide) (fun c10 => ?_) (fun c10 => ?_)
    · refine VW.iload_n dX7_distance_31 rfl ?_
      refine VW.iconst dX7_distance_32 ?_
      refine VW.icmp_ne 48 ⟨by omega, by omega⟩ ⟨by omega, by omega⟩ dX7_distance_33 (by decide) (fun c33 => ?_) (fun c33 => ?_)
      · have hqq : 0 ≤ q ∧ q < C.length := by first | omega | (have t := c18; simp [bI0] at t; exact t)
        refine VW.aload_n dX7_distance_48 rfl ?_
        refine VW.getR dX7_distance_49 fa_X7_42 (gLt hg) hg.2.1 rfl ?_
        refine VW.aload_n dX7_distance_52 rfl ?_
        refine VW.getR dX7_distance_53 fa_X7_10 (gLt hg) hg.2.1 rfl ?_
        refine VW.getR dX7_distance_56 fa_X7_151 (by have := hg.1; omega) (gSs hg) rfl ?_
        refine VW.iload_n dX7_distance_59 rfl ?_
        refine VW.oV1 cv_X7_distance_X0_directions dX7_distance_60 (Nat.le_of_ble_eq_true rfl) (gSc hg).1 (gSc hg).2.1 (c_directions hst (gSc hg) ⟨by omega, by omega⟩) ?_
        refine VW.aload_n dX7_distance_63 rfl ?_
        refine VW.getR dX7_distance_64 fa_X7_10 (gLt hg) hg.2.1 rfl ?_
        refine VW.getR dX7_distance_67 fa_X7_151 (by have := hg.1; omega) (gSs hg) rfl ?_
        refine VW.iload_n dX7_distance_70 rfl ?_
        refine VW.oV1 cv_X7_distance_X0_directions dX7_distance_71 (Nat.le_of_ble_eq_true rfl) (gSc hg).1 (gSc hg).2.1 (c_directions hst (gSc hg) ⟨by omega, by omega⟩) ?_
        refine VW.aload_n dX7_distance_74 rfl ?_
        refine VW.getR dX7_distance_75 fa_X7_10 (gLt hg) hg.2.1 rfl ?_
        refine VW.getR dX7_distance_78 fa_X7_209 (by have := hg.1; omega) (gSs hg) rfl ?_
        refine VW.fvV3 cv_X7_distance_X2_measure dX7_distance_81 (Nat.le_of_ble_eq_true rfl) (gM hg).1 (gM hg).2.1 (m_measure hst (gM hg) ((gSc hg).2.2.2.2.1 q.toNat (by omega)) (hC.row (i := q.toNat) (by omega)) (by have := hC.len8 (i := q.toNat) (by omega); omega) (okC _ (getD_mem C (by omega))) ((gSc hg).2.2.2.2.1 c.toNat (by omega)) (hC.row (i := c.toNat) (by omega)) (hC.len8 (by omega)) (okC _ (getD_mem C (by omega))) (gSr hg) hS ok8 (by omega) (by omega) (by omega)) (fun μ3 h3 => ?_)
        refine VW.aload_n dX7_distance_84 rfl ?_
        refine VW.getR dX7_distance_85 fa_X7_42 (gLt hg) hg.2.1 rfl ?_
        refine VW.pV0 cv_X7_distance_X2_whole dX7_distance_88 (Nat.le_of_ble_eq_true rfl) (gM hg).1 (gM hg).2.1 (m_whole hst (gM hg) h3.1) ?_
        refine VW.ireturn dX7_distance_91 rfl rfl ?_
        exact fxP.r (gLo_r ((if_neg (by omega)).trans (by rw [if_neg (by omega)]; rfl)) (h.keep h3.2 (by omega) (by omega)) (h3.2.wid (by omega) (by omega)))
      · refine VW.aload_n dX7_distance_36 rfl ?_
        refine VW.getR dX7_distance_37 fa_X7_35 (gLt hg) hg.2.1 rfl ?_
        refine VW.getR dX7_distance_40 fa_X7_260 (by have := hg.1; omega) (gVs hg) rfl ?_
        refine VW.iload_n dX7_distance_43 rfl ?_
        refine VW.pV1 cv_X7_distance_X4_at dX7_distance_44 (Nat.le_of_ble_eq_true rfl) (gV5 hg).1 (gV5 hg).2.1 (r_at hst (gV5 hg) hv.2.2.2.2.2.1 hc) ?_
        refine VW.ireturn dX7_distance_47 rfl rfl ?_
        rw [rat_map _ hcc]
        exact fxP.r (gLo_r ((if_neg (by omega)).trans (by rw [if_pos (by omega)])) h frm.rf)
    · refine VW.aload_n dX7_distance_13 rfl ?_
      refine VW.iload_n dX7_distance_14 rfl ?_
      refine VW.pV1 cv_X7_distance_X7_isCommand dX7_distance_15 (Nat.le_of_ble_eq_true rfl) (gLt hg) hg.2.1 (g_isCommand hst hg hC hq) ?_
      refine VW.if_ne 31 (bR _) dX7_distance_18 (by decide) (fun c18 => ?_) (fun c18 => ?_)
      · refine VW.iload_n dX7_distance_31 rfl ?_
        refine VW.iconst dX7_distance_32 ?_
        refine VW.icmp_ne 48 ⟨by omega, by omega⟩ ⟨by omega, by omega⟩ dX7_distance_33 (by decide) (fun c33 => ?_) (fun c33 => ?_)
        · have hqq : 0 ≤ q ∧ q < C.length := by first | omega | (have t := c18; simp [bI0] at t; exact t)
          refine VW.aload_n dX7_distance_48 rfl ?_
          refine VW.getR dX7_distance_49 fa_X7_42 (gLt hg) hg.2.1 rfl ?_
          refine VW.aload_n dX7_distance_52 rfl ?_
          refine VW.getR dX7_distance_53 fa_X7_10 (gLt hg) hg.2.1 rfl ?_
          refine VW.getR dX7_distance_56 fa_X7_151 (by have := hg.1; omega) (gSs hg) rfl ?_
          refine VW.iload_n dX7_distance_59 rfl ?_
          refine VW.oV1 cv_X7_distance_X0_directions dX7_distance_60 (Nat.le_of_ble_eq_true rfl) (gSc hg).1 (gSc hg).2.1 (c_directions hst (gSc hg) ⟨by omega, by omega⟩) ?_
          refine VW.aload_n dX7_distance_63 rfl ?_
          refine VW.getR dX7_distance_64 fa_X7_10 (gLt hg) hg.2.1 rfl ?_
          refine VW.getR dX7_distance_67 fa_X7_151 (by have := hg.1; omega) (gSs hg) rfl ?_
          refine VW.iload_n dX7_distance_70 rfl ?_
          refine VW.oV1 cv_X7_distance_X0_directions dX7_distance_71 (Nat.le_of_ble_eq_true rfl) (gSc hg).1 (gSc hg).2.1 (c_directions hst (gSc hg) ⟨by omega, by omega⟩) ?_
          refine VW.aload_n dX7_distance_74 rfl ?_
          refine VW.getR dX7_distance_75 fa_X7_10 (gLt hg) hg.2.1 rfl ?_
          refine VW.getR dX7_distance_78 fa_X7_209 (by have := hg.1; omega) (gSs hg) rfl ?_
          refine VW.fvV3 cv_X7_distance_X2_measure dX7_distance_81 (Nat.le_of_ble_eq_true rfl) (gM hg).1 (gM hg).2.1 (m_measure hst (gM hg) ((gSc hg).2.2.2.2.1 q.toNat (by omega)) (hC.row (i := q.toNat) (by omega)) (by have := hC.len8 (i := q.toNat) (by omega); omega) (okC _ (getD_mem C (by omega))) ((gSc hg).2.2.2.2.1 c.toNat (by omega)) (hC.row (i := c.toNat) (by omega)) (hC.len8 (by omega)) (okC _ (getD_mem C (by omega))) (gSr hg) hS ok8 (by omega) (by omega) (by omega)) (fun μ3 h3 => ?_)
          refine VW.aload_n dX7_distance_84 rfl ?_
          refine VW.getR dX7_distance_85 fa_X7_42 (gLt hg) hg.2.1 rfl ?_
          refine VW.pV0 cv_X7_distance_X2_whole dX7_distance_88 (Nat.le_of_ble_eq_true rfl) (gM hg).1 (gM hg).2.1 (m_whole hst (gM hg) h3.1) ?_
          refine VW.ireturn dX7_distance_91 rfl rfl ?_
          exact fxP.r (gLo_r ((if_neg (by omega)).trans (by rw [if_neg (by omega)]; rfl)) (h.keep h3.2 (by omega) (by omega)) (h3.2.wid (by omega) (by omega)))
        · refine VW.aload_n dX7_distance_36 rfl ?_
          refine VW.getR dX7_distance_37 fa_X7_35 (gLt hg) hg.2.1 rfl ?_
          refine VW.getR dX7_distance_40 fa_X7_260 (by have := hg.1; omega) (gVs hg) rfl ?_
          refine VW.iload_n dX7_distance_43 rfl ?_
          refine VW.pV1 cv_X7_distance_X4_at dX7_distance_44 (Nat.le_of_ble_eq_true rfl) (gV5 hg).1 (gV5 hg).2.1 (r_at hst (gV5 hg) hv.2.2.2.2.2.1 hc) ?_
          refine VW.ireturn dX7_distance_47 rfl rfl ?_
          rw [rat_map _ hcc]
          exact fxP.r (gLo_r ((if_neg (by omega)).trans (by rw [if_pos (by omega)])) h frm.rf)
      · refine VW.throwS (text := "there is no such command") hst xt_X7_188 (by decide +kernel) rfl (by decide) (by decide) dX7_distance_21 dX7_distance_24 dX7_distance_25 dX7_distance_27 dX7_distance_30 ?_
        first
        | (have t := c18; simp [bI0] at t; exact fxP.x (gLo_x (if_pos (by omega)) h frm.rf (by decide) rfl))
        | (have t := c5; simp [bI0] at t; exact fxP.x (gLo_x (if_pos (by omega)) h frm.rf (by decide) rfl))
theorem g_reading (hst : l.stackTraces = false) (hg : isG N sh) (h : hasG μ xs ys C S Z B) (ok : okA (mk xs ys C S Z B)) {w : Int} (hw : R32 w) : Fx G l N sh M_X7_reading [.ref (gB G + 0), vI w] μ (gLo eA1 (lkReading xs ys C S w) (mk xs ys C S Z B) μ) := by
  refine Fx.of hst rfl (by decide +kernel) (Nat.le_of_ble_eq_true rfl) rfl ?_
  obtain ⟨⟨⟨ok1, ok2, ok3, ok4⟩, ⟨ok5, ok6, ok7⟩, ok8⟩, ⟨ok9, ok10⟩, ok11, ok12⟩ := okA.un ok
  obtain ⟨h0, hv⟩ := id h
  obtain ⟨hP, hC, hS, hZ, hB, tx, ty, hT⟩ := id h0
  have okC : ∀ L ∈ C, bnd L 0 7 := fun L hL => (ok6 L hL).2
  have db := dsts_b ok3 ok4 (by omega : xs.length ≤ 41) ok8 ok6
  have rb := rsts_b (xs := xs) (ys := ys) (S := S) ok6
  have nb1 := nbut_b (dsts xs ys C S) (-1)
  have dl : (dsts xs ys C S).length = C.length := List.length_map _
  refine VW.iload_n dX7_reading_0 rfl ?_
  by_cases hsw : 0 ≤ w ∧ w ≤ 4
  · have hcs : w = 0 ∨ w = 1 ∨ w = 2 ∨ w = 3 ∨ w = 4 := by omega
    rcases hcs with hcv | hcv | hcv | hcv | hcv
    · refine VW.tswIn 36 ⟨by omega, by omega⟩ dX7_reading_1 (by omega) (by omega) (by rw [hcv]; rfl) (by decide) ?_
      refine VW.aload_n dX7_reading_36 rfl ?_
      refine VW.getR dX7_reading_37 fa_X7_35 (gLt hg) hg.2.1 rfl ?_
      refine VW.aload_n dX7_reading_40 rfl ?_
      refine VW.getR dX7_reading_41 fa_X7_10 (gLt hg) hg.2.1 rfl ?_
      refine VW.getR dX7_reading_44 fa_X7_209 (by have := hg.1; omega) (gSs hg) rfl ?_
      refine VW.pV1 cv_X7_reading_X6_readAs dX7_reading_47 (Nat.le_of_ble_eq_true rfl) (by have := hg.1; omega) (gVs hg) (v_readAs hst (gV hg) hv.2.2.2.2.2.1 db hv.1 (gSr hg) hS ok8) ?_
      refine VW.ireturn dX7_reading_50 rfl rfl ?_
      exact fxP.r (gLo_r ((if_neg (by omega)).trans (by subst hcv; rfl)) h frm.rf)
    · refine VW.tswIn 51 ⟨by omega, by omega⟩ dX7_reading_1 (by omega) (by omega) (by rw [hcv]; rfl) (by decide) ?_
      refine VW.aload_n dX7_reading_51 rfl ?_
      refine VW.getR dX7_reading_52 fa_X7_35 (gLt hg) hg.2.1 rfl ?_
      refine VW.iconst dX7_reading_55 ?_
      refine VW.pV1 cv_X7_reading_X6_nearestBut dX7_reading_56 (Nat.le_of_ble_eq_true rfl) (by have := hg.1; omega) (gVs hg) (v_nearestBut hst (gV hg) hv.2.2.2.2.2.1 db (by decide)) ?_
      refine VW.ireturn dX7_reading_59 rfl rfl ?_
      exact fxP.r (gLo_r ((if_neg (by omega)).trans (by subst hcv; rfl)) h frm.rf)
    · refine VW.tswIn 60 ⟨by omega, by omega⟩ dX7_reading_1 (by omega) (by omega) (by rw [hcv]; rfl) (by decide) ?_
      refine VW.aload_n dX7_reading_60 rfl ?_
      refine VW.getR dX7_reading_61 fa_X7_35 (gLt hg) hg.2.1 rfl ?_
      refine VW.getR dX7_reading_64 fa_X7_260 (by have := hg.1; omega) (gVs hg) rfl ?_
      refine VW.aload_n dX7_reading_67 rfl ?_
      refine VW.getR dX7_reading_68 fa_X7_35 (gLt hg) hg.2.1 rfl ?_
      refine VW.iconst dX7_reading_71 ?_
      refine VW.pV1 cv_X7_reading_X6_nearestBut dX7_reading_72 (Nat.le_of_ble_eq_true rfl) (by have := hg.1; omega) (gVs hg) (v_nearestBut hst (gV hg) hv.2.2.2.2.2.1 db (by decide)) ?_
      have nb1b : nbut (List.map (dstOf S (stk xs ys S)) C) (-1) = nbut (dsts xs ys C S) (-1) := rfl
      refine VW.pV1 cv_X7_reading_X4_at dX7_reading_75 (Nat.le_of_ble_eq_true rfl) (gV5 hg).1 (gV5 hg).2.1 (r_at hst (gV5 hg) hv.2.2.2.2.2.1 ⟨by omega, by omega⟩) ?_
      refine VW.ireturn dX7_reading_78 rfl rfl ?_
      exact fxP.r (gLo_r ((if_neg (by omega)).trans (by subst hcv; rfl)) h frm.rf)
    · refine VW.tswIn 79 ⟨by omega, by omega⟩ dX7_reading_1 (by omega) (by omega) (by rw [hcv]; rfl) (by decide) ?_
      refine VW.aload_n dX7_reading_79 rfl ?_
      refine VW.getR dX7_reading_80 fa_X7_35 (gLt hg) hg.2.1 rfl ?_
      refine VW.pV0 cv_X7_reading_X6_canBecome dX7_reading_83 (Nat.le_of_ble_eq_true rfl) (by have := hg.1; omega) (gVs hg) (v_canBecome hst (gV hg) hv.2.2.2.2.2.2 rb) ?_
      refine VW.ireturn dX7_reading_86 rfl rfl ?_
      exact fxP.r (gLo_r ((if_neg (by omega)).trans (by subst hcv; rfl)) h frm.rf)
    · refine VW.tswIn 87 ⟨by omega, by omega⟩ dX7_reading_1 (by omega) (by omega) (by rw [hcv]; rfl) (by decide) ?_
      refine VW.aload_n dX7_reading_87 rfl ?_
      refine VW.getR dX7_reading_88 fa_X7_35 (gLt hg) hg.2.1 rfl ?_
      refine VW.pV0 cv_X7_reading_X6_stillToCome dX7_reading_91 (Nat.le_of_ble_eq_true rfl) (by have := hg.1; omega) (gVs hg) (v_stillToCome hst (gV hg) hv.2.2.2.2.2.2 rb) ?_
      refine VW.ireturn dX7_reading_94 rfl rfl ?_
      exact fxP.r (gLo_r ((if_neg (by omega)).trans (by subst hcv; rfl)) h frm.rf)
  · refine VW.tswOut 95 ⟨by omega, by omega⟩ dX7_reading_1 (by omega) (by decide) ?_
    refine VW.throwSW (text := "what is not 0 to 4") hst xt_X7_66 (by decide +kernel) rfl (by decide) (by decide) dX7_reading_95 dX7_reading_98 dX7_reading_99 dX7_reading_102 dX7_reading_105 ?_
    exact fxP.x (gLo_x (if_pos (by omega)) h frm.rf (by decide) rfl)
theorem g_count (hst : l.stackTraces = false) (hg : isG N sh) (h : hasG μ xs ys C S Z B) (ok : okA (mk xs ys C S Z B)) {w : Int} (hw : R32 w) : Fx G l N sh M_X7_count [.ref (gB G + 0), vI w] μ (gLo eA1 (lkCount xs ys C S Z w) (mk xs ys C S Z B) μ) := by
  refine Fx.of hst rfl (by decide +kernel) (Nat.le_of_ble_eq_true rfl) rfl ?_
  obtain ⟨⟨⟨ok1, ok2, ok3, ok4⟩, ⟨ok5, ok6, ok7⟩, ok8⟩, ⟨ok9, ok10⟩, ok11, ok12⟩ := okA.un ok
  obtain ⟨h0, hv⟩ := id h
  obtain ⟨hP, hC, hS, hZ, hB, tx, ty, hT⟩ := id h0
  have okC : ∀ L ∈ C, bnd L 0 7 := fun L hL => (ok6 L hL).2
  have hv4 : μ 229 7 = (fgvOf xs ys S).2 := hv.2.2.2.2.1
  refine VW.iload_n dX7_count_0 rfl ?_
  by_cases hsw : 0 ≤ w ∧ w ≤ 8
  · have hcs : w = 0 ∨ w = 1 ∨ w = 2 ∨ w = 3 ∨ w = 4 ∨ w = 5 ∨ w = 6 ∨ w = 7 ∨ w = 8 := by omega
    rcases hcs with hcv | hcv | hcv | hcv | hcv | hcv | hcv | hcv | hcv
    · refine VW.tswIn 52 ⟨by omega, by omega⟩ dX7_count_1 (by omega) (by omega) (by rw [hcv]; rfl) (by decide) ?_
      refine VW.aload_n dX7_count_52 rfl ?_
      refine VW.getR dX7_count_53 fa_X7_10 (gLt hg) hg.2.1 rfl ?_
      refine VW.getR dX7_count_56 fa_X7_73 (by have := hg.1; omega) (gSs hg) rfl ?_
      refine VW.pV0 cv_X7_count_X3_held dX7_count_59 (Nat.le_of_ble_eq_true rfl) (gSp hg).1 (gSp hg).2.1 (p_held hst (gSp hg) hP) ?_
      refine VW.ireturn dX7_count_62 rfl rfl ?_
      exact fxP.r (gLo_r ((if_neg (by omega)).trans (by subst hcv; rfl)) h frm.rf)
    · refine VW.tswIn 63 ⟨by omega, by omega⟩ dX7_count_1 (by omega) (by omega) (by rw [hcv]; rfl) (by decide) ?_
      refine VW.aload_n dX7_count_63 rfl ?_
      refine VW.getR dX7_count_64 fa_X7_35 (gLt hg) hg.2.1 rfl ?_
      refine VW.getR dX7_count_67 fa_X7_245 (by have := hg.1; omega) (gVs hg) rfl ?_
      refine VW.pV0 cv_X7_count_X4_held dX7_count_70 (Nat.le_of_ble_eq_true rfl) (gV1 hg).1 (gV1 hg).2.1 (r_held hst (gV1 hg) hv.1) ?_
      refine VW.ireturn dX7_count_73 rfl rfl ?_
      exact fxP.r (gLo_r ((if_neg (by omega)).trans (by subst hcv; rfl)) h frm.rf)
    · refine VW.tswIn 74 ⟨by omega, by omega⟩ dX7_count_1 (by omega) (by omega) (by rw [hcv]; rfl) (by decide) ?_
      refine VW.aload_n dX7_count_74 rfl ?_
      refine VW.getR dX7_count_75 fa_X7_35 (gLt hg) hg.2.1 rfl ?_
      refine VW.getR dX7_count_78 fa_X7_147 (by have := hg.1; omega) (gVs hg) rfl ?_
      refine VW.pV0 cv_X7_count_X4_held dX7_count_81 (Nat.le_of_ble_eq_true rfl) (gV3 hg).1 (gV3 hg).2.1 (r_held hst (gV3 hg) hv.2.2.1) ?_
      refine VW.ireturn dX7_count_84 rfl rfl ?_
      exact fxP.r (gLo_r ((if_neg (by omega)).trans (by subst hcv; rfl)) h frm.rf)
    · refine VW.tswIn 85 ⟨by omega, by omega⟩ dX7_count_1 (by omega) (by omega) (by rw [hcv]; rfl) (by decide) ?_
      refine VW.aload_n dX7_count_85 rfl ?_
      refine VW.getR dX7_count_86 fa_X7_35 (gLt hg) hg.2.1 rfl ?_
      refine VW.getR dX7_count_89 fa_X7_248 (by have := hg.1; omega) (gVs hg) rfl ?_
      refine VW.pV0 cv_X7_count_X4_sum dX7_count_92 (Nat.le_of_ble_eq_true rfl) (gV22 hg).1 (gV22 hg).2.1 (r_sum hst (gV22 hg) hv.2.1) ?_
      refine VW.ireturn dX7_count_95 rfl rfl ?_
      exact fxP.r (gLo_r ((if_neg (by omega)).trans (by subst hcv; rfl)) h frm.rf)
    · refine VW.tswIn 96 ⟨by omega, by omega⟩ dX7_count_1 (by omega) (by omega) (by rw [hcv]; rfl) (by decide) ?_
      refine VW.aload_n dX7_count_96 rfl ?_
      refine VW.getR dX7_count_97 fa_X7_35 (gLt hg) hg.2.1 rfl ?_
      refine VW.getI dX7_count_100 fa_X7_287 (by have := hg.1; omega) (gVs hg) rfl ?_
      rw [hv4]
      refine VW.ireturn dX7_count_103 rfl rfl ?_
      exact fxP.r (gLo_r ((if_neg (by omega)).trans (by subst hcv; rfl)) h frm.rf)
    · refine VW.tswIn 104 ⟨by omega, by omega⟩ dX7_count_1 (by omega) (by omega) (by rw [hcv]; rfl) (by decide) ?_
      refine VW.aload_n dX7_count_104 rfl ?_
      refine VW.getR dX7_count_105 fa_X7_10 (gLt hg) hg.2.1 rfl ?_
      refine VW.getR dX7_count_108 fa_X7_151 (by have := hg.1; omega) (gSs hg) rfl ?_
      refine VW.pV0 cv_X7_count_X0_held dX7_count_111 (Nat.le_of_ble_eq_true rfl) (gSc hg).1 (gSc hg).2.1 (c_held hst (gSc hg) hC) ?_
      refine VW.ireturn dX7_count_114 rfl rfl ?_
      exact fxP.r (gLo_r ((if_neg (by omega)).trans (by subst hcv; rfl)) h frm.rf)
    · refine VW.tswIn 115 ⟨by omega, by omega⟩ dX7_count_1 (by omega) (by omega) (by rw [hcv]; rfl) (by decide) ?_
      refine VW.aload_n dX7_count_115 rfl ?_
      refine VW.getR dX7_count_116 fa_X7_10 (gLt hg) hg.2.1 rfl ?_
      refine VW.getR dX7_count_119 fa_X7_151 (by have := hg.1; omega) (gSs hg) rfl ?_
      refine VW.pV0 cv_X7_count_X0_allDirections dX7_count_122 (Nat.le_of_ble_eq_true rfl) (gSc hg).1 (gSc hg).2.1 (c_all hst (gSc hg) hC) ?_
      refine VW.ireturn dX7_count_125 rfl rfl ?_
      exact fxP.r (gLo_r ((if_neg (by omega)).trans (by subst hcv; rfl)) h frm.rf)
    · refine VW.tswIn 126 ⟨by omega, by omega⟩ dX7_count_1 (by omega) (by omega) (by rw [hcv]; rfl) (by decide) ?_
      refine VW.aload_n dX7_count_126 rfl ?_
      refine VW.aload_n dX7_count_127 rfl ?_
      refine VW.getR dX7_count_128 fa_X7_10 (gLt hg) hg.2.1 rfl ?_
      refine VW.getR dX7_count_131 fa_X7_209 (by have := hg.1; omega) (gSs hg) rfl ?_
      refine VW.fiV1 cv_X7_count_X7_leastApart dX7_count_134 (Nat.le_of_ble_eq_true rfl) (gLt hg) hg.2.1 (g_leastApart hst hg hC okC (gSr hg) hS ok8 (by omega)) (fun r1 μ1 h1 => ?_)
      obtain ⟨rfl, h1f⟩ := h1
      refine VW.ireturn dX7_count_137 rfl rfl ?_
      exact fxP.r (gLo_r ((if_neg (by omega)).trans (by subst hcv; rfl)) (h.keep h1f (by omega) (by omega)) (h1f.wid (by omega) (by omega)))
    · refine VW.tswIn 138 ⟨by omega, by omega⟩ dX7_count_1 (by omega) (by omega) (by rw [hcv]; rfl) (by decide) ?_
      refine VW.aload_n dX7_count_138 rfl ?_
      refine VW.getR dX7_count_139 fa_X7_19 (gLt hg) hg.2.1 rfl ?_
      refine VW.pV0 cv_X7_count_X1_held dX7_count_142 (Nat.le_of_ble_eq_true rfl) (gH hg).1 (gH hg).2.1 (h_held hst (gH hg) hZ) ?_
      refine VW.ireturn dX7_count_145 rfl rfl ?_
      exact fxP.r (gLo_r ((if_neg (by omega)).trans (by subst hcv; rfl)) h frm.rf)
  · refine VW.tswOut 146 ⟨by omega, by omega⟩ dX7_count_1 (by omega) (by decide) ?_
    refine VW.throwSW (text := "what is not 0 to 8") hst xt_X7_66 (by decide +kernel) rfl (by decide) (by decide) dX7_count_146 dX7_count_149 dX7_count_150 dX7_count_153 dX7_count_156 ?_
    exact fxP.x (gLo_x (if_pos (by omega)) h frm.rf (by decide) rfl)
theorem g_setting (hst : l.stackTraces = false) (hg : isG N sh) (h : hasG μ xs ys C S Z B) (ok : okA (mk xs ys C S Z B)) {s : Int} (hs : R32 s) : Fx G l N sh M_X7_setting [.ref (gB G + 0), vI s] μ (gLo eO1 (lkSetting S s) (mk xs ys C S Z B) μ) := by
  refine Fx.of hst rfl (by decide +kernel) (Nat.le_of_ble_eq_true rfl) rfl ?_
  obtain ⟨⟨⟨ok1, ok2, ok3, ok4⟩, ⟨ok5, ok6, ok7⟩, ok8⟩, ⟨ok9, ok10⟩, ok11, ok12⟩ := okA.un ok
  obtain ⟨h0, hv⟩ := id h
  obtain ⟨hP, hC, hS, hZ, hB, tx, ty, hT⟩ := id h0
  have okC : ∀ L ∈ C, bnd L 0 7 := fun L hL => (ok6 L hL).2
  refine VW.iload_n dX7_setting_0 rfl ?_
  refine VW.pS1 cs_X7_setting_X7_isSetting dX7_setting_1 (Nat.le_of_ble_eq_true rfl) (s_X7_isSetting hst hs) ?_
  refine VW.if_ne 17 (bR _) dX7_setting_4 (by decide) (fun c4 => ?_) (fun c4 => ?_)
  · refine VW.aload_n dX7_setting_17 rfl ?_
    refine VW.getR dX7_setting_18 fa_X7_10 (gLt hg) hg.2.1 rfl ?_
    refine VW.getR dX7_setting_21 fa_X7_209 (by have := hg.1; omega) (gSs hg) rfl ?_
    refine VW.iload_n dX7_setting_24 rfl ?_
    refine VW.pV1 cv_X7_setting_X4_at dX7_setting_25 (Nat.le_of_ble_eq_true rfl) (gSr hg).1 (gSr hg).2.1 (r_at hst (gSr hg) hS hs) ?_
    refine VW.ireturn dX7_setting_28 rfl rfl ?_
    exact fxP.r (gLo_r (if_neg (fun q => q (by simpa [bI0] using c4))) h frm.rf)
  · refine VW.throwS (text := "there is no such setting") hst xt_X7_188 (by decide +kernel) rfl (by decide) (by decide) dX7_setting_7 dX7_setting_10 dX7_setting_11 dX7_setting_13 dX7_setting_16 ?_
    exact fxP.x (gLo_x (if_pos (by have t := c4; simp [bI0] at t; omega)) h frm.rf (by decide) rfl)
theorem g_against (hst : l.stackTraces = false) (hg : isG N sh) (h : hasG μ xs ys C S Z B) (ok : okA (mk xs ys C S Z B)) : Zi G l N sh M_X7_against [.ref (gB G + 0)] μ (fun r μ' => r = agn xs ys C S ∧ μ' = μ) := by
  refine Fx.of hst rfl (by decide +kernel) (Nat.le_of_ble_eq_true rfl) rfl ?_
  obtain ⟨⟨⟨ok1, ok2, ok3, ok4⟩, ⟨ok5, ok6, ok7⟩, ok8⟩, ⟨ok9, ok10⟩, ok11, ok12⟩ := okA.un ok
  obtain ⟨h0, hv⟩ := id h
  obtain ⟨hP, hC, hS, hZ, hB, tx, ty, hT⟩ := id h0
  have okC : ∀ L ∈ C, bnd L 0 7 := fun L hL => (ok6 L hL).2
  have db := dsts_b ok3 ok4 (by omega : xs.length ≤ 41) ok8 ok6
  have rb := rsts_b (xs := xs) (ys := ys) (S := S) ok6
  have nb1 := nbut_b (dsts xs ys C S) (-1)
  have dl : (dsts xs ys C S).length = C.length := List.length_map _
  obtain ⟨hw5, hw0, hw1, hw2, hw3, hw4⟩ := id ok8
  refine VW.aload_n dX7_against_0 rfl ?_
  refine VW.getR dX7_against_1 fa_X7_35 (gLt hg) hg.2.1 rfl ?_
  refine VW.iconst dX7_against_4 ?_
  refine VW.pV1 cv_X7_against_X6_nearestBut dX7_against_5 (Nat.le_of_ble_eq_true rfl) (by have := hg.1; omega) (gVs hg) (v_nearestBut hst (gV hg) hv.2.2.2.2.2.1 db (by decide)) ?_
  have nb1b : nbut (List.map (dstOf S (stk xs ys S)) C) (-1) = nbut (dsts xs ys C S) (-1) := rfl
  rw [nb1b]
  refine VW.istore_n (lv' := [(0, _), (1, _)]) dX7_against_8 (by decide) rfl ?_
  refine VW.iload_n dX7_against_9 rfl ?_
  refine VW.iconst dX7_against_10 ?_
  refine VW.icmp_eq 41 ⟨by omega, by omega⟩ ⟨by omega, by omega⟩ dX7_against_11 (by decide) (fun c11 => ?_) (fun c11 => ?_)
  · refine VW.iconst dX7_against_41 ?_
    refine VW.ireturn dX7_against_42 rfl rfl ?_
    refine fxP.ii ⟨?_, rfl⟩
    unfold agn
    first
    | (rw [if_pos (by omega)]; done)
    | (rw [if_neg (by omega)]; done)
  · refine VW.aload_n dX7_against_14 rfl ?_
    refine VW.getR dX7_against_15 fa_X7_35 (gLt hg) hg.2.1 rfl ?_
    refine VW.getR dX7_against_18 fa_X7_260 (by have := hg.1; omega) (gVs hg) rfl ?_
    refine VW.iload_n dX7_against_21 rfl ?_
    refine VW.pV1 cv_X7_against_X4_at dX7_against_22 (Nat.le_of_ble_eq_true rfl) (gV5 hg).1 (gV5 hg).2.1 (r_at hst (gV5 hg) hv.2.2.2.2.2.1 ⟨by omega, by omega⟩) ?_
    have db2 : rat (List.map (dstOf S (stk xs ys S)) C) (nbut (dsts xs ys C S) (-1)) = rat (dsts xs ys C S) (nbut (dsts xs ys C S) (-1)) := rfl
    rw [db2]
    have db3 := rat_b1 db (i := nbut (dsts xs ys C S) (-1)) (by omega) (by omega)
    refine VW.iconst dX7_against_25 ?_
    refine VW.aload_n dX7_against_26 rfl ?_
    refine VW.getR dX7_against_27 fa_X7_10 (gLt hg) hg.2.1 rfl ?_
    refine VW.getR dX7_against_30 fa_X7_209 (by have := hg.1; omega) (gSs hg) rfl ?_
    refine VW.iconst dX7_against_33 ?_
    refine VW.pV1 cv_X7_against_X4_at dX7_against_34 (Nat.le_of_ble_eq_true rfl) (gSr hg).1 (gSr hg).2.1 (r_at hst (gSr hg) hS (by decide)) ?_
    refine VW.imul dX7_against_37 ?_
    refine VW.icmp_le 43 ⟨by omega, by omega⟩ ⟨by omega, by omega⟩ dX7_against_38 (by decide) (fun c38 => ?_) (fun c38 => ?_)
    · refine VW.iload_n dX7_against_43 rfl ?_
      refine VW.ireturn dX7_against_44 rfl rfl ?_
      refine fxP.ii ⟨?_, rfl⟩
      unfold agn
      first
      | (rw [if_pos (by omega)]; done)
      | (rw [if_neg (by omega)]; done)
    · refine VW.iconst dX7_against_41 ?_
      refine VW.ireturn dX7_against_42 rfl rfl ?_
      refine fxP.ii ⟨?_, rfl⟩
      unfold agn
      first
      | (rw [if_pos (by omega)]; done)
      | (rw [if_neg (by omega)]; done)
end PJ
