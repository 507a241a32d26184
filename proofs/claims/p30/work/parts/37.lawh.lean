/-! ===== the law's helpers: directions, runs, what is forgiven ===== -/
def isL (N : Nat) (sh : Nat → ShT) : Prop := (∀ i, i < 277 → i < N) ∧ sh 273 = sI 8 ∧ sh 274 = sI 41 ∧ sh 275 = sI 41 ∧ sh 276 = sI 64
def isT (N : Nat) (sh : Nat → ShT) (d : Nat) : Prop := (277 ≤ d ∧ d + 3 ≤ N) ∧ sh d = sI 40 ∧ sh (d + 1) = sI 40 ∧ sh (d + 2) = sI 2
def hasNS (μ : Mem) (S : List Int) : Prop := μ 273 3 = rat S 0 ∧ μ 273 4 = rat S 1 ∧ μ 273 5 = rat S 2 ∧ μ 273 6 = rat S 3 ∧ μ 273 7 = rat S 4
def hasR (μ : Mem) (d : Nat) (q : List Int × List Int) : Prop := μ (d + 2) 0 = (q.1.length : Int) ∧ q.2.length = q.1.length ∧ arr μ d q.1 ∧ arr μ (d + 1) q.2
section PLH
variable {G : GT} {l : Launch} {N : Nat} {sh : Nat → ShT} {μ μ' : Mem} {xs ys S D Ln : List Int} {C : List (List Int)} {d : Nat}
theorem hasR.mk {q : List Int × List Int} (h1 : μ (d + 2) 0 = (q.1.length : Int)) (h2 : q.2.length = q.1.length) (h3 : arr μ d q.1) (h4 : arr μ (d + 1) q.2) : hasR μ d q := ⟨h1, h2, h3, h4⟩
theorem hasNS.lo {n : Nat} (h : hasNS μ S) (f : lo n μ μ') (hn : 273 < n) : hasNS μ' S := by
  have e := f.at hn
  unfold hasNS
  rw [e]
  exact h
theorem hasNS.frm {a b : Nat} (h : hasNS μ S) (f : frm μ μ' a b) (hn : 273 < a) : hasNS μ' S := h.lo (f.lo (Nat.le_refl a)) hn
theorem R32.of {a : Int} (h : -1000000 ≤ a ∧ a ≤ 1000000) : R32 a := ⟨by omega, by omega⟩
theorem drc_pp {x y : Int} (hx : 0 < x) (hy : 0 < y) : dirF (sgn x) (sgn y) 8 0 = 1 := by
  rw [show sgn x = 1 from by unfold sgn; rw [if_neg (by omega), if_neg (by omega)], show sgn y = 1 from by unfold sgn; rw [if_neg (by omega), if_neg (by omega)]]
  decide
theorem sgn_p {x : Int} (h : 0 < x) : sgn x = 1 := by unfold sgn; rw [if_neg (by omega), if_neg (by omega)]
theorem sgn_z {x : Int} (h : x = 0) : sgn x = 0 := by unfold sgn; rw [if_neg (by omega), if_pos h]
theorem sgn_n {x : Int} (h : x < 0) : sgn x = -1 := by unfold sgn; rw [if_pos h]
theorem l_cell (hst : l.stackTraces = false) (hX : ∀ j, R32 (gXv G j)) (hn : gXn G ≤ 260) {i : Int} (hi : 0 ≤ i ∧ i ≤ 1000) : Zi G l N sh M_L_cell [.ref (gXb G), vI i] μ (fun r μ' => R32 r ∧ μ' = μ) := by
  refine Fx.of hst rfl (by decide +kernel) (Nat.le_of_ble_eq_true rfl) rfl ?_
  refine VW.iload_n dL_cell_0 rfl ?_
  refine VW.aload_n dL_cell_1 rfl ?_
  refine VW.slen dL_cell_2 ?_
  refine VW.icmp_ge 12 ⟨by omega, by omega⟩ ⟨by omega, by omega⟩ dL_cell_3 (by decide) (fun c3 => ?_) (fun c3 => ?_)
  · refine VW.ldc (a := 596516649) dL_cell_12 wd_221 ?_
    refine VW.iload_n dL_cell_14 rfl ?_
    refine VW.sipush dL_cell_15 rfl ?_
    refine VW.iadd dL_cell_18 ?_
    refine VW.imul dL_cell_19 ?_
    refine VW.ireturn dL_cell_20 rfl rfl ?_
    first
    | exact fxP.ii ⟨hX _, rfl⟩
    | (rw [← vI_w]
       exact fxP.ii ⟨w32_R _, rfl⟩)
  · refine VW.aload_n dL_cell_6 rfl ?_
    refine VW.iload_n dL_cell_7 rfl ?_
    refine VW.sload dL_cell_8 (by omega) (by omega) (by omega) ?_
    refine VW.goto 20 dL_cell_9 (by decide) ?_
    refine VW.ireturn dL_cell_20 rfl rfl ?_
    first
    | exact fxP.ii ⟨hX _, rfl⟩
    | (rw [← vI_w]
       exact fxP.ii ⟨w32_R _, rfl⟩)
theorem l_at (hst : l.stackTraces = false) {x m : Int} (hm : 0 < m ∧ m ≤ 1000) : Zi G l N sh M_L_at [vI x, vI m] μ (fun r μ' => (0 ≤ r ∧ r < m) ∧ μ' = μ) := by
  refine Fx.of hst rfl (by decide +kernel) (Nat.le_of_ble_eq_true rfl) rfl ?_
  refine VW.iload_n dL_at_0 rfl ?_
  refine VW.iconst dL_at_1 ?_
  refine VW.iushrX dL_at_2 (fun x2 hx2 => ?_)
  refine VW.iload_n dL_at_3 rfl ?_
  refine VW.irem (x := x2 % m) dL_at_4 (i32_ne0 ⟨by omega, by omega⟩) (i32_rem ⟨by omega, by omega⟩ ⟨by omega, by omega⟩) ?_
  refine VW.ireturn dL_at_5 rfl rfl ?_
  exact fxP.ii ⟨⟨Int.emod_nonneg _ (by omega), Int.emod_lt_of_pos _ (by omega)⟩, rfl⟩
theorem l_size (hst : l.stackTraces = false) {v : Int} (hv : R32 v) : Zi G l N sh M_L_size [vI v] μ (fun r μ' => r = iabs v ∧ μ' = μ) := by
  refine Fx.of hst rfl (by decide +kernel) (Nat.le_of_ble_eq_true rfl) rfl ?_
  refine VW.iload_n dL_size_0 rfl ?_
  refine VW.if_ge 9 ⟨by omega, by omega⟩ dL_size_1 (by decide) (fun c1 => ?_) (fun c1 => ?_)
  · refine VW.iload_n dL_size_9 rfl ?_
    refine VW.ireturn dL_size_10 rfl rfl ?_
    refine fxP.ii ⟨?_, rfl⟩
    unfold iabs
    first | (rw [if_pos (by omega)]; done) | (rw [if_neg (by omega)]; done)
  · refine VW.iload_n dL_size_4 rfl ?_
    refine VW.ineg dL_size_5 ?_
    refine VW.goto 10 dL_size_6 (by decide) ?_
    refine VW.ireturn dL_size_10 rfl rfl ?_
    refine fxP.ii ⟨?_, rfl⟩
    unfold iabs
    first | (rw [if_pos (by omega)]; done) | (rw [if_neg (by omega)]; done)
theorem l_direction (hst : l.stackTraces = false) {x y : Int} (hx : R32 x) (hy : R32 y) : Zi G l N sh M_L_direction [vI x, vI y] μ (fun r μ' => r = dirF (sgn x) (sgn y) 8 0 ∧ μ' = μ) := by
  refine Fx.of hst rfl (by decide +kernel) (Nat.le_of_ble_eq_true rfl) rfl ?_
  refine VW.iload_n dL_direction_0 rfl ?_
  refine VW.if_le 23 ⟨by omega, by omega⟩ dL_direction_1 (by decide) (fun c1 => ?_) (fun c1 => ?_)
  · refine VW.iload_n dL_direction_23 rfl ?_
    refine VW.if_ge 45 ⟨by omega, by omega⟩ dL_direction_24 (by decide) (fun c24 => ?_) (fun c24 => ?_)
    · refine VW.iload_n dL_direction_45 rfl ?_
      refine VW.if_le 53 ⟨by omega, by omega⟩ dL_direction_46 (by decide) (fun c46 => ?_) (fun c46 => ?_)
      · refine VW.iload_n dL_direction_53 rfl ?_
        refine VW.if_ne 61 ⟨by omega, by omega⟩ dL_direction_54 (by decide) (fun c54 => ?_) (fun c54 => ?_)
        · refine VW.bipush dL_direction_61 rfl ?_
          refine VW.ireturn dL_direction_63 rfl rfl ?_
          refine fxP.ii ⟨?_, rfl⟩
          rcases (by omega : x < 0 ∨ x = 0 ∨ 0 < x) with hx | hx | hx <;> rcases (by omega : y < 0 ∨ y = 0 ∨ 0 < y) with hy | hy | hy <;> first | (exfalso; omega; done) | (simp only [sgn_p hx, sgn_p hy]; decide) | (simp only [sgn_p hx, sgn_z hy]; decide) | (simp only [sgn_p hx, sgn_n hy]; decide) | (simp only [sgn_n hx, sgn_p hy]; decide) | (simp only [sgn_n hx, sgn_z hy]; decide) | (simp only [sgn_n hx, sgn_n hy]; decide) | (simp only [sgn_z hx, sgn_p hy]; decide) | (simp only [sgn_z hx, sgn_z hy]; decide) | (simp only [sgn_z hx, sgn_n hy]; decide)
        · refine VW.iconst dL_direction_57 ?_
          refine VW.goto 63 dL_direction_58 (by decide) ?_
          refine VW.ireturn dL_direction_63 rfl rfl ?_
          refine fxP.ii ⟨?_, rfl⟩
          rcases (by omega : x < 0 ∨ x = 0 ∨ 0 < x) with hx | hx | hx <;> rcases (by omega : y < 0 ∨ y = 0 ∨ 0 < y) with hy | hy | hy <;> first | (exfalso; omega; done) | (simp only [sgn_p hx, sgn_p hy]; decide) | (simp only [sgn_p hx, sgn_z hy]; decide) | (simp only [sgn_p hx, sgn_n hy]; decide) | (simp only [sgn_n hx, sgn_p hy]; decide) | (simp only [sgn_n hx, sgn_z hy]; decide) | (simp only [sgn_n hx, sgn_n hy]; decide) | (simp only [sgn_z hx, sgn_p hy]; decide) | (simp only [sgn_z hx, sgn_z hy]; decide) | (simp only [sgn_z hx, sgn_n hy]; decide)
      · refine VW.iconst dL_direction_49 ?_
        refine VW.goto 63 dL_direction_50 (by decide) ?_
        refine VW.ireturn dL_direction_63 rfl rfl ?_
        refine fxP.ii ⟨?_, rfl⟩
        rcases (by omega : x < 0 ∨ x = 0 ∨ 0 < x) with hx | hx | hx <;> rcases (by omega : y < 0 ∨ y = 0 ∨ 0 < y) with hy | hy | hy <;> first | (exfalso; omega; done) | (simp only [sgn_p hx, sgn_p hy]; decide) | (simp only [sgn_p hx, sgn_z hy]; decide) | (simp only [sgn_p hx, sgn_n hy]; decide) | (simp only [sgn_n hx, sgn_p hy]; decide) | (simp only [sgn_n hx, sgn_z hy]; decide) | (simp only [sgn_n hx, sgn_n hy]; decide) | (simp only [sgn_z hx, sgn_p hy]; decide) | (simp only [sgn_z hx, sgn_z hy]; decide) | (simp only [sgn_z hx, sgn_n hy]; decide)
    · refine VW.iload_n dL_direction_27 rfl ?_
      refine VW.if_le 35 ⟨by omega, by omega⟩ dL_direction_28 (by decide) (fun c28 => ?_) (fun c28 => ?_)
      · refine VW.iload_n dL_direction_35 rfl ?_
        refine VW.if_ne 43 ⟨by omega, by omega⟩ dL_direction_36 (by decide) (fun c36 => ?_) (fun c36 => ?_)
        · refine VW.iconst dL_direction_43 ?_
          refine VW.ireturn dL_direction_44 rfl rfl ?_
          refine fxP.ii ⟨?_, rfl⟩
          rcases (by omega : x < 0 ∨ x = 0 ∨ 0 < x) with hx | hx | hx <;> rcases (by omega : y < 0 ∨ y = 0 ∨ 0 < y) with hy | hy | hy <;> first | (exfalso; omega; done) | (simp only [sgn_p hx, sgn_p hy]; decide) | (simp only [sgn_p hx, sgn_z hy]; decide) | (simp only [sgn_p hx, sgn_n hy]; decide) | (simp only [sgn_n hx, sgn_p hy]; decide) | (simp only [sgn_n hx, sgn_z hy]; decide) | (simp only [sgn_n hx, sgn_n hy]; decide) | (simp only [sgn_z hx, sgn_p hy]; decide) | (simp only [sgn_z hx, sgn_z hy]; decide) | (simp only [sgn_z hx, sgn_n hy]; decide)
        · refine VW.iconst dL_direction_39 ?_
          refine VW.goto 44 dL_direction_40 (by decide) ?_
          refine VW.ireturn dL_direction_44 rfl rfl ?_
          refine fxP.ii ⟨?_, rfl⟩
          rcases (by omega : x < 0 ∨ x = 0 ∨ 0 < x) with hx | hx | hx <;> rcases (by omega : y < 0 ∨ y = 0 ∨ 0 < y) with hy | hy | hy <;> first | (exfalso; omega; done) | (simp only [sgn_p hx, sgn_p hy]; decide) | (simp only [sgn_p hx, sgn_z hy]; decide) | (simp only [sgn_p hx, sgn_n hy]; decide) | (simp only [sgn_n hx, sgn_p hy]; decide) | (simp only [sgn_n hx, sgn_z hy]; decide) | (simp only [sgn_n hx, sgn_n hy]; decide) | (simp only [sgn_z hx, sgn_p hy]; decide) | (simp only [sgn_z hx, sgn_z hy]; decide) | (simp only [sgn_z hx, sgn_n hy]; decide)
      · refine VW.iconst dL_direction_31 ?_
        refine VW.goto 44 dL_direction_32 (by decide) ?_
        refine VW.ireturn dL_direction_44 rfl rfl ?_
        refine fxP.ii ⟨?_, rfl⟩
        rcases (by omega : x < 0 ∨ x = 0 ∨ 0 < x) with hx | hx | hx <;> rcases (by omega : y < 0 ∨ y = 0 ∨ 0 < y) with hy | hy | hy <;> first | (exfalso; omega; done) | (simp only [sgn_p hx, sgn_p hy]; decide) | (simp only [sgn_p hx, sgn_z hy]; decide) | (simp only [sgn_p hx, sgn_n hy]; decide) | (simp only [sgn_n hx, sgn_p hy]; decide) | (simp only [sgn_n hx, sgn_z hy]; decide) | (simp only [sgn_n hx, sgn_n hy]; decide) | (simp only [sgn_z hx, sgn_p hy]; decide) | (simp only [sgn_z hx, sgn_z hy]; decide) | (simp only [sgn_z hx, sgn_n hy]; decide)
  · refine VW.iload_n dL_direction_4 rfl ?_
    refine VW.if_le 12 ⟨by omega, by omega⟩ dL_direction_5 (by decide) (fun c5 => ?_) (fun c5 => ?_)
    · refine VW.iload_n dL_direction_12 rfl ?_
      refine VW.if_ne 20 ⟨by omega, by omega⟩ dL_direction_13 (by decide) (fun c13 => ?_) (fun c13 => ?_)
      · refine VW.bipush dL_direction_20 rfl ?_
        refine VW.ireturn dL_direction_22 rfl rfl ?_
        refine fxP.ii ⟨?_, rfl⟩
        rcases (by omega : x < 0 ∨ x = 0 ∨ 0 < x) with hx | hx | hx <;> rcases (by omega : y < 0 ∨ y = 0 ∨ 0 < y) with hy | hy | hy <;> first | (exfalso; omega; done) | (simp only [sgn_p hx, sgn_p hy]; decide) | (simp only [sgn_p hx, sgn_z hy]; decide) | (simp only [sgn_p hx, sgn_n hy]; decide) | (simp only [sgn_n hx, sgn_p hy]; decide) | (simp only [sgn_n hx, sgn_z hy]; decide) | (simp only [sgn_n hx, sgn_n hy]; decide) | (simp only [sgn_z hx, sgn_p hy]; decide) | (simp only [sgn_z hx, sgn_z hy]; decide) | (simp only [sgn_z hx, sgn_n hy]; decide)
      · refine VW.iconst dL_direction_16 ?_
        refine VW.goto 22 dL_direction_17 (by decide) ?_
        refine VW.ireturn dL_direction_22 rfl rfl ?_
        refine fxP.ii ⟨?_, rfl⟩
        rcases (by omega : x < 0 ∨ x = 0 ∨ 0 < x) with hx | hx | hx <;> rcases (by omega : y < 0 ∨ y = 0 ∨ 0 < y) with hy | hy | hy <;> first | (exfalso; omega; done) | (simp only [sgn_p hx, sgn_p hy]; decide) | (simp only [sgn_p hx, sgn_z hy]; decide) | (simp only [sgn_p hx, sgn_n hy]; decide) | (simp only [sgn_n hx, sgn_p hy]; decide) | (simp only [sgn_n hx, sgn_z hy]; decide) | (simp only [sgn_n hx, sgn_n hy]; decide) | (simp only [sgn_z hx, sgn_p hy]; decide) | (simp only [sgn_z hx, sgn_z hy]; decide) | (simp only [sgn_z hx, sgn_n hy]; decide)
    · refine VW.iconst dL_direction_8 ?_
      refine VW.goto 22 dL_direction_9 (by decide) ?_
      refine VW.ireturn dL_direction_22 rfl rfl ?_
      refine fxP.ii ⟨?_, rfl⟩
      rcases (by omega : x < 0 ∨ x = 0 ∨ 0 < x) with hx | hx | hx <;> rcases (by omega : y < 0 ∨ y = 0 ∨ 0 < y) with hy | hy | hy <;> first | (exfalso; omega; done) | (simp only [sgn_p hx, sgn_p hy]; decide) | (simp only [sgn_p hx, sgn_z hy]; decide) | (simp only [sgn_p hx, sgn_n hy]; decide) | (simp only [sgn_n hx, sgn_p hy]; decide) | (simp only [sgn_n hx, sgn_z hy]; decide) | (simp only [sgn_n hx, sgn_n hy]; decide) | (simp only [sgn_z hx, sgn_p hy]; decide) | (simp only [sgn_z hx, sgn_z hy]; decide) | (simp only [sgn_z hx, sgn_n hy]; decide)
theorem l_across (hst : l.stackTraces = false) {c : Int} (hc : 0 ≤ c ∧ c < 8) : Zi G l N sh M_L_across [vI c] μ (fun r μ' => r = tbo 3 c ∧ μ' = μ) := by
  refine Fx.of hst rfl (by decide +kernel) (Nat.le_of_ble_eq_true rfl) rfl ?_
  refine VW.iload_n dL_across_0 rfl ?_
  refine VW.iconst dL_across_1 ?_
  refine VW.icmp_eq 11 ⟨by omega, by omega⟩ ⟨by omega, by omega⟩ dL_across_2 (by decide) (fun c2 => ?_) (fun c2 => ?_)
  · refine VW.iconst dL_across_11 ?_
    refine VW.goto 31 dL_across_12 (by decide) ?_
    refine VW.ireturn dL_across_31 rfl rfl ?_
    refine fxP.ii ⟨?_, rfl⟩
    rcases (by omega : c = 0 ∨ c = 1 ∨ c = 2 ∨ c = 3 ∨ c = 4 ∨ c = 5 ∨ c = 6 ∨ c = 7) with rfl | rfl | rfl | rfl | rfl | rfl | rfl | rfl <;> first | decide | (exfalso; omega; done)
  · refine VW.iload_n dL_across_5 rfl ?_
    refine VW.bipush dL_across_6 rfl ?_
    refine VW.icmp_ne 15 ⟨by omega, by omega⟩ ⟨by omega, by omega⟩ dL_across_8 (by decide) (fun c8 => ?_) (fun c8 => ?_)
    · refine VW.iload_n dL_across_15 rfl ?_
      refine VW.iconst dL_across_16 ?_
      refine VW.icmp_le 30 ⟨by omega, by omega⟩ ⟨by omega, by omega⟩ dL_across_17 (by decide) (fun c17 => ?_) (fun c17 => ?_)
      · refine VW.iconst dL_across_30 ?_
        refine VW.ireturn dL_across_31 rfl rfl ?_
        refine fxP.ii ⟨?_, rfl⟩
        rcases (by omega : c = 0 ∨ c = 1 ∨ c = 2 ∨ c = 3 ∨ c = 4 ∨ c = 5 ∨ c = 6 ∨ c = 7) with rfl | rfl | rfl | rfl | rfl | rfl | rfl | rfl <;> first | decide | (exfalso; omega; done)
      · refine VW.iload_n dL_across_20 rfl ?_
        refine VW.bipush dL_across_21 rfl ?_
        refine VW.icmp_ge 30 ⟨by omega, by omega⟩ ⟨by omega, by omega⟩ dL_across_23 (by decide) (fun c23 => ?_) (fun c23 => ?_)
        · refine VW.iconst dL_across_30 ?_
          refine VW.ireturn dL_across_31 rfl rfl ?_
          refine fxP.ii ⟨?_, rfl⟩
          rcases (by omega : c = 0 ∨ c = 1 ∨ c = 2 ∨ c = 3 ∨ c = 4 ∨ c = 5 ∨ c = 6 ∨ c = 7) with rfl | rfl | rfl | rfl | rfl | rfl | rfl | rfl <;> first | decide | (exfalso; omega; done)
        · refine VW.iconst dL_across_26 ?_
          refine VW.goto 31 dL_across_27 (by decide) ?_
          refine VW.ireturn dL_across_31 rfl rfl ?_
          refine fxP.ii ⟨?_, rfl⟩
          rcases (by omega : c = 0 ∨ c = 1 ∨ c = 2 ∨ c = 3 ∨ c = 4 ∨ c = 5 ∨ c = 6 ∨ c = 7) with rfl | rfl | rfl | rfl | rfl | rfl | rfl | rfl <;> first | decide | (exfalso; omega; done)
    · refine VW.iconst dL_across_11 ?_
      refine VW.goto 31 dL_across_12 (by decide) ?_
      refine VW.ireturn dL_across_31 rfl rfl ?_
      refine fxP.ii ⟨?_, rfl⟩
      rcases (by omega : c = 0 ∨ c = 1 ∨ c = 2 ∨ c = 3 ∨ c = 4 ∨ c = 5 ∨ c = 6 ∨ c = 7) with rfl | rfl | rfl | rfl | rfl | rfl | rfl | rfl <;> first | decide | (exfalso; omega; done)
theorem l_down (hst : l.stackTraces = false) {c : Int} (hc : 0 ≤ c ∧ c < 8) : Zi G l N sh M_L_down [vI c] μ (fun r μ' => r = tbo 4 c ∧ μ' = μ) := by
  refine Fx.of hst rfl (by decide +kernel) (Nat.le_of_ble_eq_true rfl) rfl ?_
  refine VW.iload_n dL_down_0 rfl ?_
  refine VW.if_eq 9 ⟨by omega, by omega⟩ dL_down_1 (by decide) (fun c1 => ?_) (fun c1 => ?_)
  · refine VW.iconst dL_down_9 ?_
    refine VW.goto 23 dL_down_10 (by decide) ?_
    refine VW.ireturn dL_down_23 rfl rfl ?_
    refine fxP.ii ⟨?_, rfl⟩
    rcases (by omega : c = 0 ∨ c = 1 ∨ c = 2 ∨ c = 3 ∨ c = 4 ∨ c = 5 ∨ c = 6 ∨ c = 7) with rfl | rfl | rfl | rfl | rfl | rfl | rfl | rfl <;> first | decide | (exfalso; omega; done)
  · refine VW.iload_n dL_down_4 rfl ?_
    refine VW.iconst dL_down_5 ?_
    refine VW.icmp_ne 13 ⟨by omega, by omega⟩ ⟨by omega, by omega⟩ dL_down_6 (by decide) (fun c6 => ?_) (fun c6 => ?_)
    · refine VW.iload_n dL_down_13 rfl ?_
      refine VW.iconst dL_down_14 ?_
      refine VW.icmp_ge 22 ⟨by omega, by omega⟩ ⟨by omega, by omega⟩ dL_down_15 (by decide) (fun c15 => ?_) (fun c15 => ?_)
      · refine VW.iconst dL_down_22 ?_
        refine VW.ireturn dL_down_23 rfl rfl ?_
        refine fxP.ii ⟨?_, rfl⟩
        rcases (by omega : c = 0 ∨ c = 1 ∨ c = 2 ∨ c = 3 ∨ c = 4 ∨ c = 5 ∨ c = 6 ∨ c = 7) with rfl | rfl | rfl | rfl | rfl | rfl | rfl | rfl <;> first | decide | (exfalso; omega; done)
      · refine VW.iconst dL_down_18 ?_
        refine VW.goto 23 dL_down_19 (by decide) ?_
        refine VW.ireturn dL_down_23 rfl rfl ?_
        refine fxP.ii ⟨?_, rfl⟩
        rcases (by omega : c = 0 ∨ c = 1 ∨ c = 2 ∨ c = 3 ∨ c = 4 ∨ c = 5 ∨ c = 6 ∨ c = 7) with rfl | rfl | rfl | rfl | rfl | rfl | rfl | rfl <;> first | decide | (exfalso; omega; done)
    · refine VW.iconst dL_down_9 ?_
      refine VW.goto 23 dL_down_10 (by decide) ?_
      refine VW.ireturn dL_down_23 rfl rfl ?_
      refine fxP.ii ⟨?_, rfl⟩
      rcases (by omega : c = 0 ∨ c = 1 ∨ c = 2 ∨ c = 3 ∨ c = 4 ∨ c = 5 ∨ c = 6 ∨ c = 7) with rfl | rfl | rfl | rfl | rfl | rfl | rfl | rfl <;> first | decide | (exfalso; omega; done)
theorem l_apart (hst : l.stackTraces = false) {a b : Int} (ha : 0 ≤ a ∧ a ≤ 7) (hb : 0 ≤ b ∧ b ≤ 7) : Zi G l N sh M_L_apart [vI a, vI b] μ (fun r μ' => r = eig a b ∧ μ' = μ) := by
  refine Fx.of hst rfl (by decide +kernel) (Nat.le_of_ble_eq_true rfl) rfl ?_
  refine VW.iload_n dL_apart_0 rfl ?_
  refine VW.iload_n dL_apart_1 rfl ?_
  refine VW.isub dL_apart_2 ?_
  refine VW.pS1 cs_L_apart_L_size dL_apart_3 (Nat.le_of_ble_eq_true rfl) (l_size hst ⟨by omega, by omega⟩) ?_
  refine VW.istore_n (lv' := [(0, _), (1, _), (2, _)]) dL_apart_6 (by decide) rfl ?_
  refine VW.iload_n dL_apart_7 rfl ?_
  refine VW.iconst dL_apart_8 ?_
  refine VW.icmp_le 19 ⟨by unfold iabs; split <;> omega, by unfold iabs; split <;> omega⟩ ⟨by omega, by omega⟩ dL_apart_9 (by decide) (fun c9 => ?_) (fun c9 => ?_)
  · refine VW.iload_n dL_apart_19 rfl ?_
    refine VW.ireturn dL_apart_20 rfl rfl ?_
    refine fxP.ii ⟨?_, rfl⟩
    unfold iabs at *
    unfold eig
    split <;> split <;> omega
  · refine VW.bipush dL_apart_12 rfl ?_
    refine VW.iload_n dL_apart_14 rfl ?_
    refine VW.isub dL_apart_15 ?_
    refine VW.goto 20 dL_apart_16 (by decide) ?_
    refine VW.ireturn dL_apart_20 rfl rfl ?_
    refine fxP.ii ⟨?_, rfl⟩
    unfold iabs at *
    unfold eig
    split <;> split <;> omega
theorem lr_tail (hst : l.stackTraces = false) (hl : isL N sh) (ht : isT N sh d) {q : List Int × List Int} {Φ : RT → Prop} {i dir : Int} (hi : 1 ≤ i ∧ i ≤ 41) (b1 : -31 ≤ dif xs i ∧ dif xs i ≤ 31) (b2 : -31 ≤ dif ys i ∧ dif ys i ≤ 31) {μ2 : Mem} (hf : frm μ μ2 d (d + 3)) (hq : hasR μ2 d q) (hq0 : 0 < q.1.length ∧ q.1.length ≤ 40)
    (kk : ∀ μ3 : Mem, hasR μ3 d (q.1, q.2.set ((q.1.length : Int) - 1).toNat (rat q.2 ((q.1.length : Int) - 1) + sLen xs ys i)) → frm μ μ3 d (d + 3) → VW G l none M_L_runs 8 [(0, vI (xs.length : Int)), (1, .ref (gB G + 274)), (2, .ref (gB G + 275)), (3, .ref (gB G + d)), (4, .ref (gB G + (d + 1))), (5, .ref (gB G + (d + 2))), (6, vI (i + 1))] [] (N, sh, μ3) 0 0 Φ) : VW G l none M_L_runs 98 [(0, vI (xs.length : Int)), (1, .ref (gB G + 274)), (2, .ref (gB G + 275)), (3, .ref (gB G + d)), (4, .ref (gB G + (d + 1))), (5, .ref (gB G + (d + 2))), (6, vI (i)), (7, vI (dif xs i)), (8, vI (dif ys i)), (9, vI dir)] [] (N, sh, μ2) 0 0 Φ := by
  have hd1 := ht.1.1
  have hd2 := ht.1.2
  have q0 : μ2 (d + 2) (0 : Int).toNat = (q.1.length : Int) := hq.1
  have a3 := hq.2.2.2 ((q.1.length : Int) - 1) ⟨by omega, by have := hq.2.1; omega⟩
  have hq2 := hq.2.1
  have ib1 := iabs_b (z := dif xs i) (hi := 31) b1
  have ib2 := iabs_b (z := dif ys i) (hi := 31) b2
  refine VW.aload dL_runs_98 rfl ?_
  refine VW.aload dL_runs_100 rfl ?_
  refine VW.iconst dL_runs_102 ?_
  refine VW.iaload dL_runs_103 (by have := ht.1.2; omega) ht.2.2.2 (by omega) (by omega) (by decide) ?_
  rw [q0]
  refine VW.iconst dL_runs_104 ?_
  refine VW.isub dL_runs_105 ?_
  refine VW.dup2 dL_runs_106 rfl rfl ?_
  refine VW.iaload dL_runs_107 (by have := ht.1.2; omega) ht.2.2.1 (by omega) (by omega) (by decide) ?_
  rw [a3]
  refine VW.iload dL_runs_108 rfl ?_
  refine VW.pS1 cs_L_runs_L_size dL_runs_110 (Nat.le_of_ble_eq_true rfl) (l_size hst ⟨by omega, by omega⟩) ?_
  refine VW.iload dL_runs_113 rfl ?_
  refine VW.pS1 cs_L_runs_L_size dL_runs_115 (Nat.le_of_ble_eq_true rfl) (l_size hst ⟨by omega, by omega⟩) ?_
  refine VW.icmp_le 129 ⟨by omega, by omega⟩ ⟨by omega, by omega⟩ dL_runs_118 (by decide) (fun c118 => ?_) (fun c118 => ?_)
  · refine VW.iload dL_runs_129 rfl ?_
    refine VW.pS1 cs_L_runs_L_size dL_runs_131 (Nat.le_of_ble_eq_true rfl) (l_size hst ⟨by omega, by omega⟩) ?_
    refine VW.iadd dL_runs_134 ?_
    refine VW.iastore dL_runs_135 (by have := ht.1.2; omega) ht.2.2.1 (by omega) (by omega) (by decide) ?_
    refine VW.iinc (lv' := [(0, _), (1, _), (2, _), (3, _), (4, _), (5, _), (6, _), (7, _), (8, _), (9, _)]) dL_runs_136 rfl (by decide) rfl ?_
    refine VW.goto 8 dL_runs_139 (by decide) ?_
    refine VW.sub ?_ [0, 1, 2, 3, 4, 5, 6] rfl
    first
    | (have e : iabs (dif xs i) = sLen xs ys i := by
         unfold sLen; omega
       rw [e]
       exact kk _ ⟨by rw [mup_n (by omega)]; exact hq.1, (List.length_set).trans hq.2.1, hq.2.2.1.same (mup_n (by omega)), hq.2.2.2.set ⟨by omega, by omega⟩⟩ (hf.tr (frm_mup ⟨by omega, by omega⟩)))
    | (have e : iabs (dif ys i) = sLen xs ys i := by
         unfold sLen; omega
       rw [e]
       exact kk _ ⟨by rw [mup_n (by omega)]; exact hq.1, (List.length_set).trans hq.2.1, hq.2.2.1.same (mup_n (by omega)), hq.2.2.2.set ⟨by omega, by omega⟩⟩ (hf.tr (frm_mup ⟨by omega, by omega⟩)))
  · refine VW.iload dL_runs_121 rfl ?_
    refine VW.pS1 cs_L_runs_L_size dL_runs_123 (Nat.le_of_ble_eq_true rfl) (l_size hst ⟨by omega, by omega⟩) ?_
    refine VW.goto 134 dL_runs_126 (by decide) ?_
    refine VW.iadd dL_runs_134 ?_
    refine VW.iastore dL_runs_135 (by have := ht.1.2; omega) ht.2.2.1 (by omega) (by omega) (by decide) ?_
    refine VW.iinc (lv' := [(0, _), (1, _), (2, _), (3, _), (4, _), (5, _), (6, _), (7, _), (8, _), (9, _)]) dL_runs_136 rfl (by decide) rfl ?_
    refine VW.goto 8 dL_runs_139 (by decide) ?_
    refine VW.sub ?_ [0, 1, 2, 3, 4, 5, 6] rfl
    first
    | (have e : iabs (dif xs i) = sLen xs ys i := by
         unfold sLen; omega
       rw [e]
       exact kk _ ⟨by rw [mup_n (by omega)]; exact hq.1, (List.length_set).trans hq.2.1, hq.2.2.1.same (mup_n (by omega)), hq.2.2.2.set ⟨by omega, by omega⟩⟩ (hf.tr (frm_mup ⟨by omega, by omega⟩)))
    | (have e : iabs (dif ys i) = sLen xs ys i := by
         unfold sLen; omega
       rw [e]
       exact kk _ ⟨by rw [mup_n (by omega)]; exact hq.1, (List.length_set).trans hq.2.1, hq.2.2.1.same (mup_n (by omega)), hq.2.2.2.set ⟨by omega, by omega⟩⟩ (hf.tr (frm_mup ⟨by omega, by omega⟩)))
theorem lp_L_runs (hst : l.stackTraces = false) (hl : isL N sh) (ht : isT N sh d) (hx : arr μ 274 xs) (hy : arr μ 275 ys) (hlen : ys.length = xs.length ∧ xs.length ≤ 40) (bx : bnd xs 0 31) (by9 : bnd ys 0 31) : ∀ (n : Nat) (i : Int), 1 ≤ i → (i + n = xs.length ∨ (n = 0 ∧ i = 1 ∧ xs.length = 0)) → ∀ μ2 : Mem, hasR μ2 d (rq xs ys i) → frm μ μ2 d (d + 3) → VW G l none M_L_runs 8 [(0, vI (xs.length : Int)), (1, .ref (gB G + 274)), (2, .ref (gB G + 275)), (3, .ref (gB G + d)), (4, .ref (gB G + (d + 1))), (5, .ref (gB G + (d + 2))), (6, vI (i))] [] (N, sh, μ2) 0 0 (fxP N sh (oN (vN_v (fun μ' => hasR μ' d (rnD xs ys, rnL xs ys) ∧ frm μ μ' d (d + 3))))) := by
  have hd1 := ht.1.1
  have hd2 := ht.1.2
  intro n
  induction n with
  | zero =>
    intro i h1 h2 μ2 hq hf
    refine VW.iload dL_runs_8 rfl ?_
    refine VW.iload_n dL_runs_10 rfl ?_
    refine VW.icmp_ge 142 ⟨by omega, by omega⟩ ⟨by omega, by omega⟩ dL_runs_11 (by decide) (fun c11 => ?_) (fun c11 => by omega)
    refine VW.vreturn dL_runs_142 rfl ?_
    refine fxP.vv ?_
    have e : (i - 1).toNat = xs.length - 1 := by omega
    unfold rq at hq
    rw [e] at hq
    exact ⟨hq, hf⟩
  | succ n ih =>
    intro i h1 h2 μ2 hq hf
    refine VW.iload dL_runs_8 rfl ?_
    refine VW.iload_n dL_runs_10 rfl ?_
    refine VW.icmp_ge 142 ⟨by omega, by omega⟩ ⟨by omega, by omega⟩ dL_runs_11 (by decide) (fun c11 => by omega) (fun c11 => ?_)
    have x1 : μ2 274 i.toNat = rat xs i := (congrFun (hf 274 (by omega)) _).trans (hx i ⟨by omega, by omega⟩)
    have x0 : μ2 274 (i - 1).toNat = rat xs (i - 1) := (congrFun (hf 274 (by omega)) _).trans (hx (i - 1) ⟨by omega, by omega⟩)
    have y1 : μ2 275 i.toNat = rat ys i := (congrFun (hf 275 (by omega)) _).trans (hy i ⟨by omega, by omega⟩)
    have y0 : μ2 275 (i - 1).toNat = rat ys (i - 1) := (congrFun (hf 275 (by omega)) _).trans (hy (i - 1) ⟨by omega, by omega⟩)
    have bx1 := rat_b bx (i := i) (by omega) (by omega)
    have bx0 := rat_b bx (i := i - 1) (by omega) (by omega)
    have by1 := rat_b by9 (i := i) (by omega) (by omega)
    have by0 := rat_b by9 (i := i - 1) (by omega) (by omega)
    have dx : dif xs i = rat xs i - rat xs (i - 1) := if_neg (by omega)
    have dy : dif ys i = rat ys i - rat ys (i - 1) := if_neg (by omega)
    have sb := sDir_b xs ys i
    have q0 : μ2 (d + 2) (0 : Int).toNat = ((rq xs ys i).1.length : Int) := hq.1
    have hq2 := hq.2.1
    have ro := runsTo_ok bx by9 (i - 1).toNat
    have rl : (rq xs ys i).1.length ≤ (i - 1).toNat := ro.2.1
    refine VW.aload_n dL_runs_14 rfl ?_
    refine VW.iload dL_runs_15 rfl ?_
    refine VW.iaload dL_runs_17 (hl.1 274 (by decide)) hl.2.2.1 (by omega) (by omega) (by decide) ?_
    rw [x1]
    refine VW.aload_n dL_runs_18 rfl ?_
    refine VW.iload dL_runs_19 rfl ?_
    refine VW.iconst dL_runs_21 ?_
    refine VW.isub dL_runs_22 ?_
    refine VW.iaload dL_runs_23 (hl.1 274 (by decide)) hl.2.2.1 (by omega) (by omega) (by decide) ?_
    rw [x0]
    refine VW.isub dL_runs_24 ?_
    rw [← dx]
    refine VW.istore (lv' := [(0, _), (1, _), (2, _), (3, _), (4, _), (5, _), (6, _), (7, _)]) dL_runs_25 (by decide) rfl ?_
    refine VW.aload_n dL_runs_27 rfl ?_
    refine VW.iload dL_runs_28 rfl ?_
    refine VW.iaload dL_runs_30 (hl.1 275 (by decide)) hl.2.2.2.1 (by omega) (by omega) (by decide) ?_
    rw [y1]
    refine VW.aload_n dL_runs_31 rfl ?_
    refine VW.iload dL_runs_32 rfl ?_
    refine VW.iconst dL_runs_34 ?_
    refine VW.isub dL_runs_35 ?_
    refine VW.iaload dL_runs_36 (hl.1 275 (by decide)) hl.2.2.2.1 (by omega) (by omega) (by decide) ?_
    rw [y0]
    refine VW.isub dL_runs_37 ?_
    rw [← dy]
    refine VW.istore (lv' := [(0, _), (1, _), (2, _), (3, _), (4, _), (5, _), (6, _), (7, _), (8, _)]) dL_runs_38 (by decide) rfl ?_
    refine VW.iload dL_runs_40 rfl ?_
    refine VW.iload dL_runs_42 rfl ?_
    refine VW.pS2 cs_L_runs_L_direction dL_runs_44 (Nat.le_of_ble_eq_true rfl) (l_direction hst ⟨by omega, by omega⟩ ⟨by omega, by omega⟩) ?_
    rw [show dirF (sgn (dif xs i)) (sgn (dif ys i)) 8 0 = sDir xs ys i from rfl]
    refine VW.istore (lv' := [(0, _), (1, _), (2, _), (3, _), (4, _), (5, _), (6, _), (7, _), (8, _), (9, _)]) dL_runs_47 (by decide) rfl ?_
    refine VW.iload dL_runs_49 rfl ?_
    refine VW.if_ge 57 ⟨by omega, by omega⟩ dL_runs_51 (by decide) (fun c51 => ?_) (fun c51 => ?_)
    · refine VW.aload dL_runs_57 rfl ?_
      refine VW.iconst dL_runs_59 ?_
      refine VW.iaload dL_runs_60 (by have := ht.1.2; omega) ht.2.2.2 (by omega) (by omega) (by decide) ?_
      rw [q0]
      refine VW.if_eq 77 ⟨by omega, by omega⟩ dL_runs_61 (by decide) (fun c61 => ?_) (fun c61 => ?_)
      · refine VW.aload_n dL_runs_77 rfl ?_
        refine VW.aload dL_runs_78 rfl ?_
        refine VW.iconst dL_runs_80 ?_
        refine VW.iaload dL_runs_81 (by have := ht.1.2; omega) ht.2.2.2 (by omega) (by omega) (by decide) ?_
        rw [q0]
        refine VW.iload dL_runs_82 rfl ?_
        refine VW.iastore dL_runs_84 (by have := ht.1.2; omega) ht.2.1 (by omega) (by omega) (by decide) ?_
        have g1 : frm μ2 (mup μ2 d ((rq xs ys i).1.length : Int).toNat (sDir xs ys i)) d (d + 3) := frm_mup ⟨by omega, by omega⟩
        have p1 : arr (mup μ2 d ((rq xs ys i).1.length : Int).toNat (sDir xs ys i)) d ((rq xs ys i).1 ++ [sDir xs ys i]) := by
          rw [Int.toNat_natCast]
          exact hq.2.2.1.push
        refine VW.aload dL_runs_85 rfl ?_
        refine VW.aload dL_runs_87 rfl ?_
        refine VW.iconst dL_runs_89 ?_
        refine VW.dup2 dL_runs_90 rfl rfl ?_
        refine VW.iaload dL_runs_91 (by have := ht.1.2; omega) ht.2.2.2 (by omega) (by omega) (by decide) ?_
        rw [mup_n (by omega), q0]
        refine VW.dup_x2 dL_runs_92 rfl rfl rfl ?_
        refine VW.iconst dL_runs_93 ?_
        refine VW.iadd dL_runs_94 ?_
        refine VW.iastore dL_runs_95 (by have := ht.1.2; omega) ht.2.2.2 (by omega) (by omega) (by decide) ?_
        refine VW.iconst dL_runs_96 ?_
        refine VW.iastore dL_runs_97 (by have := ht.1.2; omega) ht.2.2.1 (by omega) (by omega) (by decide) ?_
        have p2 : arr (mup (mup (mup μ2 d ((rq xs ys i).1.length : Int).toNat (sDir xs ys i)) (d + 2) (0 : Int).toNat (((rq xs ys i).1.length : Int) + 1)) (d + 1) ((rq xs ys i).1.length : Int).toNat 0) (d + 1) ((rq xs ys i).2 ++ [0]) := by
          rw [Int.toNat_natCast, ← hq2]
          exact (hq.2.2.2.same ((mup_n (by omega)).trans (mup_n (by omega)))).push
        have f4 := hf.tr ((g1.tr (frm_mup (k := (0 : Int).toNat) (z := ((rq xs ys i).1.length : Int) + 1) (a := d + 2) ⟨by omega, by omega⟩)).tr (frm_mup (k := ((rq xs ys i).1.length : Int).toNat) (z := 0) (a := d + 1) ⟨by omega, by omega⟩))
        have hR5 : hasR (mup (mup (mup μ2 d ((rq xs ys i).1.length : Int).toNat (sDir xs ys i)) (d + 2) (0 : Int).toNat (((rq xs ys i).1.length : Int) + 1)) (d + 1) ((rq xs ys i).1.length : Int).toNat 0) d ((rq xs ys i).1 ++ [sDir xs ys i], (rq xs ys i).2 ++ [0]) :=
          ⟨by rw [mup_n (by omega)]; rw [show (0 : Nat) = (0 : Int).toNat from rfl, mup_s]; simp, by simp [hq2], p1.same ((mup_n (by omega)).trans (mup_n (by omega))), p2⟩
        first
        | (have e : rq xs ys (i + 1) = ((rq xs ys i).1, (rq xs ys i).2.set (((rq xs ys i).1.length : Int) - 1).toNat (rat (rq xs ys i).2 (((rq xs ys i).1.length : Int) - 1) + sLen xs ys i)) := by
             rw [rq_succ xs ys h1]
             exact if_pos ⟨by omega, c74.symm⟩
           exact lr_tail hst hl ht ⟨by omega, by omega⟩ ⟨by omega, by omega⟩ ⟨by omega, by omega⟩ hf hq ⟨by omega, by omega⟩ (fun μ9 h9 f9 => ih (i + 1) (by omega) (by omega) μ9 (by rw [e]; exact h9) f9))
        | (have e : rq xs ys (i + 1) = ((rq xs ys i).1 ++ [sDir xs ys i], (rq xs ys i).2 ++ [sLen xs ys i]) := by
             rw [rq_succ xs ys h1]
             refine (if_neg ?_).trans (if_pos (by omega))
             rintro ⟨w1, w2⟩
             first
             | (rw [rat_out (by omega)] at w2; omega)
             | exact c74 w2.symm
           refine lr_tail hst hl ht ⟨by omega, by omega⟩ ⟨by omega, by omega⟩ ⟨by omega, by omega⟩ f4 hR5 ⟨by simp, by simp; omega⟩ (fun μ9 h9 f9 => ih (i + 1) (by omega) (by omega) μ9 ?_ f9)
           rw [e]
           have e9 : ((rq xs ys i).2 ++ [0]).set ((((rq xs ys i).1 ++ [sDir xs ys i]).length : Int) - 1).toNat (rat ((rq xs ys i).2 ++ [0]) ((((rq xs ys i).1 ++ [sDir xs ys i]).length : Int) - 1) + sLen xs ys i) = (rq xs ys i).2 ++ [sLen xs ys i] := by
             rw [show ((((rq xs ys i).1 ++ [sDir xs ys i]).length : Int) - 1) = ((rq xs ys i).2.length : Int) by rw [hq2]; simp, Int.toNat_natCast, set_last, rat_snoc, if_pos rfl]
             congr 2
             omega
           rw [← e9]
           exact h9)
      · refine VW.aload_n dL_runs_64 rfl ?_
        refine VW.aload dL_runs_65 rfl ?_
        refine VW.iconst dL_runs_67 ?_
        refine VW.iaload dL_runs_68 (by have := ht.1.2; omega) ht.2.2.2 (by omega) (by omega) (by decide) ?_
        rw [q0]
        have a4 := hq.2.2.1 (((rq xs ys i).1.length : Int) - 1) ⟨by omega, by omega⟩
        have a5 : 0 ≤ rat (rq xs ys i).1 (((rq xs ys i).1.length : Int) - 1) ∧ rat (rq xs ys i).1 (((rq xs ys i).1.length : Int) - 1) ≤ 7 := rat_b ro.2.2.1 (i := ((rq xs ys i).1.length : Int) - 1) (by omega) (by show _ < ((rq xs ys i).1.length : Int); omega)
        refine VW.iconst dL_runs_69 ?_
        refine VW.isub dL_runs_70 ?_
        refine VW.iaload dL_runs_71 (by have := ht.1.2; omega) ht.2.1 (by omega) (by omega) (by decide) ?_
        rw [a4]
        refine VW.iload dL_runs_72 rfl ?_
        refine VW.icmp_eq 98 ⟨by omega, by omega⟩ ⟨by omega, by omega⟩ dL_runs_74 (by decide) (fun c74 => ?_) (fun c74 => ?_)
        · first
          | (have e : rq xs ys (i + 1) = ((rq xs ys i).1, (rq xs ys i).2.set (((rq xs ys i).1.length : Int) - 1).toNat (rat (rq xs ys i).2 (((rq xs ys i).1.length : Int) - 1) + sLen xs ys i)) := by
               rw [rq_succ xs ys h1]
               exact if_pos ⟨by omega, c74.symm⟩
             exact lr_tail hst hl ht ⟨by omega, by omega⟩ ⟨by omega, by omega⟩ ⟨by omega, by omega⟩ hf hq ⟨by omega, by omega⟩ (fun μ9 h9 f9 => ih (i + 1) (by omega) (by omega) μ9 (by rw [e]; exact h9) f9))
          | (have e : rq xs ys (i + 1) = ((rq xs ys i).1 ++ [sDir xs ys i], (rq xs ys i).2 ++ [sLen xs ys i]) := by
               rw [rq_succ xs ys h1]
               refine (if_neg ?_).trans (if_pos (by omega))
               rintro ⟨w1, w2⟩
               first
               | (rw [rat_out (by omega)] at w2; omega)
               | exact c74 w2.symm
             refine lr_tail hst hl ht ⟨by omega, by omega⟩ ⟨by omega, by omega⟩ ⟨by omega, by omega⟩ f4 hR5 ⟨by simp, by simp; omega⟩ (fun μ9 h9 f9 => ih (i + 1) (by omega) (by omega) μ9 ?_ f9)
             rw [e]
             have e9 : ((rq xs ys i).2 ++ [0]).set ((((rq xs ys i).1 ++ [sDir xs ys i]).length : Int) - 1).toNat (rat ((rq xs ys i).2 ++ [0]) ((((rq xs ys i).1 ++ [sDir xs ys i]).length : Int) - 1) + sLen xs ys i) = (rq xs ys i).2 ++ [sLen xs ys i] := by
               rw [show ((((rq xs ys i).1 ++ [sDir xs ys i]).length : Int) - 1) = ((rq xs ys i).2.length : Int) by rw [hq2]; simp, Int.toNat_natCast, set_last, rat_snoc, if_pos rfl]
               congr 2
               omega
             rw [← e9]
             exact h9)
        · refine VW.aload_n dL_runs_77 rfl ?_
          refine VW.aload dL_runs_78 rfl ?_
          refine VW.iconst dL_runs_80 ?_
          refine VW.iaload dL_runs_81 (by have := ht.1.2; omega) ht.2.2.2 (by omega) (by omega) (by decide) ?_
          rw [q0]
          refine VW.iload dL_runs_82 rfl ?_
          refine VW.iastore dL_runs_84 (by have := ht.1.2; omega) ht.2.1 (by omega) (by omega) (by decide) ?_
          have g1 : frm μ2 (mup μ2 d ((rq xs ys i).1.length : Int).toNat (sDir xs ys i)) d (d + 3) := frm_mup ⟨by omega, by omega⟩
          have p1 : arr (mup μ2 d ((rq xs ys i).1.length : Int).toNat (sDir xs ys i)) d ((rq xs ys i).1 ++ [sDir xs ys i]) := by
            rw [Int.toNat_natCast]
            exact hq.2.2.1.push
          refine VW.aload dL_runs_85 rfl ?_
          refine VW.aload dL_runs_87 rfl ?_
          refine VW.iconst dL_runs_89 ?_
          refine VW.dup2 dL_runs_90 rfl rfl ?_
          refine VW.iaload dL_runs_91 (by have := ht.1.2; omega) ht.2.2.2 (by omega) (by omega) (by decide) ?_
          rw [mup_n (by omega), q0]
          refine VW.dup_x2 dL_runs_92 rfl rfl rfl ?_
          refine VW.iconst dL_runs_93 ?_
          refine VW.iadd dL_runs_94 ?_
          refine VW.iastore dL_runs_95 (by have := ht.1.2; omega) ht.2.2.2 (by omega) (by omega) (by decide) ?_
          refine VW.iconst dL_runs_96 ?_
          refine VW.iastore dL_runs_97 (by have := ht.1.2; omega) ht.2.2.1 (by omega) (by omega) (by decide) ?_
          have p2 : arr (mup (mup (mup μ2 d ((rq xs ys i).1.length : Int).toNat (sDir xs ys i)) (d + 2) (0 : Int).toNat (((rq xs ys i).1.length : Int) + 1)) (d + 1) ((rq xs ys i).1.length : Int).toNat 0) (d + 1) ((rq xs ys i).2 ++ [0]) := by
            rw [Int.toNat_natCast, ← hq2]
            exact (hq.2.2.2.same ((mup_n (by omega)).trans (mup_n (by omega)))).push
          have f4 := hf.tr ((g1.tr (frm_mup (k := (0 : Int).toNat) (z := ((rq xs ys i).1.length : Int) + 1) (a := d + 2) ⟨by omega, by omega⟩)).tr (frm_mup (k := ((rq xs ys i).1.length : Int).toNat) (z := 0) (a := d + 1) ⟨by omega, by omega⟩))
          have hR5 : hasR (mup (mup (mup μ2 d ((rq xs ys i).1.length : Int).toNat (sDir xs ys i)) (d + 2) (0 : Int).toNat (((rq xs ys i).1.length : Int) + 1)) (d + 1) ((rq xs ys i).1.length : Int).toNat 0) d ((rq xs ys i).1 ++ [sDir xs ys i], (rq xs ys i).2 ++ [0]) :=
            ⟨by rw [mup_n (by omega)]; rw [show (0 : Nat) = (0 : Int).toNat from rfl, mup_s]; simp, by simp [hq2], p1.same ((mup_n (by omega)).trans (mup_n (by omega))), p2⟩
          first
          | (have e : rq xs ys (i + 1) = ((rq xs ys i).1, (rq xs ys i).2.set (((rq xs ys i).1.length : Int) - 1).toNat (rat (rq xs ys i).2 (((rq xs ys i).1.length : Int) - 1) + sLen xs ys i)) := by
               rw [rq_succ xs ys h1]
               exact if_pos ⟨by omega, c74.symm⟩
             exact lr_tail hst hl ht ⟨by omega, by omega⟩ ⟨by omega, by omega⟩ ⟨by omega, by omega⟩ hf hq ⟨by omega, by omega⟩ (fun μ9 h9 f9 => ih (i + 1) (by omega) (by omega) μ9 (by rw [e]; exact h9) f9))
          | (have e : rq xs ys (i + 1) = ((rq xs ys i).1 ++ [sDir xs ys i], (rq xs ys i).2 ++ [sLen xs ys i]) := by
               rw [rq_succ xs ys h1]
               refine (if_neg ?_).trans (if_pos (by omega))
               rintro ⟨w1, w2⟩
               first
               | (rw [rat_out (by omega)] at w2; omega)
               | exact c74 w2.symm
             refine lr_tail hst hl ht ⟨by omega, by omega⟩ ⟨by omega, by omega⟩ ⟨by omega, by omega⟩ f4 hR5 ⟨by simp, by simp; omega⟩ (fun μ9 h9 f9 => ih (i + 1) (by omega) (by omega) μ9 ?_ f9)
             rw [e]
             have e9 : ((rq xs ys i).2 ++ [0]).set ((((rq xs ys i).1 ++ [sDir xs ys i]).length : Int) - 1).toNat (rat ((rq xs ys i).2 ++ [0]) ((((rq xs ys i).1 ++ [sDir xs ys i]).length : Int) - 1) + sLen xs ys i) = (rq xs ys i).2 ++ [sLen xs ys i] := by
               rw [show ((((rq xs ys i).1 ++ [sDir xs ys i]).length : Int) - 1) = ((rq xs ys i).2.length : Int) by rw [hq2]; simp, Int.toNat_natCast, set_last, rat_snoc, if_pos rfl]
               congr 2
               omega
             rw [← e9]
             exact h9)
    · refine VW.goto 136 dL_runs_54 (by decide) ?_
      refine VW.iinc (lv' := [(0, _), (1, _), (2, _), (3, _), (4, _), (5, _), (6, _), (7, _), (8, _), (9, _)]) dL_runs_136 rfl (by decide) rfl ?_
      refine VW.goto 8 dL_runs_139 (by decide) ?_
      refine VW.sub ?_ [0, 1, 2, 3, 4, 5, 6] rfl
      have e : rq xs ys (i + 1) = rq xs ys i := by
        rw [rq_succ xs ys h1]
        unfold extR
        rw [if_neg (by omega), if_neg (by omega)]
      exact ih (i + 1) (by omega) (by omega) μ2 (by rw [e]; exact hq) hf
theorem l_runs (hst : l.stackTraces = false) (hl : isL N sh) (ht : isT N sh d) (hx : arr μ 274 xs) (hy : arr μ 275 ys) (hlen : ys.length = xs.length ∧ xs.length ≤ 40) (bx : bnd xs 0 31) (by9 : bnd ys 0 31) : Zv G l N sh M_L_runs [vI (xs.length : Int), .ref (gB G + 274), .ref (gB G + 275), .ref (gB G + d), .ref (gB G + (d + 1)), .ref (gB G + (d + 2))] μ (fun μ' => hasR μ' d (rnD xs ys, rnL xs ys) ∧ frm μ μ' d (d + 3)) := by
  refine Fx.of hst rfl (by decide +kernel) (Nat.le_of_ble_eq_true rfl) rfl ?_
  have hd1 := ht.1.1
  have hd2 := ht.1.2
  refine VW.aload dL_runs_0 rfl ?_
  refine VW.iconst dL_runs_2 ?_
  refine VW.iconst dL_runs_3 ?_
  refine VW.iastore dL_runs_4 (by have := ht.1.2; omega) ht.2.2.2 (by omega) (by omega) (by decide) ?_
  refine VW.iconst dL_runs_5 ?_
  refine VW.istore (lv' := [(0, _), (1, _), (2, _), (3, _), (4, _), (5, _), (6, _)]) dL_runs_6 (by decide) rfl ?_
  exact lp_L_runs hst hl ht hx hy hlen bx by9 (xs.length - 1) 1 (by omega) (by omega) _ ⟨mup_s _ _ _ _, rfl, fun k hk => by have := hk.2; simp [rq, runsTo] at this; omega, fun k hk => by have := hk.2; simp [rq, runsTo] at this; omega⟩ (frm_mup ⟨by omega, by omega⟩)
theorem l_loose (hst : l.stackTraces = false) (hl : isL N sh) (ht : isT N sh d) (hs : hasNS μ S) (hw : wfS S) (hq : hasR μ d (D, Ln)) (okd : okF D Ln) {p : Int} (hp : 0 ≤ p ∧ p < D.length) : Zi G l N sh M_L_loose [.ref (gB G + 273), .ref (gB G + d), .ref (gB G + (d + 1)), .ref (gB G + (d + 2)), vI p] μ (fun r μ' => r = bI (decide (rat Ln p < rat S 0 ∨ isCut D Ln p (rat S 1) = true)) ∧ μ' = μ) := by
  refine Fx.of hst rfl (by decide +kernel) (Nat.le_of_ble_eq_true rfl) rfl ?_
  have hd1 := ht.1.1
  have hd2 := ht.1.2
  obtain ⟨ok1, ok2, ok3, ok4, ok5⟩ := id okd
  obtain ⟨hw5, hw0, hw1, hw2, hw3, hw4⟩ := id hw
  have hq1 : μ (d + 2) (0 : Int).toNat = (D.length : Int) := hq.1
  have hqD : arr μ d D := hq.2.2.1
  have hqL : arr μ (d + 1) Ln := hq.2.2.2
  have a1 := hqD p hp
  have a2 := hqL p (by omega)
  have nr := nng_rat ok4 p
  have sr := sum_rat ok4 p
  have br := rat_b ok3 hp.1 hp.2
  refine VW.aload_n dL_loose_0 rfl ?_
  refine VW.iload dL_loose_1 rfl ?_
  refine VW.iaload dL_loose_3 (by have := ht.1.2; omega) ht.2.2.1 (by omega) (by omega) (by decide) ?_
  rw [a2]
  refine VW.aload_n dL_loose_4 rfl ?_
  refine VW.iconst dL_loose_5 ?_
  refine VW.iaload dL_loose_6 (hl.1 273 (by decide)) hl.2.1 (by omega) (by omega) (by decide) ?_
  rw [show (3 : Int).toNat = 3 from rfl, hs.1]
  refine VW.icmp_ge 12 ⟨by omega, by omega⟩ ⟨by omega, by omega⟩ dL_loose_7 (by decide) (fun c7 => ?_) (fun c7 => ?_)
  · refine VW.iload dL_loose_12 rfl ?_
    refine VW.if_le 94 ⟨by omega, by omega⟩ dL_loose_14 (by decide) (fun c14 => ?_) (fun c14 => ?_)
    · refine VW.iconst dL_loose_94 ?_
      refine VW.ireturn dL_loose_95 rfl rfl ?_
      refine fxP.ii ⟨?_, rfl⟩
      unfold bI isCut
      simp only [decide_eq_true_eq]
      first | (rw [if_pos (by omega)]; done) | (rw [if_neg (by omega)]; done)
    · refine VW.iload dL_loose_17 rfl ?_
      refine VW.aload_n dL_loose_19 rfl ?_
      refine VW.iconst dL_loose_20 ?_
      refine VW.iaload dL_loose_21 (by have := ht.1.2; omega) ht.2.2.2 (by omega) (by omega) (by decide) ?_
      rw [hq1]
      refine VW.iconst dL_loose_22 ?_
      refine VW.isub dL_loose_23 ?_
      refine VW.icmp_ge 94 ⟨by omega, by omega⟩ ⟨by omega, by omega⟩ dL_loose_24 (by decide) (fun c24 => ?_) (fun c24 => ?_)
      · refine VW.iconst dL_loose_94 ?_
        refine VW.ireturn dL_loose_95 rfl rfl ?_
        refine fxP.ii ⟨?_, rfl⟩
        unfold bI isCut
        simp only [decide_eq_true_eq]
        first | (rw [if_pos (by omega)]; done) | (rw [if_neg (by omega)]; done)
      · have a3 := hqD (p - 1) (by omega)
        have a4 := hqD (p + 1) (by omega)
        have b3 := rat_b ok3 (i := p - 1) (by omega) (by omega)
        have b4 := rat_b ok3 (i := p + 1) (by omega) (by omega)
        have e1 := eig_b (rat D (p - 1)) (rat D p)
        have e2 := eig_b (rat D p) (rat D (p + 1))
        have e3 := eig_b (rat D (p - 1)) (rat D (p + 1))
        refine VW.aload_n dL_loose_27 rfl ?_
        refine VW.iload dL_loose_28 rfl ?_
        refine VW.iconst dL_loose_30 ?_
        refine VW.isub dL_loose_31 ?_
        refine VW.iaload dL_loose_32 (by have := ht.1.2; omega) ht.2.1 (by omega) (by omega) (by decide) ?_
        rw [a3]
        refine VW.aload_n dL_loose_33 rfl ?_
        refine VW.iload dL_loose_34 rfl ?_
        refine VW.iaload dL_loose_36 (by have := ht.1.2; omega) ht.2.1 (by omega) (by omega) (by decide) ?_
        rw [a1]
        refine VW.pS2 cs_L_loose_L_apart dL_loose_37 (Nat.le_of_ble_eq_true rfl) (l_apart hst (by omega) (by omega)) ?_
        refine VW.iconst dL_loose_40 ?_
        refine VW.icmp_ne 94 ⟨by omega, by omega⟩ ⟨by omega, by omega⟩ dL_loose_41 (by decide) (fun c41 => ?_) (fun c41 => ?_)
        · refine VW.iconst dL_loose_94 ?_
          refine VW.ireturn dL_loose_95 rfl rfl ?_
          refine fxP.ii ⟨?_, rfl⟩
          unfold bI isCut
          simp only [decide_eq_true_eq]
          first | (rw [if_pos (by omega)]; done) | (rw [if_neg (by omega)]; done)
        · refine VW.aload_n dL_loose_44 rfl ?_
          refine VW.iload dL_loose_45 rfl ?_
          refine VW.iaload dL_loose_47 (by have := ht.1.2; omega) ht.2.1 (by omega) (by omega) (by decide) ?_
          rw [a1]
          refine VW.aload_n dL_loose_48 rfl ?_
          refine VW.iload dL_loose_49 rfl ?_
          refine VW.iconst dL_loose_51 ?_
          refine VW.iadd dL_loose_52 ?_
          refine VW.iaload dL_loose_53 (by have := ht.1.2; omega) ht.2.1 (by omega) (by omega) (by decide) ?_
          rw [a4]
          refine VW.pS2 cs_L_loose_L_apart dL_loose_54 (Nat.le_of_ble_eq_true rfl) (l_apart hst (by omega) (by omega)) ?_
          refine VW.iconst dL_loose_57 ?_
          refine VW.icmp_ne 94 ⟨by omega, by omega⟩ ⟨by omega, by omega⟩ dL_loose_58 (by decide) (fun c58 => ?_) (fun c58 => ?_)
          · refine VW.iconst dL_loose_94 ?_
            refine VW.ireturn dL_loose_95 rfl rfl ?_
            refine fxP.ii ⟨?_, rfl⟩
            unfold bI isCut
            simp only [decide_eq_true_eq]
            first | (rw [if_pos (by omega)]; done) | (rw [if_neg (by omega)]; done)
          · refine VW.aload_n dL_loose_61 rfl ?_
            refine VW.iload dL_loose_62 rfl ?_
            refine VW.iconst dL_loose_64 ?_
            refine VW.isub dL_loose_65 ?_
            refine VW.iaload dL_loose_66 (by have := ht.1.2; omega) ht.2.1 (by omega) (by omega) (by decide) ?_
            rw [a3]
            refine VW.aload_n dL_loose_67 rfl ?_
            refine VW.iload dL_loose_68 rfl ?_
            refine VW.iconst dL_loose_70 ?_
            refine VW.iadd dL_loose_71 ?_
            refine VW.iaload dL_loose_72 (by have := ht.1.2; omega) ht.2.1 (by omega) (by omega) (by decide) ?_
            rw [a4]
            refine VW.pS2 cs_L_loose_L_apart dL_loose_73 (Nat.le_of_ble_eq_true rfl) (l_apart hst (by omega) (by omega)) ?_
            refine VW.iconst dL_loose_76 ?_
            refine VW.icmp_ne 94 ⟨by omega, by omega⟩ ⟨by omega, by omega⟩ dL_loose_77 (by decide) (fun c77 => ?_) (fun c77 => ?_)
            · refine VW.iconst dL_loose_94 ?_
              refine VW.ireturn dL_loose_95 rfl rfl ?_
              refine fxP.ii ⟨?_, rfl⟩
              unfold bI isCut
              simp only [decide_eq_true_eq]
              first | (rw [if_pos (by omega)]; done) | (rw [if_neg (by omega)]; done)
            · refine VW.aload_n dL_loose_80 rfl ?_
              refine VW.iload dL_loose_81 rfl ?_
              refine VW.iaload dL_loose_83 (by have := ht.1.2; omega) ht.2.2.1 (by omega) (by omega) (by decide) ?_
              rw [a2]
              refine VW.aload_n dL_loose_84 rfl ?_
              refine VW.iconst dL_loose_85 ?_
              refine VW.iaload dL_loose_86 (hl.1 273 (by decide)) hl.2.1 (by omega) (by omega) (by decide) ?_
              rw [show (4 : Int).toNat = 4 from rfl, hs.2.1]
              refine VW.icmp_gt 94 ⟨by omega, by omega⟩ ⟨by omega, by omega⟩ dL_loose_87 (by decide) (fun c87 => ?_) (fun c87 => ?_)
              · refine VW.iconst dL_loose_94 ?_
                refine VW.ireturn dL_loose_95 rfl rfl ?_
                refine fxP.ii ⟨?_, rfl⟩
                unfold bI isCut
                simp only [decide_eq_true_eq]
                first | (rw [if_pos (by omega)]; done) | (rw [if_neg (by omega)]; done)
              · refine VW.iconst dL_loose_90 ?_
                refine VW.goto 95 dL_loose_91 (by decide) ?_
                refine VW.ireturn dL_loose_95 rfl rfl ?_
                refine fxP.ii ⟨?_, rfl⟩
                unfold bI isCut
                simp only [decide_eq_true_eq]
                first | (rw [if_pos (by omega)]; done) | (rw [if_neg (by omega)]; done)
  · refine VW.iconst dL_loose_10 ?_
    refine VW.ireturn dL_loose_11 rfl rfl ?_
    refine fxP.ii ⟨?_, rfl⟩
    unfold bI isCut
    simp only [decide_eq_true_eq]
    first | (rw [if_pos (by omega)]; done) | (rw [if_neg (by omega)]; done)
theorem lp_L_drop (hst : l.stackTraces = false) (ht : isT N sh d) (hq : hasR μ d (D, Ln)) (hlen : Ln.length = D.length) (h40 : D.length ≤ 40) {p : Int} (hp : 0 ≤ p ∧ p < D.length) : ∀ (n : Nat) (k : Int), p ≤ k → k + 1 + n = D.length → ∀ μ2 : Mem, (μ2 (d + 2) 0 = (D.length : Int) - 1) → (∀ j : Int, 0 ≤ j ∧ j + 1 < D.length → (j < k → μ2 d j.toNat = rat (D.eraseIdx p.toNat) j ∧ μ2 (d + 1) j.toNat = rat (Ln.eraseIdx p.toNat) j)) → (∀ j : Int, k ≤ j → μ2 d j.toNat = μ d j.toNat ∧ μ2 (d + 1) j.toNat = μ (d + 1) j.toNat) → frm μ μ2 d (d + 3) → μ2 (d + 2) 1 = μ (d + 2) 1 → VW G l none M_L_drop 10 [(0, .ref (gB G + d)), (1, .ref (gB G + (d + 1))), (2, .ref (gB G + (d + 2))), (3, vI p), (4, vI k)] [] (N, sh, μ2) 0 0 (fxP N sh (oN (vN_v (fun μ' => hasR μ' d (D.eraseIdx p.toNat, Ln.eraseIdx p.toNat) ∧ frm μ μ' d (d + 3) ∧ μ' (d + 2) 1 = μ (d + 2) 1)))) := by
  have hd1 := ht.1.1
  have hd2 := ht.1.2
  intro n
  induction n with
  | zero =>
    intro k h1 h2 μ2 h8 h9 h10 hf h11
    refine VW.iload dL_drop_10 rfl ?_
    refine VW.aload_n dL_drop_12 rfl ?_
    refine VW.iconst dL_drop_13 ?_
    refine VW.iaload dL_drop_14 (by have := ht.1.2; omega) ht.2.2.2 (by omega) (by omega) (by decide) ?_
    rw [show (0 : Int).toNat = 0 from rfl, h8]
    refine VW.icmp_ge 44 ⟨by omega, by omega⟩ ⟨by omega, by omega⟩ dL_drop_15 (by decide) (fun c15 => ?_) (fun c15 => by omega)
    refine VW.vreturn dL_drop_44 rfl ?_
    refine fxP.vv ?_
    have e1 : (D.eraseIdx p.toNat).length = D.length - 1 := by rw [List.length_eraseIdx, if_pos (by omega)]
    have e2 : (Ln.eraseIdx p.toNat).length = Ln.length - 1 := by rw [List.length_eraseIdx, if_pos (by omega)]
    exact ⟨hasR.mk (by rw [h8]; show _ = ((D.eraseIdx p.toNat).length : Int); rw [e1]; omega) (by show (Ln.eraseIdx p.toNat).length = (D.eraseIdx p.toNat).length; omega) (fun j hj => (h9 j (by have := hj.2; simp only [] at this; omega) (by have := hj.2; simp only [] at this; omega)).1) (fun j hj => (h9 j (by have := hj.2; simp only [] at this; omega) (by have := hj.2; simp only [] at this; omega)).2), hf, h11⟩
  | succ n ih =>
    intro k h1 h2 μ2 h8 h9 h10 hf h11
    refine VW.iload dL_drop_10 rfl ?_
    refine VW.aload_n dL_drop_12 rfl ?_
    refine VW.iconst dL_drop_13 ?_
    refine VW.iaload dL_drop_14 (by have := ht.1.2; omega) ht.2.2.2 (by omega) (by omega) (by decide) ?_
    rw [show (0 : Int).toNat = 0 from rfl, h8]
    refine VW.icmp_ge 44 ⟨by omega, by omega⟩ ⟨by omega, by omega⟩ dL_drop_15 (by decide) (fun c15 => by omega) (fun c15 => ?_)
    have a1 := (h10 (k + 1) (by omega)).1.trans (hq.2.2.1 (k + 1) ⟨by omega, by show k + 1 < (D.length : Int); omega⟩)
    have a2 := (h10 (k + 1) (by omega)).2.trans (hq.2.2.2 (k + 1) ⟨by omega, by show k + 1 < (Ln.length : Int); omega⟩)
    refine VW.aload_n dL_drop_18 rfl ?_
    refine VW.iload dL_drop_19 rfl ?_
    refine VW.aload_n dL_drop_21 rfl ?_
    refine VW.iload dL_drop_22 rfl ?_
    refine VW.iconst dL_drop_24 ?_
    refine VW.iadd dL_drop_25 ?_
    refine VW.iaload dL_drop_26 (by have := ht.1.2; omega) ht.2.1 (by omega) (by omega) (by decide) ?_
    rw [a1]
    refine VW.iastore dL_drop_27 (by have := ht.1.2; omega) ht.2.1 (by omega) (by omega) (by decide) ?_
    refine VW.aload_n dL_drop_28 rfl ?_
    refine VW.iload dL_drop_29 rfl ?_
    refine VW.aload_n dL_drop_31 rfl ?_
    refine VW.iload dL_drop_32 rfl ?_
    refine VW.iconst dL_drop_34 ?_
    refine VW.iadd dL_drop_35 ?_
    refine VW.iaload dL_drop_36 (by have := ht.1.2; omega) ht.2.2.1 (by omega) (by omega) (by decide) ?_
    rw [mup_n (show d + 1 ≠ d by omega), a2]
    refine VW.iastore dL_drop_37 (by have := ht.1.2; omega) ht.2.2.1 (by omega) (by omega) (by decide) ?_
    refine VW.iinc (lv' := [(0, _), (1, _), (2, _), (3, _), (4, _)]) dL_drop_38 rfl (by decide) rfl ?_
    refine VW.goto 10 dL_drop_41 (by decide) ?_
    have g1 : frm μ2 (mup (mup μ2 d k.toNat (rat D (k + 1))) (d + 1) k.toNat (rat Ln (k + 1))) d (d + 3) := (frm_mup ⟨by omega, by omega⟩).tr (frm_mup ⟨by omega, by omega⟩)
    refine ih (k + 1) (by omega) (by omega) _ (by rw [mup_n (by omega), mup_n (by omega)]; exact h8) (fun j hj hjk => ?_) (fun j hj => ?_) (hf.tr g1) (by rw [mup_n (by omega), mup_n (by omega)]; exact h11)
    · by_cases e : j = k
      · subst e
        have e1 : rat (D.eraseIdx p.toNat) j = rat D (j + 1) := by rw [rat_erase hp hj, if_neg (by omega)]
        have e2 : rat (Ln.eraseIdx p.toNat) j = rat Ln (j + 1) := by rw [rat_erase (by omega) (by omega), if_neg (by omega)]
        exact ⟨by rw [mup_n (by omega), mup_s, e1], by rw [mup_s, e2]⟩
      · rw [mup_n (show d ≠ d + 1 by omega), mup_k (by omega), mup_k (by omega), mup_n (show d + 1 ≠ d by omega)]
        exact h9 j hj (by omega)
    · rw [mup_n (show d ≠ d + 1 by omega), mup_k (by omega), mup_k (by omega), mup_n (show d + 1 ≠ d by omega)]
      exact h10 j (by omega)
theorem l_drop (hst : l.stackTraces = false) (ht : isT N sh d) (hq : hasR μ d (D, Ln)) (hlen : Ln.length = D.length) (h40 : D.length ≤ 40) {p : Int} (hp : 0 ≤ p ∧ p < D.length) : Zv G l N sh M_L_drop [.ref (gB G + d), .ref (gB G + (d + 1)), .ref (gB G + (d + 2)), vI p] μ (fun μ' => hasR μ' d (D.eraseIdx p.toNat, Ln.eraseIdx p.toNat) ∧ frm μ μ' d (d + 3) ∧ μ' (d + 2) 1 = μ (d + 2) 1) := by
  refine Fx.of hst rfl (by decide +kernel) (Nat.le_of_ble_eq_true rfl) rfl ?_
  have hd1 := ht.1.1
  have hd2 := ht.1.2
  refine VW.aload_n dL_drop_0 rfl ?_
  refine VW.iconst dL_drop_1 ?_
  refine VW.dup2 dL_drop_2 rfl rfl ?_
  refine VW.iaload dL_drop_3 (by have := ht.1.2; omega) ht.2.2.2 (by omega) (by omega) (by decide) ?_
  rw [show μ (d + 2) (0 : Int).toNat = (D.length : Int) from hq.1]
  refine VW.iconst dL_drop_4 ?_
  refine VW.isub dL_drop_5 ?_
  refine VW.iastore dL_drop_6 (by have := ht.1.2; omega) ht.2.2.2 (by omega) (by omega) (by decide) ?_
  refine VW.iload_n dL_drop_7 rfl ?_
  refine VW.istore (lv' := [(0, _), (1, _), (2, _), (3, _), (4, _)]) dL_drop_8 (by decide) rfl ?_
  have g : frm μ (mup μ (d + 2) (0 : Int).toNat ((D.length : Int) - 1)) d (d + 3) := frm_mup ⟨by omega, by omega⟩
  refine lp_L_drop hst ht hq hlen h40 hp (D.length - 1 - p.toNat) p (by omega) (by omega) _ (mup_s _ _ _ _) (fun j hj hjk => ?_) (fun j hj => ?_) g (mup_k (by decide))
  · have e1 : rat (D.eraseIdx p.toNat) j = rat D j := by rw [rat_erase hp hj, if_pos (by omega)]
    have e2 : rat (Ln.eraseIdx p.toNat) j = rat Ln j := by rw [rat_erase (by omega) (by omega), if_pos (by omega)]
    rw [mup_n (by omega), mup_n (by omega), e1, e2]
    exact ⟨hq.2.2.1 j ⟨by omega, by show j < (D.length : Int); omega⟩, hq.2.2.2 j ⟨by omega, by show j < (Ln.length : Int); omega⟩⟩
  · rw [mup_n (by omega), mup_n (by omega)]
    exact ⟨rfl, rfl⟩
theorem lp_L_forg (hst : l.stackTraces = false) (hl : isL N sh) (ht : isT N sh d) (hs : hasNS μ S) (hw : wfS S) : ∀ (n : Nat) (D Ln : List Int) (x : Int), D.length ≤ n + 1 → okF D Ln → ∀ (m : Nat) (k : Int), 0 ≤ k → k + m = D.length → fdF D Ln (rat S 0) (rat S 1) m k = fdrop D Ln (rat S 0) (rat S 1) → ∀ μ2 : Mem, hasR μ2 d (D, Ln) → μ2 (d + 2) 1 = x → frm μ μ2 d (d + 3) → VW G l none M_L_forgive 7 [(0, .ref (gB G + 273)), (1, .ref (gB G + d)), (2, .ref (gB G + (d + 1))), (3, .ref (gB G + (d + 2))), (4, vI (k))] [] (N, sh, μ2) 0 0 (fxP N sh (oN (vN_v (fun μ' => hasR μ' d (fgv (rat S 0) (rat S 1) n ((D, Ln), x)).1 ∧ μ' (d + 2) 1 = (fgv (rat S 0) (rat S 1) n ((D, Ln), x)).2 ∧ frm μ μ' d (d + 3))))) := by
  have hd1 := ht.1.1
  have hd2 := ht.1.2
  intro n
  induction n with
  | zero =>
    intro D Ln x h1 okd m k h0 hm hfd μ2 hq hx hf
    have ok2 := okd.2.1
    have q0 : μ2 (d + 2) (0 : Int).toNat = (D.length : Int) := hq.1
    refine VW.iload dL_forgive_7 rfl ?_
    refine VW.aload_n dL_forgive_9 rfl ?_
    refine VW.iconst dL_forgive_10 ?_
    refine VW.iaload dL_forgive_11 (by have := ht.1.2; omega) ht.2.2.2 (by omega) (by omega) (by decide) ?_
    rw [q0]
    refine VW.icmp_ge 108 ⟨by omega, by omega⟩ ⟨by omega, by omega⟩ dL_forgive_12 (by decide) (fun c12 => ?_) (fun c12 => ?_)
    · refine VW.vreturn dL_forgive_108 rfl ?_
      exact fxP.vv ⟨hq, hx, hf⟩
    · refine VW.aload_n dL_forgive_15 rfl ?_
      refine VW.iconst dL_forgive_16 ?_
      refine VW.iaload dL_forgive_17 (by have := ht.1.2; omega) ht.2.2.2 (by omega) (by omega) (by decide) ?_
      rw [q0]
      refine VW.iconst dL_forgive_18 ?_
      refine VW.icmp_le 108 ⟨by omega, by omega⟩ ⟨by omega, by omega⟩ dL_forgive_19 (by decide) (fun c19 => ?_) (fun c19 => by omega)
      refine VW.vreturn dL_forgive_108 rfl ?_
      exact fxP.vv ⟨hq, hx, hf⟩
  | succ n ih =>
    intro D Ln x h1 okd m
    have ok2 := okd.2.1
    induction m with
    | zero =>
      intro k h0 hm hfd μ2 hq hx hf
      have q0 : μ2 (d + 2) (0 : Int).toNat = (D.length : Int) := hq.1
      have e9 : fgv (rat S 0) (rat S 1) (n + 1) ((D, Ln), x) = ((D, Ln), x) := by
        show (if D.length ≤ 1 then ((D, Ln), x) else if fdrop D Ln (rat S 0) (rat S 1) = -1 then ((D, Ln), x) else fgv (rat S 0) (rat S 1) n (dropA D Ln (fdrop D Ln (rat S 0) (rat S 1)), x + 1)) = _
        rw [← hfd, if_pos (show fdF D Ln (rat S 0) (rat S 1) 0 k = -1 from rfl)]
        split <;> rfl
      rw [e9]
      refine VW.iload dL_forgive_7 rfl ?_
      refine VW.aload_n dL_forgive_9 rfl ?_
      refine VW.iconst dL_forgive_10 ?_
      refine VW.iaload dL_forgive_11 (by have := ht.1.2; omega) ht.2.2.2 (by omega) (by omega) (by decide) ?_
      rw [q0]
      refine VW.icmp_ge 108 ⟨by omega, by omega⟩ ⟨by omega, by omega⟩ dL_forgive_12 (by decide) (fun c12 => ?_) (fun c12 => by omega)
      refine VW.vreturn dL_forgive_108 rfl ?_
      exact fxP.vv ⟨hq, hx, hf⟩
    | succ m im =>
      intro k h0 hm hfd μ2 hq hx hf
      obtain ⟨ok1, -, ok3, ok4, ok5⟩ := id okd
      have q0 : μ2 (d + 2) (0 : Int).toNat = (D.length : Int) := hq.1
      by_cases hl1 : D.length ≤ 1
      · rw [show fgv (rat S 0) (rat S 1) (n + 1) ((D, Ln), x) = ((D, Ln), x) from if_pos hl1]
        refine VW.iload dL_forgive_7 rfl ?_
        refine VW.aload_n dL_forgive_9 rfl ?_
        refine VW.iconst dL_forgive_10 ?_
        refine VW.iaload dL_forgive_11 (by have := ht.1.2; omega) ht.2.2.2 (by omega) (by omega) (by decide) ?_
        rw [q0]
        refine VW.icmp_ge 108 ⟨by omega, by omega⟩ ⟨by omega, by omega⟩ dL_forgive_12 (by decide) (fun c12 => by omega) (fun c12 => ?_)
        refine VW.aload_n dL_forgive_15 rfl ?_
        refine VW.iconst dL_forgive_16 ?_
        refine VW.iaload dL_forgive_17 (by have := ht.1.2; omega) ht.2.2.2 (by omega) (by omega) (by decide) ?_
        rw [q0]
        refine VW.iconst dL_forgive_18 ?_
        refine VW.icmp_le 108 ⟨by omega, by omega⟩ ⟨by omega, by omega⟩ dL_forgive_19 (by decide) (fun c19 => ?_) (fun c19 => by omega)
        refine VW.vreturn dL_forgive_108 rfl ?_
        exact fxP.vv ⟨hq, hx, hf⟩
      · have hfe : fdF D Ln (rat S 0) (rat S 1) (m + 1) k = if rat Ln k < rat S 0 ∨ isCut D Ln k (rat S 1) = true then k else fdF D Ln (rat S 0) (rat S 1) m (k + 1) := rfl
        refine VW.iload dL_forgive_7 rfl ?_
        refine VW.aload_n dL_forgive_9 rfl ?_
        refine VW.iconst dL_forgive_10 ?_
        refine VW.iaload dL_forgive_11 (by have := ht.1.2; omega) ht.2.2.2 (by omega) (by omega) (by decide) ?_
        rw [q0]
        refine VW.icmp_ge 108 ⟨by omega, by omega⟩ ⟨by omega, by omega⟩ dL_forgive_12 (by decide) (fun c12 => by omega) (fun c12 => ?_)
        refine VW.aload_n dL_forgive_15 rfl ?_
        refine VW.iconst dL_forgive_16 ?_
        refine VW.iaload dL_forgive_17 (by have := ht.1.2; omega) ht.2.2.2 (by omega) (by omega) (by decide) ?_
        rw [q0]
        refine VW.iconst dL_forgive_18 ?_
        refine VW.icmp_le 108 ⟨by omega, by omega⟩ ⟨by omega, by omega⟩ dL_forgive_19 (by decide) (fun c19 => by omega) (fun c19 => ?_)
        refine VW.aload_n dL_forgive_22 rfl ?_
        refine VW.aload_n dL_forgive_23 rfl ?_
        refine VW.aload_n dL_forgive_24 rfl ?_
        refine VW.aload_n dL_forgive_25 rfl ?_
        refine VW.iload dL_forgive_26 rfl ?_
        refine VW.pS5 cs_L_forgive_L_loose dL_forgive_28 (Nat.le_of_ble_eq_true rfl) (l_loose hst hl ht (hs.frm hf (by omega)) hw hq okd (p := k) ⟨by omega, by omega⟩) ?_
        refine VW.if_ne 40 (bR2 _) dL_forgive_31 (by decide) (fun c31 => ?_) (fun c31 => ?_)
        · have hcut : rat Ln k < rat S 0 ∨ isCut D Ln k (rat S 1) = true := by
            have t := c31
            rw [bI0d] at t
            exact Classical.not_not.mp t
          rw [hfe, if_pos hcut] at hfd
          refine VW.aload_n dL_forgive_40 rfl ?_
          refine VW.aload_n dL_forgive_41 rfl ?_
          refine VW.aload_n dL_forgive_42 rfl ?_
          refine VW.iload dL_forgive_43 rfl ?_
          refine VW.zvS (av := [.ref (gB G + d), .ref (gB G + (d + 1)), .ref (gB G + (d + 2)), vI k]) cs_L_forgive_L_drop dL_forgive_45 rfl (Nat.le_of_ble_eq_true rfl) (l_drop hst ht hq ok1.symm ok2 (p := k) ⟨by omega, by omega⟩) (fun μ3 h3 => ?_)
          obtain ⟨h3, h3f, h3x⟩ := h3
          have f3 := hf.tr h3f
          have g0 := okF_erase (i := k.toNat) okd (by omega)
          obtain ⟨g1, g2, g3, g4, g5⟩ := id g0
          have gl : (D.eraseIdx k.toNat).length = D.length - 1 := by rw [List.length_eraseIdx, if_pos (by omega)]
          have gm : (Ln.eraseIdx k.toNat).length = Ln.length - 1 := by rw [List.length_eraseIdx, if_pos (by omega)]
          refine VW.aload_n dL_forgive_48 rfl ?_
          refine VW.iconst dL_forgive_49 ?_
          refine VW.dup2 dL_forgive_50 rfl rfl ?_
          refine VW.iaload dL_forgive_51 (by have := ht.1.2; omega) ht.2.2.2 (by omega) (by omega) (by decide) ?_
          refine VW.iconst dL_forgive_52 ?_
          refine VW.iadd dL_forgive_53 ?_
          refine VW.iastore dL_forgive_54 (by have := ht.1.2; omega) ht.2.2.2 (by omega) (by omega) (by decide) ?_
          rw [show (1 : Int).toNat = 1 from rfl, h3x, hx]
          obtain ⟨μ4, hμ4⟩ : ∃ μ4, mup μ3 (d + 2) 1 (x + 1) = μ4 := ⟨_, rfl⟩
          rw [hμ4]
          have h4 : hasR μ4 d (D.eraseIdx k.toNat, Ln.eraseIdx k.toNat) := by
            rw [← hμ4]
            exact hasR.mk (by rw [mup_k (by decide)]; exact h3.1) h3.2.1 (h3.2.2.1.same (mup_n (by omega))) (h3.2.2.2.same (mup_n (by omega)))
          have f4 : frm μ μ4 d (d + 3) := by
            rw [← hμ4]
            exact f3.tr (frm_mup ⟨by omega, by omega⟩)
          have x4 : μ4 (d + 2) 1 = x + 1 := by
            rw [← hμ4]
            exact mup_s _ _ _ _
          have p4 : arr μ4 d (D.eraseIdx k.toNat) := h4.2.2.1
          have l4 : arr μ4 (d + 1) (Ln.eraseIdx k.toNat) := h4.2.2.2
          refine VW.iload dL_forgive_55 rfl ?_
          refine VW.if_le 102 ⟨by omega, by omega⟩ dL_forgive_57 (by decide) (fun c57 => ?_) (fun c57 => ?_)
          · have e2 : fgv (rat S 0) (rat S 1) (n + 1) ((D, Ln), x) = fgv (rat S 0) (rat S 1) n (dropA D Ln k, x + 1) := by
              show (if D.length ≤ 1 then ((D, Ln), x) else if fdrop D Ln (rat S 0) (rat S 1) = -1 then ((D, Ln), x) else fgv (rat S 0) (rat S 1) n (dropA D Ln (fdrop D Ln (rat S 0) (rat S 1)), x + 1)) = _
              rw [if_neg hl1, ← hfd, if_neg (by omega)]
            have dok := dropA_ok okd (p := k) ⟨by omega, by omega⟩
            rw [e2]
            refine VW.iconst dL_forgive_102 ?_
            refine VW.istore (lv' := [(0, _), (1, _), (2, _), (3, _), (4, _)]) dL_forgive_103 (by decide) rfl ?_
            refine VW.goto 7 dL_forgive_105 (by decide) ?_
            have e3 : dropA D Ln k = (D.eraseIdx k.toNat, Ln.eraseIdx k.toNat) := if_neg (by omega)
            rw [e3] at dok ⊢
            exact ih (D.eraseIdx k.toNat) (Ln.eraseIdx k.toNat) (x + 1) (by omega) dok (D.eraseIdx k.toNat).length 0 (by omega) (by omega) rfl μ4 h4 x4 f4
          · refine VW.iload dL_forgive_60 rfl ?_
            refine VW.aload_n dL_forgive_62 rfl ?_
            refine VW.iconst dL_forgive_63 ?_
            refine VW.iaload dL_forgive_64 (by have := ht.1.2; omega) ht.2.2.2 (by omega) (by omega) (by decide) ?_
            rw [show μ4 (d + 2) (0 : Int).toNat = ((D.eraseIdx k.toNat).length : Int) from h4.1]
            refine VW.icmp_ge 102 ⟨by omega, by omega⟩ ⟨by omega, by omega⟩ dL_forgive_65 (by decide) (fun c65 => ?_) (fun c65 => ?_)
            · have e2 : fgv (rat S 0) (rat S 1) (n + 1) ((D, Ln), x) = fgv (rat S 0) (rat S 1) n (dropA D Ln k, x + 1) := by
                show (if D.length ≤ 1 then ((D, Ln), x) else if fdrop D Ln (rat S 0) (rat S 1) = -1 then ((D, Ln), x) else fgv (rat S 0) (rat S 1) n (dropA D Ln (fdrop D Ln (rat S 0) (rat S 1)), x + 1)) = _
                rw [if_neg hl1, ← hfd, if_neg (by omega)]
              have dok := dropA_ok okd (p := k) ⟨by omega, by omega⟩
              rw [e2]
              refine VW.iconst dL_forgive_102 ?_
              refine VW.istore (lv' := [(0, _), (1, _), (2, _), (3, _), (4, _)]) dL_forgive_103 (by decide) rfl ?_
              refine VW.goto 7 dL_forgive_105 (by decide) ?_
              have e3 : dropA D Ln k = (D.eraseIdx k.toNat, Ln.eraseIdx k.toNat) := if_neg (by omega)
              rw [e3] at dok ⊢
              exact ih (D.eraseIdx k.toNat) (Ln.eraseIdx k.toNat) (x + 1) (by omega) dok (D.eraseIdx k.toNat).length 0 (by omega) (by omega) rfl μ4 h4 x4 f4
            · have a1 : μ4 d (k - 1).toNat = rat (D.eraseIdx k.toNat) (k - 1) := p4 (k - 1) ⟨by omega, by omega⟩
              have a2 : μ4 d k.toNat = rat (D.eraseIdx k.toNat) k := p4 k ⟨by omega, by omega⟩
              have a3 : μ4 (d + 1) (k - 1).toNat = rat (Ln.eraseIdx k.toNat) (k - 1) := l4 (k - 1) ⟨by omega, by omega⟩
              have a4 : μ4 (d + 1) k.toNat = rat (Ln.eraseIdx k.toNat) k := l4 k ⟨by omega, by omega⟩
              have b1 := rat_b g3 (i := k - 1) (by omega) (by omega)
              have b2 := rat_b g3 (i := k) (by omega) (by omega)
              refine VW.aload_n dL_forgive_68 rfl ?_
              refine VW.iload dL_forgive_69 rfl ?_
              refine VW.iconst dL_forgive_71 ?_
              refine VW.isub dL_forgive_72 ?_
              refine VW.iaload dL_forgive_73 (by have := ht.1.2; omega) ht.2.1 (by omega) (by omega) (by decide) ?_
              rw [a1]
              refine VW.aload_n dL_forgive_74 rfl ?_
              refine VW.iload dL_forgive_75 rfl ?_
              refine VW.iaload dL_forgive_77 (by have := ht.1.2; omega) ht.2.1 (by omega) (by omega) (by decide) ?_
              rw [a2]
              refine VW.icmp_ne 102 ⟨by omega, by omega⟩ ⟨by omega, by omega⟩ dL_forgive_78 (by decide) (fun c78 => ?_) (fun c78 => ?_)
              · have e2 : fgv (rat S 0) (rat S 1) (n + 1) ((D, Ln), x) = fgv (rat S 0) (rat S 1) n (dropA D Ln k, x + 1) := by
                  show (if D.length ≤ 1 then ((D, Ln), x) else if fdrop D Ln (rat S 0) (rat S 1) = -1 then ((D, Ln), x) else fgv (rat S 0) (rat S 1) n (dropA D Ln (fdrop D Ln (rat S 0) (rat S 1)), x + 1)) = _
                  rw [if_neg hl1, ← hfd, if_neg (by omega)]
                have dok := dropA_ok okd (p := k) ⟨by omega, by omega⟩
                rw [e2]
                refine VW.iconst dL_forgive_102 ?_
                refine VW.istore (lv' := [(0, _), (1, _), (2, _), (3, _), (4, _)]) dL_forgive_103 (by decide) rfl ?_
                refine VW.goto 7 dL_forgive_105 (by decide) ?_
                have e3 : dropA D Ln k = (D.eraseIdx k.toNat, Ln.eraseIdx k.toNat) := if_neg (by omega)
                rw [e3] at dok ⊢
                exact ih (D.eraseIdx k.toNat) (Ln.eraseIdx k.toNat) (x + 1) (by omega) dok (D.eraseIdx k.toNat).length 0 (by omega) (by omega) rfl μ4 h4 x4 f4
              · refine VW.aload_n dL_forgive_81 rfl ?_
                refine VW.iload dL_forgive_82 rfl ?_
                refine VW.iconst dL_forgive_84 ?_
                refine VW.isub dL_forgive_85 ?_
                refine VW.dup2 dL_forgive_86 rfl rfl ?_
                refine VW.iaload dL_forgive_87 (by have := ht.1.2; omega) ht.2.2.1 (by omega) (by omega) (by decide) ?_
                rw [a3]
                refine VW.aload_n dL_forgive_88 rfl ?_
                refine VW.iload dL_forgive_89 rfl ?_
                refine VW.iaload dL_forgive_91 (by have := ht.1.2; omega) ht.2.2.1 (by omega) (by omega) (by decide) ?_
                rw [a4]
                refine VW.iadd dL_forgive_92 ?_
                refine VW.iastore dL_forgive_93 (by have := ht.1.2; omega) ht.2.2.1 (by omega) (by omega) (by decide) ?_
                have h5 : hasR (mup μ4 (d + 1) (k - 1).toNat (rat (Ln.eraseIdx k.toNat) (k - 1) + rat (Ln.eraseIdx k.toNat) k)) d (D.eraseIdx k.toNat, (Ln.eraseIdx k.toNat).set (k - 1).toNat (rat (Ln.eraseIdx k.toNat) (k - 1) + rat (Ln.eraseIdx k.toNat) k)) :=
                  hasR.mk (by rw [mup_n (by omega)]; exact h4.1) (by show ((Ln.eraseIdx k.toNat).set _ _).length = _; rw [List.length_set]; exact h4.2.1) (p4.same (mup_n (by omega))) (l4.set ⟨by omega, by omega⟩)
                have f5 : frm μ (mup μ4 (d + 1) (k - 1).toNat (rat (Ln.eraseIdx k.toNat) (k - 1) + rat (Ln.eraseIdx k.toNat) k)) d (d + 3) := f4.tr (frm_mup ⟨by omega, by omega⟩)
                refine VW.aload_n dL_forgive_94 rfl ?_
                refine VW.aload_n dL_forgive_95 rfl ?_
                refine VW.aload_n dL_forgive_96 rfl ?_
                refine VW.iload dL_forgive_97 rfl ?_
                refine VW.zvS (av := [.ref (gB G + d), .ref (gB G + (d + 1)), .ref (gB G + (d + 2)), vI k]) cs_L_forgive_L_drop dL_forgive_99 rfl (Nat.le_of_ble_eq_true rfl) (l_drop (D := D.eraseIdx k.toNat) (Ln := (Ln.eraseIdx k.toNat).set (k - 1).toNat (rat (Ln.eraseIdx k.toNat) (k - 1) + rat (Ln.eraseIdx k.toNat) k)) hst ht h5 (by rw [List.length_set]; exact g1.symm) g2 (p := k) ⟨by omega, by omega⟩) (fun μ6 h6 => ?_)
                obtain ⟨h6, h6f, h6x⟩ := h6
                have e2 : fgv (rat S 0) (rat S 1) (n + 1) ((D, Ln), x) = fgv (rat S 0) (rat S 1) n (dropA D Ln k, x + 1) := by
                  show (if D.length ≤ 1 then ((D, Ln), x) else if fdrop D Ln (rat S 0) (rat S 1) = -1 then ((D, Ln), x) else fgv (rat S 0) (rat S 1) n (dropA D Ln (fdrop D Ln (rat S 0) (rat S 1)), x + 1)) = _
                  rw [if_neg hl1, ← hfd, if_neg (by omega)]
                have dok := dropA_ok okd (p := k) ⟨by omega, by omega⟩
                rw [e2]
                refine VW.iconst dL_forgive_102 ?_
                refine VW.istore (lv' := [(0, _), (1, _), (2, _), (3, _), (4, _)]) dL_forgive_103 (by decide) rfl ?_
                refine VW.goto 7 dL_forgive_105 (by decide) ?_
                have e3 : dropA D Ln k = ((D.eraseIdx k.toNat).eraseIdx k.toNat, ((Ln.eraseIdx k.toNat).set (k - 1).toNat (rat (Ln.eraseIdx k.toNat) (k - 1) + rat (Ln.eraseIdx k.toNat) k)).eraseIdx k.toNat) := if_pos ⟨by omega, by omega, c78⟩
                rw [e3] at dok ⊢
                have gl2 : ((D.eraseIdx k.toNat).eraseIdx k.toNat).length ≤ n + 1 := by rw [List.length_eraseIdx]; split <;> omega
                exact ih _ _ _ gl2 dok ((D.eraseIdx k.toNat).eraseIdx k.toNat).length 0 (by omega) (by omega) rfl μ6 h6 (by rw [h6x, mup_n (by omega)]; exact x4) (f5.tr h6f)
        · refine VW.iinc (lv' := [(0, _), (1, _), (2, _), (3, _), (4, _)]) dL_forgive_34 rfl (by decide) rfl ?_
          refine VW.goto 7 dL_forgive_37 (by decide) ?_
          rw [bI0d] at c31
          rw [hfe, if_neg c31] at hfd
          exact im (k + 1) (by omega) (by omega) hfd μ2 hq hx hf
theorem l_forgive (hst : l.stackTraces = false) (hl : isL N sh) (ht : isT N sh d) (hs : hasNS μ S) (hw : wfS S) (hq : hasR μ d (D, Ln)) (okd : okF D Ln) : Zv G l N sh M_L_forgive [.ref (gB G + 273), .ref (gB G + d), .ref (gB G + (d + 1)), .ref (gB G + (d + 2))] μ (fun μ' => hasR μ' d (fgv (rat S 0) (rat S 1) 40 ((D, Ln), 0)).1 ∧ μ' (d + 2) 1 = (fgv (rat S 0) (rat S 1) 40 ((D, Ln), 0)).2 ∧ frm μ μ' d (d + 3)) := by
  refine Fx.of hst rfl (by decide +kernel) (Nat.le_of_ble_eq_true rfl) rfl ?_
  have hd1 := ht.1.1
  have hd2 := ht.1.2
  obtain ⟨ok1, ok2, ok3, ok4, ok5⟩ := id okd
  obtain ⟨hw5, hw0, hw1, hw2, hw3, hw4⟩ := id hw
  have hq1 : μ (d + 2) (0 : Int).toNat = (D.length : Int) := hq.1
  have hqD : arr μ d D := hq.2.2.1
  have hqL : arr μ (d + 1) Ln := hq.2.2.2
  refine VW.aload_n dL_forgive_0 rfl ?_
  refine VW.iconst dL_forgive_1 ?_
  refine VW.iconst dL_forgive_2 ?_
  refine VW.iastore dL_forgive_3 (by have := ht.1.2; omega) ht.2.2.2 (by omega) (by omega) (by decide) ?_
  refine VW.iconst dL_forgive_4 ?_
  refine VW.istore (lv' := [(0, _), (1, _), (2, _), (3, _), (4, _)]) dL_forgive_5 (by decide) rfl ?_
  exact lp_L_forg hst hl ht hs hw 40 D Ln 0 (by omega) okd D.length 0 (by omega) (by omega) rfl _ (hasR.mk (by rw [show (1 : Int).toNat = 1 from rfl, mup_k (by decide)]; exact hq.1) hq.2.1 (hq.2.2.1.same (mup_n (by omega))) (hq.2.2.2.same (mup_n (by omega)))) (mup_s _ _ _ _) (frm_mup ⟨by omega, by omega⟩)
end PLH
