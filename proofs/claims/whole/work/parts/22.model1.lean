/-! ===== the model: memory ===== -/
def isM (N : Nat) (sh : Nat → ShT) : Prop := 285 ≤ N ∧ sh 273 = sO 8 [fR 274, fI, fR 275, fI, fR 276, fI, fR 277, fR 278, fI, fR 279, fR 280, fI, fR 281, fI, fR 282, fR 283, fR 284, fL] ∧ sh 274 = sI 177 ∧ sh 275 = sI 1062 ∧ sh 276 = sI 60 ∧ sh 277 = sI 41 ∧ sh 278 = sI 41 ∧ sh 279 = sI 40 ∧ sh 280 = sI 40 ∧ sh 281 = sI 40 ∧ sh 282 = sI 9 ∧ sh 283 = sI 40 ∧ sh 284 = sI 40
def frK (a b : List Nat) (μ μ' : Mem) : Prop := (∀ i, i ≠ 273 → i ∉ a → μ' i = μ i) ∧ ∀ k, k ∉ b → μ' 273 k = μ 273 k
theorem frK.rf {a b : List Nat} {μ : Mem} : frK a b μ μ := ⟨fun _ _ _ => rfl, fun _ _ => rfl⟩
theorem frK.tr {a b : List Nat} {μ μ1 μ2 : Mem} (h : frK a b μ μ1) (g : frK a b μ1 μ2) : frK a b μ μ2 := ⟨fun i x y => (g.1 i x y).trans (h.1 i x y), fun k x => (g.2 k x).trans (h.2 k x)⟩
theorem frK.wid {a b a' b' : List Nat} {μ μ1 : Mem} (h : frK a b μ μ1) (ha : ∀ x ∈ a, x ∈ a') (hb : ∀ x ∈ b, x ∈ b') : frK a' b' μ μ1 := ⟨fun i x y => h.1 i x (fun q => y (ha i q)), fun k x => h.2 k (fun q => x (hb k q))⟩
theorem frK_a {μ : Mem} {i k : Nat} {v : Int} (h : i ≠ 273) : frK [i] [] μ (mup μ i k v) := ⟨fun j _ y => mup_n (fun q => y (by rw [q]; exact List.mem_singleton.mpr rfl)), fun k _ => by rw [mup_n (fun q => h q.symm)]⟩
theorem frK_f {μ : Mem} {k : Nat} {v : Int} : frK [] [k] μ (mup μ 273 k v) := ⟨fun j x _ => mup_n x, fun j x => mup_k (fun q => x (by rw [q]; exact List.mem_singleton.mpr rfl))⟩
def arr (μ : Mem) (i : Nat) (L : List Int) : Prop := ∀ k : Int, 0 ≤ k ∧ k < L.length → μ i k.toNat = rat L k
theorem arr.keep {a b : List Nat} {μ μ' : Mem} {i : Nat} {L : List Int} (h : arr μ i L) (f : frK a b μ μ') (h1 : i ≠ 273) (h2 : i ∉ a) : arr μ' i L := fun k hk => by rw [f.1 i h1 h2]; exact h k hk
theorem rat_snoc {L : List Int} {v k : Int} : rat (L ++ [v]) k = if k = L.length then v else rat L k := by
  unfold rat
  rw [List.length_append, List.length_singleton]
  by_cases h : k = L.length
  · subst h
    rw [if_pos (by omega), if_pos rfl]
    unfold List.getD
    rw [List.getElem?_append_right (by omega)]
    simp
  · rw [if_neg h]
    by_cases h2 : 0 ≤ k ∧ k < L.length
    · rw [if_pos h2, if_pos (by omega)]
      unfold List.getD
      rw [List.getElem?_append_left (by omega)]
    · rw [if_neg h2, if_neg (by omega)]
theorem arr.push {μ : Mem} {i : Nat} {L : List Int} {v : Int} (h : arr μ i L) : arr (mup μ i L.length v) i (L ++ [v]) := fun k hk => by
  rw [List.length_append, List.length_singleton] at hk
  rw [rat_snoc]
  by_cases e : k = L.length
  · rw [if_pos e, e, Int.toNat_natCast, mup_s]
  · rw [if_neg e, mup_k (by omega), h k (by omega)]
theorem arr.set {μ : Mem} {i : Nat} {L : List Int} {s v : Int} (h : arr μ i L) (hs : 0 ≤ s ∧ s < L.length) : arr (mup μ i s.toNat v) i (L.set s.toNat v) := fun k hk => by
  rw [List.length_set] at hk
  rw [rat_set hs hk]
  by_cases e : k = s
  · rw [if_pos e, e, mup_s]
  · rw [if_neg e, mup_k (by omega), h k hk]
theorem rat_erase {L : List Int} {p k : Int} (hp : 0 ≤ p ∧ p < L.length) (hk : 0 ≤ k ∧ k + 1 < L.length) : rat (L.eraseIdx p.toNat) k = if k < p then rat L k else rat L (k + 1) := by
  have e1 : (L.eraseIdx p.toNat).length = L.length - 1 := by rw [List.length_eraseIdx, if_pos (by omega)]
  have e2 : rat (L.eraseIdx p.toNat) k = (L.eraseIdx p.toNat).getD k.toNat 0 := by unfold rat; rw [if_pos (by omega)]
  have e3 : rat L k = L.getD k.toNat 0 := by unfold rat; rw [if_pos (by omega)]
  have e4 : rat L (k + 1) = L.getD (k.toNat + 1) 0 := by unfold rat; rw [if_pos (by omega), show (k + 1).toNat = k.toNat + 1 by omega]
  rw [e2, e3, e4]
  unfold List.getD
  rw [List.getElem?_eraseIdx]
  by_cases e : k < p
  · rw [if_pos e, if_pos (by omega)]
  · rw [if_neg e, if_neg (by omega)]
/-- a state as the model's row of numbers holds it -/
def zR (f : Nat → Int) (xs ys : List Int) (C : List (List Int)) (S : List Int) : Prop :=
  (∀ s : Int, 0 ≤ s ∧ s < 5 → f s.toNat = rat S s) ∧ f 5 = (xs.length : Int) ∧ f 6 = (C.length : Int) ∧
  (∀ k : Int, 0 ≤ k ∧ k < xs.length → f (7 + 2 * k).toNat = rat xs k ∧ f (7 + 2 * k + 1).toNat = rat ys k) ∧
  ∀ c : Int, 0 ≤ c ∧ c < C.length → f (87 + 9 * c).toNat = ((C.getD c.toNat []).length : Int) ∧ ∀ j : Int, 0 ≤ j ∧ j < (C.getD c.toNat []).length → f (87 + 9 * c + 1 + j).toNat = rat (C.getD c.toNat []) j
def hasMP (μ : Mem) (xs ys : List Int) : Prop := μ 273 8 = (xs.length : Int) ∧ ys.length = xs.length ∧ arr μ 277 xs ∧ arr μ 278 ys
theorem hasMP.keep {a b : List Nat} {μ μ' : Mem} {xs ys : List Int} (h : hasMP μ xs ys) (f : frK a b μ μ') (h1 : 277 ∉ a) (h2 : 278 ∉ a) (h3 : 8 ∉ b) : hasMP μ' xs ys := ⟨by rw [f.2 8 h3]; exact h.1, h.2.1, h.2.2.1.keep f (by decide) h1, h.2.2.2.keep f (by decide) h2⟩
def hasR (μ : Mem) (q : List Int × List Int) : Prop := μ 273 11 = (q.1.length : Int) ∧ q.2.length = q.1.length ∧ arr μ 279 q.1 ∧ arr μ 280 q.2
theorem hasR.keep {a b : List Nat} {μ μ' : Mem} {q : List Int × List Int} (h : hasR μ q) (f : frK a b μ μ') (h1 : 279 ∉ a) (h2 : 280 ∉ a) (h3 : 11 ∉ b) : hasR μ' q := ⟨by rw [f.2 11 h3]; exact h.1, h.2.1, h.2.2.1.keep f (by decide) h1, h.2.2.2.keep f (by decide) h2⟩
def hasK (μ : Mem) (D : List Int) : Prop := μ 273 13 = (D.length : Int) ∧ arr μ 281 D
theorem hasK.keep {a b : List Nat} {μ μ' : Mem} {D : List Int} (h : hasK μ D) (f : frK a b μ μ') (h1 : 281 ∉ a) (h3 : 13 ∉ b) : hasK μ' D := ⟨by rw [f.2 13 h3]; exact h.1, h.2.keep f (by decide) h1⟩
section PK
variable {G : GT} {l : Launch} {N : Nat} {sh : Nat → ShT} {μ μ' : Mem} {xs ys S D Ln : List Int} {C : List (List Int)}
theorem zR.keep {a b : List Nat} (h : zR (μ 274) xs ys C S) (f : frK a b μ μ') (h1 : 274 ∉ a) : zR (μ' 274) xs ys C S := by rw [f.1 274 (by decide) h1]; exact h
variable {v lo hi : Int}
theorem t_within (hst : l.stackTraces = false) (hv : R32 v) (hlo : R32 lo) (hhi : R32 hi) : Zi G l N sh M_X8_within [vI v, vI lo, vI hi] μ (fun r μ' => r = bI (decide (lo ≤ v ∧ v ≤ hi)) ∧ μ' = μ) := by
  refine Fx.of hst rfl (by decide +kernel) (Nat.le_of_ble_eq_true rfl) rfl ?_
  refine VW.iload_n dX8_within_0 rfl ?_
  refine VW.iload_n dX8_within_1 rfl ?_
  refine VW.icmp_lt 14 ⟨by omega, by omega⟩ ⟨by omega, by omega⟩ dX8_within_2 (by decide) (fun c2 => ?_) (fun c2 => ?_)
  · refine VW.iconst dX8_within_14 ?_
    refine VW.ireturn dX8_within_15 rfl rfl ?_
    refine fxP.ii ⟨?_, rfl⟩
    unfold bI
    first | (rw [if_pos (by rw [decide_eq_true_eq]; omega)]; done) | (rw [if_neg (by rw [decide_eq_true_eq]; omega)]; done)
  · refine VW.iload_n dX8_within_5 rfl ?_
    refine VW.iload_n dX8_within_6 rfl ?_
    refine VW.icmp_gt 14 ⟨by omega, by omega⟩ ⟨by omega, by omega⟩ dX8_within_7 (by decide) (fun c7 => ?_) (fun c7 => ?_)
    · refine VW.iconst dX8_within_14 ?_
      refine VW.ireturn dX8_within_15 rfl rfl ?_
      refine fxP.ii ⟨?_, rfl⟩
      unfold bI
      first | (rw [if_pos (by rw [decide_eq_true_eq]; omega)]; done) | (rw [if_neg (by rw [decide_eq_true_eq]; omega)]; done)
    · refine VW.iconst dX8_within_10 ?_
      refine VW.goto 15 dX8_within_11 (by decide) ?_
      refine VW.ireturn dX8_within_15 rfl rfl ?_
      refine fxP.ii ⟨?_, rfl⟩
      unfold bI
      first | (rw [if_pos (by rw [decide_eq_true_eq]; omega)]; done) | (rw [if_neg (by rw [decide_eq_true_eq]; omega)]; done)
theorem t_size (hst : l.stackTraces = false) (hv : -100000 ≤ v ∧ v ≤ 100000) : Zi G l N sh M_X8_size [vI v] μ (fun r μ' => r = iabs v ∧ μ' = μ) := by
  refine Fx.of hst rfl (by decide +kernel) (Nat.le_of_ble_eq_true rfl) rfl ?_
  refine VW.iload_n dX8_size_0 rfl ?_
  refine VW.if_ge 9 ⟨by omega, by omega⟩ dX8_size_1 (by decide) (fun c1 => ?_) (fun c1 => ?_)
  · refine VW.iload_n dX8_size_9 rfl ?_
    refine VW.ireturn dX8_size_10 rfl rfl ?_
    refine fxP.ii ⟨?_, rfl⟩
    unfold iabs
    first | (rw [if_pos (by omega)]; done) | (rw [if_neg (by omega)]; done)
  · refine VW.iload_n dX8_size_4 rfl ?_
    refine VW.ineg dX8_size_5 ?_
    refine VW.goto 10 dX8_size_6 (by decide) ?_
    refine VW.ireturn dX8_size_10 rfl rfl ?_
    refine fxP.ii ⟨?_, rfl⟩
    unfold iabs
    first | (rw [if_pos (by omega)]; done) | (rw [if_neg (by omega)]; done)
theorem t_greater (hst : l.stackTraces = false) (hv : R32 v) (hlo : R32 lo) : Zi G l N sh M_X8_greater [vI v, vI lo] μ (fun r μ' => r = max v lo ∧ μ' = μ) := by
  refine Fx.of hst rfl (by decide +kernel) (Nat.le_of_ble_eq_true rfl) rfl ?_
  refine VW.iload_n dX8_greater_0 rfl ?_
  refine VW.iload_n dX8_greater_1 rfl ?_
  refine VW.icmp_le 9 ⟨by omega, by omega⟩ ⟨by omega, by omega⟩ dX8_greater_2 (by decide) (fun c2 => ?_) (fun c2 => ?_)
  · refine VW.iload_n dX8_greater_9 rfl ?_
    refine VW.ireturn dX8_greater_10 rfl rfl ?_
    refine fxP.ii ⟨?_, rfl⟩
    omega
  · refine VW.iload_n dX8_greater_5 rfl ?_
    refine VW.goto 10 dX8_greater_6 (by decide) ?_
    refine VW.ireturn dX8_greater_10 rfl rfl ?_
    refine fxP.ii ⟨?_, rfl⟩
    omega
theorem bR2 (b : Bool) : R32 (bI b) := ⟨by have := bI_b b; omega, by have := bI_b b; omega⟩
theorem bI0d {p : Prop} [Decidable p] : bI (decide p) = 0 ↔ ¬ p := by rw [bI0, decide_eq_true_eq]
theorem t_isOnLattice (hst : l.stackTraces = false) (hv : R32 v) (hlo : R32 lo) : Zi G l N sh M_X8_isOnLattice [vI v, vI lo] μ (fun r μ' => r = bI (onLat v lo) ∧ μ' = μ) := by
  refine Fx.of hst rfl (by decide +kernel) (Nat.le_of_ble_eq_true rfl) rfl ?_
  refine VW.iload_n dX8_isOnLattice_0 rfl ?_
  refine VW.iconst dX8_isOnLattice_1 ?_
  refine VW.bipush dX8_isOnLattice_2 rfl ?_
  refine VW.pS3 cs_X8_isOnLattice_X8_within dX8_isOnLattice_4 (Nat.le_of_ble_eq_true rfl) (t_within hst ⟨by omega, by omega⟩ ⟨by omega, by omega⟩ ⟨by omega, by omega⟩) ?_
  refine VW.if_eq 24 (bR2 _) dX8_isOnLattice_7 (by decide) (fun c7 => ?_) (fun c7 => ?_)
  · first | rw [bI0d] at c17 | rw [bI0d] at c7
    refine VW.iconst dX8_isOnLattice_24 ?_
    refine VW.ireturn dX8_isOnLattice_25 rfl rfl ?_
    refine fxP.ii ⟨?_, rfl⟩
    unfold bI
    first | (rw [if_pos (by unfold onLat; rw [decide_eq_true_eq]; omega)]; done) | (rw [if_neg (by unfold onLat; rw [decide_eq_true_eq]; omega)]; done)
  · refine VW.iload_n dX8_isOnLattice_10 rfl ?_
    refine VW.iconst dX8_isOnLattice_11 ?_
    refine VW.bipush dX8_isOnLattice_12 rfl ?_
    refine VW.pS3 cs_X8_isOnLattice_X8_within dX8_isOnLattice_14 (Nat.le_of_ble_eq_true rfl) (t_within hst ⟨by omega, by omega⟩ ⟨by omega, by omega⟩ ⟨by omega, by omega⟩) ?_
    refine VW.if_eq 24 (bR2 _) dX8_isOnLattice_17 (by decide) (fun c17 => ?_) (fun c17 => ?_)
    · first | rw [bI0d] at c17 | rw [bI0d] at c7
      refine VW.iconst dX8_isOnLattice_24 ?_
      refine VW.ireturn dX8_isOnLattice_25 rfl rfl ?_
      refine fxP.ii ⟨?_, rfl⟩
      unfold bI
      first | (rw [if_pos (by unfold onLat; rw [decide_eq_true_eq]; omega)]; done) | (rw [if_neg (by unfold onLat; rw [decide_eq_true_eq]; omega)]; done)
    · rw [bI0d] at c7 c17
      refine VW.iconst dX8_isOnLattice_20 ?_
      refine VW.goto 25 dX8_isOnLattice_21 (by decide) ?_
      refine VW.ireturn dX8_isOnLattice_25 rfl rfl ?_
      refine fxP.ii ⟨?_, rfl⟩
      unfold bI
      first | (rw [if_pos (by unfold onLat; rw [decide_eq_true_eq]; omega)]; done) | (rw [if_neg (by unfold onLat; rw [decide_eq_true_eq]; omega)]; done)
theorem t_isDirection (hst : l.stackTraces = false) (hv : R32 v) : Zi G l N sh M_X8_isDirection [vI v] μ (fun r μ' => r = bI (decide (0 ≤ v ∧ v ≤ 7)) ∧ μ' = μ) := by
  refine Fx.of hst rfl (by decide +kernel) (Nat.le_of_ble_eq_true rfl) rfl ?_
  refine VW.iload_n dX8_isDirection_0 rfl ?_
  refine VW.iconst dX8_isDirection_1 ?_
  refine VW.bipush dX8_isDirection_2 rfl ?_
  refine VW.pS3 cs_X8_isDirection_X8_within dX8_isDirection_4 (Nat.le_of_ble_eq_true rfl) (t_within hst ⟨by omega, by omega⟩ ⟨by omega, by omega⟩ ⟨by omega, by omega⟩) ?_
  refine VW.ireturn dX8_isDirection_7 rfl (nb _ (by have := bI_b (decide (0 ≤ v ∧ v ≤ 7)); omega)) ?_
  exact fxP.ii ⟨rfl, rfl⟩
theorem t_isSetting (hst : l.stackTraces = false) (hv : R32 v) : Zi G l N sh M_X8_isSetting [vI v] μ (fun r μ' => r = bI (decide (0 ≤ v ∧ v ≤ 4)) ∧ μ' = μ) := by
  refine Fx.of hst rfl (by decide +kernel) (Nat.le_of_ble_eq_true rfl) rfl ?_
  refine VW.iload_n dX8_isSetting_0 rfl ?_
  refine VW.iconst dX8_isSetting_1 ?_
  refine VW.iconst dX8_isSetting_2 ?_
  refine VW.pS3 cs_X8_isSetting_X8_within dX8_isSetting_3 (Nat.le_of_ble_eq_true rfl) (t_within hst ⟨by omega, by omega⟩ ⟨by omega, by omega⟩ ⟨by omega, by omega⟩) ?_
  refine VW.ireturn dX8_isSetting_6 rfl (nb _ (by have := bI_b (decide (0 ≤ v ∧ v ≤ 4)); omega)) ?_
  exact fxP.ii ⟨rfl, rfl⟩
theorem and7k : ∀ k : Fin 32, Int32.ofInt (k.val : Int) &&& Int32.ofInt 7 = Int32.ofInt ((k.val : Int) % 8) := by decide +kernel
theorem and7p {z : Int} (h : 0 ≤ z ∧ z < 32) : Int32.ofInt z &&& Int32.ofInt 7 = Int32.ofInt (z % 8) := by
  have e := and7k ⟨z.toNat, by omega⟩
  simp only [] at e
  rw [show ((z.toNat : Nat) : Int) = z by omega] at e
  exact e
theorem tbo3k : ∀ k : Fin 8, tbo 3 (k.val : Int) = (if k.val = 0 ∨ k.val = 1 ∨ k.val = 7 then 1 else if k.val = 2 ∨ k.val = 6 then 0 else -1) ∧ tbo 4 (k.val : Int) = tbo 3 (((k.val : Int) + 6) % 8) := by decide +kernel
theorem tbo34 {z : Int} (h : 0 ≤ z ∧ z < 8) : tbo 3 z = (if z = 0 ∨ z = 1 ∨ z = 7 then 1 else if z = 2 ∨ z = 6 then 0 else -1) ∧ tbo 4 z = tbo 3 ((z + 6) % 8) := by
  rcases (by omega : z = 0 ∨ z = 1 ∨ z = 2 ∨ z = 3 ∨ z = 4 ∨ z = 5 ∨ z = 6 ∨ z = 7) with rfl | rfl | rfl | rfl | rfl | rfl | rfl | rfl <;> decide +kernel
theorem t_across (hst : l.stackTraces = false) (hv : 0 ≤ v ∧ v < 32) : Zi G l N sh M_X8_across [vI v] μ (fun r μ' => r = tbo 3 (v % 8) ∧ μ' = μ) := by
  refine Fx.of hst rfl (by decide +kernel) (Nat.le_of_ble_eq_true rfl) rfl ?_
  refine VW.iload_n dX8_across_0 rfl ?_
  refine VW.bipush dX8_across_1 rfl ?_
  refine VW.iand (x := v % 8) dX8_across_3 (and7p hv) ?_
  refine VW.istore_n (lv' := [(0, _), (1, _)]) dX8_across_4 (by decide) rfl ?_
  refine VW.iload_n dX8_across_5 rfl ?_
  refine VW.if_eq 20 ⟨by omega, by omega⟩ dX8_across_6 (by decide) (fun c6 => ?_) (fun c6 => ?_)
  · refine VW.iconst dX8_across_20 ?_
    refine VW.goto 40 dX8_across_21 (by decide) ?_
    refine VW.ireturn dX8_across_40 rfl rfl ?_
    refine fxP.ii ⟨?_, rfl⟩
    rw [(tbo34 (z := v % 8) (by omega)).1]
    first | (rw [if_pos (by omega)]; done) | (rw [if_neg (by omega), if_pos (by omega)]; done) | (rw [if_neg (by omega), if_neg (by omega)]; done)
  · refine VW.iload_n dX8_across_9 rfl ?_
    refine VW.iconst dX8_across_10 ?_
    refine VW.icmp_eq 20 ⟨by omega, by omega⟩ ⟨by omega, by omega⟩ dX8_across_11 (by decide) (fun c11 => ?_) (fun c11 => ?_)
    · refine VW.iconst dX8_across_20 ?_
      refine VW.goto 40 dX8_across_21 (by decide) ?_
      refine VW.ireturn dX8_across_40 rfl rfl ?_
      refine fxP.ii ⟨?_, rfl⟩
      rw [(tbo34 (z := v % 8) (by omega)).1]
      first | (rw [if_pos (by omega)]; done) | (rw [if_neg (by omega), if_pos (by omega)]; done) | (rw [if_neg (by omega), if_neg (by omega)]; done)
    · refine VW.iload_n dX8_across_14 rfl ?_
      refine VW.bipush dX8_across_15 rfl ?_
      refine VW.icmp_ne 24 ⟨by omega, by omega⟩ ⟨by omega, by omega⟩ dX8_across_17 (by decide) (fun c17 => ?_) (fun c17 => ?_)
      · refine VW.iload_n dX8_across_24 rfl ?_
        refine VW.iconst dX8_across_25 ?_
        refine VW.icmp_eq 35 ⟨by omega, by omega⟩ ⟨by omega, by omega⟩ dX8_across_26 (by decide) (fun c26 => ?_) (fun c26 => ?_)
        · refine VW.iconst dX8_across_35 ?_
          refine VW.goto 40 dX8_across_36 (by decide) ?_
          refine VW.ireturn dX8_across_40 rfl rfl ?_
          refine fxP.ii ⟨?_, rfl⟩
          rw [(tbo34 (z := v % 8) (by omega)).1]
          first | (rw [if_pos (by omega)]; done) | (rw [if_neg (by omega), if_pos (by omega)]; done) | (rw [if_neg (by omega), if_neg (by omega)]; done)
        · refine VW.iload_n dX8_across_29 rfl ?_
          refine VW.bipush dX8_across_30 rfl ?_
          refine VW.icmp_ne 39 ⟨by omega, by omega⟩ ⟨by omega, by omega⟩ dX8_across_32 (by decide) (fun c32 => ?_) (fun c32 => ?_)
          · refine VW.iconst dX8_across_39 ?_
            refine VW.ireturn dX8_across_40 rfl rfl ?_
            refine fxP.ii ⟨?_, rfl⟩
            rw [(tbo34 (z := v % 8) (by omega)).1]
            first | (rw [if_pos (by omega)]; done) | (rw [if_neg (by omega), if_pos (by omega)]; done) | (rw [if_neg (by omega), if_neg (by omega)]; done)
          · refine VW.iconst dX8_across_35 ?_
            refine VW.goto 40 dX8_across_36 (by decide) ?_
            refine VW.ireturn dX8_across_40 rfl rfl ?_
            refine fxP.ii ⟨?_, rfl⟩
            rw [(tbo34 (z := v % 8) (by omega)).1]
            first | (rw [if_pos (by omega)]; done) | (rw [if_neg (by omega), if_pos (by omega)]; done) | (rw [if_neg (by omega), if_neg (by omega)]; done)
      · refine VW.iconst dX8_across_20 ?_
        refine VW.goto 40 dX8_across_21 (by decide) ?_
        refine VW.ireturn dX8_across_40 rfl rfl ?_
        refine fxP.ii ⟨?_, rfl⟩
        rw [(tbo34 (z := v % 8) (by omega)).1]
        first | (rw [if_pos (by omega)]; done) | (rw [if_neg (by omega), if_pos (by omega)]; done) | (rw [if_neg (by omega), if_neg (by omega)]; done)
theorem t_down (hst : l.stackTraces = false) (hv : 0 ≤ v ∧ v < 26) : Zi G l N sh M_X8_down [vI v] μ (fun r μ' => r = tbo 4 (v % 8) ∧ μ' = μ) := by
  refine Fx.of hst rfl (by decide +kernel) (Nat.le_of_ble_eq_true rfl) rfl ?_
  refine VW.iload_n dX8_down_0 rfl ?_
  refine VW.bipush dX8_down_1 rfl ?_
  refine VW.iadd dX8_down_3 ?_
  refine VW.pS1 cs_X8_down_X8_across dX8_down_4 (Nat.le_of_ble_eq_true rfl) (t_across hst (v := v + 6) (by omega)) ?_
  refine VW.ireturn dX8_down_7 rfl rfl ?_
  refine fxP.ii ⟨?_, rfl⟩
  rw [(tbo34 (z := v % 8) (by omega)).2]
  congr 1
  omega
theorem t_eighths (hst : l.stackTraces = false) (hv : 0 ≤ v ∧ v ≤ 7) (hlo : 0 ≤ lo ∧ lo ≤ 7) : Zi G l N sh M_X8_eighths [vI v, vI lo] μ (fun r μ' => r = eig v lo ∧ μ' = μ) := by
  refine Fx.of hst rfl (by decide +kernel) (Nat.le_of_ble_eq_true rfl) rfl ?_
  refine VW.iload_n dX8_eighths_0 rfl ?_
  refine VW.iload_n dX8_eighths_1 rfl ?_
  refine VW.isub dX8_eighths_2 ?_
  refine VW.pS1 cs_X8_eighths_X8_size dX8_eighths_3 (Nat.le_of_ble_eq_true rfl) (t_size hst (by omega)) ?_
  have hab : iabs (v - lo) = v - lo ∨ iabs (v - lo) = lo - v := by unfold iabs; split <;> omega
  have hab2 : 0 ≤ iabs (v - lo) := by unfold iabs; split <;> omega
  refine VW.istore_n (lv' := [(0, _), (1, _), (2, _)]) dX8_eighths_6 (by decide) rfl ?_
  refine VW.iload_n dX8_eighths_7 rfl ?_
  refine VW.iconst dX8_eighths_8 ?_
  refine VW.icmp_le 19 ⟨by omega, by omega⟩ ⟨by omega, by omega⟩ dX8_eighths_9 (by decide) (fun c9 => ?_) (fun c9 => ?_)
  · refine VW.iload_n dX8_eighths_19 rfl ?_
    refine VW.ireturn dX8_eighths_20 rfl rfl ?_
    refine fxP.ii ⟨?_, rfl⟩
    unfold eig
    split <;> omega
  · refine VW.bipush dX8_eighths_12 rfl ?_
    refine VW.iload_n dX8_eighths_14 rfl ?_
    refine VW.isub dX8_eighths_15 ?_
    refine VW.goto 20 dX8_eighths_16 (by decide) ?_
    refine VW.ireturn dX8_eighths_20 rfl rfl ?_
    refine fxP.ii ⟨?_, rfl⟩
    unfold eig
    split <;> omega
def dbF (sx sy : Int) : Nat → Int → Int → Int
  | 0, _, b => b
  | n + 1, d, b => dbF sx sy n (d + 1) (if tbo 3 d = sx ∧ tbo 4 d = sy then d else b)
theorem dbF_dir {x y : Int} : dbF (sgn x) (sgn y) 8 0 (-1) = dirF (sgn x) (sgn y) 8 0 := by
  have hx := sgn_b x
  have hy := sgn_b y
  generalize sgn x = a at *
  generalize sgn y = b at *
  rcases (by omega : a = -1 ∨ a = 0 ∨ a = 1) with rfl | rfl | rfl <;> rcases (by omega : b = -1 ∨ b = 0 ∨ b = 1) with rfl | rfl | rfl <;> decide +kernel
theorem fit_p {a x : Int} (h1 : a * iabs x = x) (h2 : a = 0 ↔ x = 0) (ha : -1 ≤ a ∧ a ≤ 1) : a = sgn x := by
  rcases (by omega : x < 0 ∨ x = 0 ∨ 0 < x) with h | h | h
  · have e1 : sgn x = -1 := if_pos h
    have e2 : iabs x = -x := if_neg (by omega)
    rw [e2] at h1
    rw [e1]
    rcases (by omega : a = -1 ∨ a = 0 ∨ a = 1) with rfl | rfl | rfl <;> omega
  · subst h
    rw [h2.mpr rfl]
    decide
  · have e1 : sgn x = 1 := (if_neg (by omega)).trans (if_neg (by omega))
    have e2 : iabs x = x := if_pos (by omega)
    rw [e2] at h1
    rw [e1]
    rcases (by omega : a = -1 ∨ a = 0 ∨ a = 1) with rfl | rfl | rfl <;> omega
theorem fit_s (x : Int) : sgn x * iabs x = x ∧ (sgn x = 0 ↔ x = 0) := by
  rcases (by omega : x < 0 ∨ x = 0 ∨ 0 < x) with h | h | h
  · have e1 : sgn x = -1 := if_pos h
    have e2 : iabs x = -x := if_neg (by omega)
    rw [e1, e2]
    omega
  · subst h
    decide
  · have e1 : sgn x = 1 := (if_neg (by omega)).trans (if_neg (by omega))
    have e2 : iabs x = x := if_pos (by omega)
    rw [e1, e2]
    omega
end PK
