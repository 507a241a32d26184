/-! ===== Row: a row of numbers ===== -/
def isRow (N : Nat) (sh : Nat → ShT) (a cap : Nat) : Prop := a < N ∧ sh a = sO 4 [fR (a + 1), fI] ∧ a + 1 < N ∧ sh (a + 1) = sI cap ∧ cap ≤ 1000
def wfR (μ : Mem) (a cap : Nat) : Prop := 0 ≤ μ a 1 ∧ μ a 1 ≤ cap
def rowOf (μ : Mem) (a : Nat) : List Int := (List.range (μ a 1).toNat).map (μ (a + 1))
def rat (L : List Int) (i : Int) : Int := if 0 ≤ i ∧ i < L.length then L.getD i.toNat 0 else -1
def only (μ μ' : Mem) (a : Nat) : Prop := ∀ i, i ≠ a → i ≠ a + 1 → μ' i = μ i
theorem mup_s (μ : Mem) (a k : Nat) (z : Int) : mup μ a k z a k = z := by simp [mup, fup]
theorem mup_n {μ : Mem} {a k i : Nat} {z : Int} (h : i ≠ a) : mup μ a k z i = μ i := by simp [mup, fup, h]
theorem mup_k {μ : Mem} {a k j : Nat} {z : Int} (h : j ≠ k) : mup μ a k z a j = μ a j := by simp [mup, fup, h]
theorem rowOf_len (μ : Mem) (a : Nat) : (rowOf μ a).length = (μ a 1).toNat := by simp [rowOf]
theorem rowOf_get {μ : Mem} {a i : Nat} (h : i < (μ a 1).toNat) : (rowOf μ a).getD i 0 = μ (a + 1) i := by simp [rowOf, h]
theorem rowOf_get? (μ : Mem) (a i : Nat) : (rowOf μ a)[i]? = if i < (μ a 1).toNat then some (μ (a + 1) i) else none := by
  by_cases h : i < (μ a 1).toNat <;> simp [rowOf, h]
theorem rowOf_ext {μ : Mem} {a : Nat} {L : List Int} (h1 : μ a 1 = L.length) (h2 : ∀ i, i < L.length → some (μ (a + 1) i) = L[i]?) : rowOf μ a = L := by
  apply List.ext_getElem?
  intro i
  rw [rowOf_get?, h1]
  by_cases h : i < L.length
  · rw [if_pos (by omega)]; exact h2 i h
  · rw [if_neg (by omega)]; simp at h; simp [h]
theorem rowOf_same {μ μ' : Mem} {a : Nat} (h1 : μ' a = μ a) (h2 : μ' (a + 1) = μ (a + 1)) : rowOf μ' a = rowOf μ a := by unfold rowOf; rw [h1, h2]
theorem rat_row {μ : Mem} {a : Nat} (hw : 0 ≤ μ a 1) {i : Int} : rat (rowOf μ a) i = if 0 ≤ i ∧ i < μ a 1 then μ (a + 1) i.toNat else -1 := by
  unfold rat
  rw [rowOf_len]
  by_cases h : 0 ≤ i ∧ i < μ a 1
  · rw [if_pos h, if_pos (by omega), rowOf_get (by omega)]
  · rw [if_neg h, if_neg (by omega)]
theorem nb (a : Int) (h : a = 0 ∨ a = 1) : narrow .boolean (vI a) = vI a := by
  rcases h with rfl | rfl <;> rfl
/-- what put, add, cut leave -/
def mPut (μ : Mem) (a : Nat) (i v : Int) : Mem := if 0 ≤ i ∧ i < μ a 1 then mup μ (a + 1) i.toNat v else μ
def mAdd (μ : Mem) (a cap : Nat) (v : Int) : Mem := if μ a 1 < cap then mup (mup μ (a + 1) (μ a 1).toNat v) a 1 (μ a 1 + 1) else μ
def mCut (μ : Mem) (a : Nat) (n : Int) : Mem := if 0 ≤ n ∧ n < μ a 1 then mup μ a 1 n else μ
def shl1 (f : Nat → Int) (p j : Int) : Nat → Int := fun k => if p ≤ k ∧ (k : Int) + 1 < j then f (k + 1) else f k
def mRem (μ : Mem) (a : Nat) (p : Int) : Mem := if 0 ≤ p ∧ p < μ a 1 then mup (fup μ (a + 1) (shl1 (μ (a + 1)) p (μ a 1))) a 1 (μ a 1 - 1) else μ
def mCpI (μ : Mem) (a b : Nat) (i : Int) : Mem := mup (fup μ (a + 1) (fun k => if (k : Int) < i then μ (b + 1) k else μ (a + 1) k)) a 1 i
def mCpy (μ : Mem) (a b : Nat) : Mem := mCpI μ a b (μ b 1)
section ROW
variable {G : GT} {l : Launch} {N : Nat} {sh : Nat → ShT} {a b cap : Nat} {μ : Mem}
theorem s_X4_held (hst : l.stackTraces = false) (hr : isRow N sh a cap) : Zi G l N sh M_X4_held [.ref (gB G + a)] μ (fun r μ' => r = μ a 1 ∧ μ' = μ) := by
  refine Fx.of hst rfl (by decide +kernel) (Nat.le_of_ble_eq_true rfl) rfl ?_
  refine VW.aload_n dX4_held_0 rfl ?_
  refine VW.getI dX4_held_1 fa_X4_15 hr.1 hr.2.1 rfl ?_
  refine VW.ireturn dX4_held_4 rfl rfl ?_
  exact fxP.ii ⟨rfl, rfl⟩
theorem s_X4_at (hst : l.stackTraces = false) (hr : isRow N sh a cap) (hw : wfR μ a cap) {i : Int} (hi : R32 i) : Zi G l N sh M_X4_at [.ref (gB G + a), vI i] μ (fun r μ' => r = rat (rowOf μ a) i ∧ μ' = μ) := by
  refine Fx.of hst rfl (by decide +kernel) (Nat.le_of_ble_eq_true rfl) rfl ?_
  have hw1 := hw.1
  have hw2 := hw.2
  have hc := hr.2.2.2.2
  refine VW.iload_n dX4_at_0 rfl ?_
  refine VW.if_lt 30 ⟨by omega, by omega⟩ dX4_at_1 (by decide) (fun c1 => ?_) (fun c1 => ?_)
  · refine VW.iconst dX4_at_30 ?_
    refine VW.ireturn dX4_at_31 rfl rfl ?_
    refine fxP.ii ⟨?_, rfl⟩
    rw [rat_row hw1]
    rw [if_neg (by omega)]
  · refine VW.iload_n dX4_at_4 rfl ?_
    refine VW.aload_n dX4_at_5 rfl ?_
    refine VW.getI dX4_at_6 fa_X4_15 hr.1 hr.2.1 rfl ?_
    refine VW.icmp_ge 30 ⟨by omega, by omega⟩ ⟨by omega, by omega⟩ dX4_at_9 (by decide) (fun c9 => ?_) (fun c9 => ?_)
    · refine VW.iconst dX4_at_30 ?_
      refine VW.ireturn dX4_at_31 rfl rfl ?_
      refine fxP.ii ⟨?_, rfl⟩
      rw [rat_row hw1]
      rw [if_neg (by omega)]
    · refine VW.iload_n dX4_at_12 rfl ?_
      refine VW.aload_n dX4_at_13 rfl ?_
      refine VW.getR dX4_at_14 fa_X4_9 hr.1 hr.2.1 rfl ?_
      refine VW.alenI dX4_at_17 hr.2.2.1 hr.2.2.2.1 ?_
      refine VW.icmp_ge 30 ⟨by omega, by omega⟩ ⟨by omega, by omega⟩ dX4_at_18 (by decide) (fun c18 => ?_) (fun c18 => ?_)
      · refine VW.iconst dX4_at_30 ?_
        refine VW.ireturn dX4_at_31 rfl rfl ?_
        refine fxP.ii ⟨?_, rfl⟩
        rw [rat_row hw1]
        rw [if_neg (by omega)]
      · refine VW.aload_n dX4_at_21 rfl ?_
        refine VW.getR dX4_at_22 fa_X4_9 hr.1 hr.2.1 rfl ?_
        refine VW.iload_n dX4_at_25 rfl ?_
        refine VW.iaload dX4_at_26 hr.2.2.1 hr.2.2.2.1 (by omega) (by omega) (by have := hr.2.2.2.2; omega) ?_
        refine VW.goto 31 dX4_at_27 (by decide) ?_
        refine VW.ireturn dX4_at_31 rfl rfl ?_
        refine fxP.ii ⟨?_, rfl⟩
        rw [rat_row hw1]
        rw [if_pos (by omega)]
theorem s_X4_put (hst : l.stackTraces = false) (hr : isRow N sh a cap) (hw : wfR μ a cap) {i v : Int} (hi : R32 i) : Zv G l N sh M_X4_put [.ref (gB G + a), vI i, vI v] μ (fun μ' => μ' = mPut μ a i v) := by
  refine Fx.of hst rfl (by decide +kernel) (Nat.le_of_ble_eq_true rfl) rfl ?_
  have hw1 := hw.1
  have hw2 := hw.2
  have hc := hr.2.2.2.2
  refine VW.iload_n dX4_put_0 rfl ?_
  refine VW.if_lt 28 ⟨by omega, by omega⟩ dX4_put_1 (by decide) (fun c1 => ?_) (fun c1 => ?_)
  · refine VW.vreturn dX4_put_28 rfl ?_
    refine fxP.vv ?_
    unfold mPut
    first | (exfalso; omega; done) | (rw [if_pos (by omega)]; done) | (rw [if_neg (by omega)]; done)
  · refine VW.iload_n dX4_put_4 rfl ?_
    refine VW.aload_n dX4_put_5 rfl ?_
    refine VW.getI dX4_put_6 fa_X4_15 hr.1 hr.2.1 rfl ?_
    refine VW.icmp_ge 28 ⟨by omega, by omega⟩ ⟨by omega, by omega⟩ dX4_put_9 (by decide) (fun c9 => ?_) (fun c9 => ?_)
    · refine VW.vreturn dX4_put_28 rfl ?_
      refine fxP.vv ?_
      unfold mPut
      first | (exfalso; omega; done) | (rw [if_pos (by omega)]; done) | (rw [if_neg (by omega)]; done)
    · refine VW.iload_n dX4_put_12 rfl ?_
      refine VW.aload_n dX4_put_13 rfl ?_
      refine VW.getR dX4_put_14 fa_X4_9 hr.1 hr.2.1 rfl ?_
      refine VW.alenI dX4_put_17 hr.2.2.1 hr.2.2.2.1 ?_
      refine VW.icmp_ge 28 ⟨by omega, by omega⟩ ⟨by omega, by omega⟩ dX4_put_18 (by decide) (fun c18 => ?_) (fun c18 => ?_)
      · refine VW.vreturn dX4_put_28 rfl ?_
        refine fxP.vv ?_
        unfold mPut
        first | (exfalso; omega; done) | (rw [if_pos (by omega)]; done) | (rw [if_neg (by omega)]; done)
      · refine VW.aload_n dX4_put_21 rfl ?_
        refine VW.getR dX4_put_22 fa_X4_9 hr.1 hr.2.1 rfl ?_
        refine VW.iload_n dX4_put_25 rfl ?_
        refine VW.iload_n dX4_put_26 rfl ?_
        refine VW.iastore dX4_put_27 hr.2.2.1 hr.2.2.2.1 (by omega) (by omega) (by have := hr.2.2.2.2; omega) ?_
        refine VW.vreturn dX4_put_28 rfl ?_
        refine fxP.vv ?_
        unfold mPut
        first | (exfalso; omega; done) | (rw [if_pos (by omega)]; done) | (rw [if_neg (by omega)]; done)
theorem s_X4_add (hst : l.stackTraces = false) (hr : isRow N sh a cap) (hw : wfR μ a cap) {v : Int} : Zv G l N sh M_X4_add [.ref (gB G + a), vI v] μ (fun μ' => μ' = mAdd μ a cap v) := by
  refine Fx.of hst rfl (by decide +kernel) (Nat.le_of_ble_eq_true rfl) rfl ?_
  have hw1 := hw.1
  have hw2 := hw.2
  have hc := hr.2.2.2.2
  refine VW.aload_n dX4_add_0 rfl ?_
  refine VW.getI dX4_add_1 fa_X4_15 hr.1 hr.2.1 rfl ?_
  refine VW.if_lt 39 ⟨by omega, by omega⟩ dX4_add_4 (by decide) (fun c4 => ?_) (fun c4 => ?_)
  · refine VW.vreturn dX4_add_39 rfl ?_
    refine fxP.vv ?_
    unfold mAdd
    first | (exfalso; omega; done) | (rw [if_pos (by omega)]; rw [mup_n (by omega)]; done) | (rw [if_neg (by omega)]; done)
  · refine VW.aload_n dX4_add_7 rfl ?_
    refine VW.getI dX4_add_8 fa_X4_15 hr.1 hr.2.1 rfl ?_
    refine VW.aload_n dX4_add_11 rfl ?_
    refine VW.getR dX4_add_12 fa_X4_9 hr.1 hr.2.1 rfl ?_
    refine VW.alenI dX4_add_15 hr.2.2.1 hr.2.2.2.1 ?_
    refine VW.icmp_ge 39 ⟨by omega, by omega⟩ ⟨by omega, by omega⟩ dX4_add_16 (by decide) (fun c16 => ?_) (fun c16 => ?_)
    · refine VW.vreturn dX4_add_39 rfl ?_
      refine fxP.vv ?_
      unfold mAdd
      first | (exfalso; omega; done) | (rw [if_pos (by omega)]; rw [mup_n (by omega)]; done) | (rw [if_neg (by omega)]; done)
    · refine VW.aload_n dX4_add_19 rfl ?_
      refine VW.getR dX4_add_20 fa_X4_9 hr.1 hr.2.1 rfl ?_
      refine VW.aload_n dX4_add_23 rfl ?_
      refine VW.getI dX4_add_24 fa_X4_15 hr.1 hr.2.1 rfl ?_
      refine VW.iload_n dX4_add_27 rfl ?_
      refine VW.iastore dX4_add_28 hr.2.2.1 hr.2.2.2.1 (by omega) (by omega) (by have := hr.2.2.2.2; omega) ?_
      refine VW.aload_n dX4_add_29 rfl ?_
      refine VW.dup dX4_add_30 rfl ?_
      refine VW.getI dX4_add_31 fa_X4_15 hr.1 hr.2.1 rfl ?_
      refine VW.iconst dX4_add_34 ?_
      refine VW.iadd dX4_add_35 ?_
      refine VW.putI dX4_add_36 fp_X4_15 hr.1 hr.2.1 rfl ?_
      refine VW.vreturn dX4_add_39 rfl ?_
      refine fxP.vv ?_
      unfold mAdd
      first | (exfalso; omega; done) | (rw [if_pos (by omega)]; rw [mup_n (by omega)]; done) | (rw [if_neg (by omega)]; done)
theorem s_X4_cut (hst : l.stackTraces = false) (hr : isRow N sh a cap) (hw : wfR μ a cap) {i : Int} (hi : R32 i) : Zv G l N sh M_X4_cut [.ref (gB G + a), vI i] μ (fun μ' => μ' = mCut μ a i) := by
  refine Fx.of hst rfl (by decide +kernel) (Nat.le_of_ble_eq_true rfl) rfl ?_
  have hw1 := hw.1
  have hw2 := hw.2
  have hc := hr.2.2.2.2
  refine VW.iload_n dX4_cut_0 rfl ?_
  refine VW.if_lt 17 ⟨by omega, by omega⟩ dX4_cut_1 (by decide) (fun c1 => ?_) (fun c1 => ?_)
  · refine VW.vreturn dX4_cut_17 rfl ?_
    refine fxP.vv ?_
    unfold mCut
    first | (exfalso; omega; done) | (rw [if_pos (by omega)]; done) | (rw [if_neg (by omega)]; done)
  · refine VW.iload_n dX4_cut_4 rfl ?_
    refine VW.aload_n dX4_cut_5 rfl ?_
    refine VW.getI dX4_cut_6 fa_X4_15 hr.1 hr.2.1 rfl ?_
    refine VW.icmp_ge 17 ⟨by omega, by omega⟩ ⟨by omega, by omega⟩ dX4_cut_9 (by decide) (fun c9 => ?_) (fun c9 => ?_)
    · refine VW.vreturn dX4_cut_17 rfl ?_
      refine fxP.vv ?_
      unfold mCut
      first | (exfalso; omega; done) | (rw [if_pos (by omega)]; done) | (rw [if_neg (by omega)]; done)
    · refine VW.aload_n dX4_cut_12 rfl ?_
      refine VW.iload_n dX4_cut_13 rfl ?_
      refine VW.putI dX4_cut_14 fp_X4_15 hr.1 hr.2.1 rfl ?_
      refine VW.vreturn dX4_cut_17 rfl ?_
      refine fxP.vv ?_
      unfold mCut
      first | (exfalso; omega; done) | (rw [if_pos (by omega)]; done) | (rw [if_neg (by omega)]; done)
theorem s_X4_clear (hst : l.stackTraces = false) (hr : isRow N sh a cap) : Zv G l N sh M_X4_clear [.ref (gB G + a)] μ (fun μ' => μ' = mup μ a 1 0) := by
  refine Fx.of hst rfl (by decide +kernel) (Nat.le_of_ble_eq_true rfl) rfl ?_
  refine VW.aload_n dX4_clear_0 rfl ?_
  refine VW.iconst dX4_clear_1 ?_
  refine VW.putI dX4_clear_2 fp_X4_15 hr.1 hr.2.1 rfl ?_
  refine VW.vreturn dX4_clear_5 rfl ?_
  exact fxP.vv rfl
theorem sum_take (L : List Int) {i : Int} (h : 0 ≤ i ∧ i.toNat < L.length) : (L.take (i + 1).toNat).sum = (L.take i.toNat).sum + L.getD i.toNat 0 := by
  rw [show (i + 1).toNat = i.toNat + 1 by omega, List.take_add_one, List.sum_append, List.getElem?_eq_getElem h.2]
  simp [List.getD, h.2]
theorem lp_X4_sum (hst : l.stackTraces = false) (hr : isRow N sh a cap) (hw : wfR μ a cap) : ∀ (n : Nat) (i s : Int), 0 ≤ i ∧ i ≤ μ a 1 → μ a 1 - i < n → s = ((rowOf μ a).take i.toNat).sum → VW G l none M_X4_sum 4 [(0, .ref (gB G + a)), (1, vI s), (2, vI i)] [] (N, sh, μ) 0 0 (fxP N sh (oN (vN_i (fun r μ' => r = (rowOf μ a).sum ∧ μ' = μ)))) := by
  have hw1 := hw.1
  have hw2 := hw.2
  have hc := hr.2.2.2.2
  intro n
  induction n with
  | zero => intro i s h1 h2; omega
  | succ n ih =>
    intro i s h1 h2 hs
    refine VW.iload_n dX4_sum_4 rfl ?_
    refine VW.aload_n dX4_sum_5 rfl ?_
    refine VW.getI dX4_sum_6 fa_X4_15 hr.1 hr.2.1 rfl ?_
    refine VW.icmp_ge 26 ⟨by omega, by omega⟩ ⟨by omega, by omega⟩ dX4_sum_9 (by decide) (fun c9 => ?_) (fun c9 => ?_)
    · refine VW.iload_n dX4_sum_26 rfl ?_
      refine VW.ireturn dX4_sum_27 rfl rfl ?_
      refine fxP.ii ⟨?_, rfl⟩
      rw [hs, List.take_of_length_le (by rw [rowOf_len]; omega)]
    · refine VW.iload_n dX4_sum_12 rfl ?_
      refine VW.aload_n dX4_sum_13 rfl ?_
      refine VW.iload_n dX4_sum_14 rfl ?_
      refine VW.fiV1 cv_X4_sum_X4_at dX4_sum_15 (Nat.le_of_ble_eq_true rfl) hr.1 hr.2.1 (s_X4_at hst hr hw ⟨by omega, by omega⟩) (fun x μ1 hx => ?_)
      obtain ⟨hx, rfl⟩ := hx
      refine VW.iadd dX4_sum_18 ?_
      refine VW.istore_n (lv' := [(0, _), (1, _), (2, _)]) dX4_sum_19 (by decide) rfl ?_
      refine VW.iinc (lv' := [(0, _), (1, _), (2, _)]) dX4_sum_20 rfl (by decide) rfl ?_
      refine VW.goto 4 dX4_sum_23 (by decide) ?_
      exact ih (i + 1) _ (by omega) (by omega) (by rw [hs, hx, rat_row hw1, if_pos (by omega), sum_take _ (by rw [rowOf_len]; omega), rowOf_get (by omega)])
theorem s_X4_sum (hst : l.stackTraces = false) (hr : isRow N sh a cap) (hw : wfR μ a cap) : Zi G l N sh M_X4_sum [.ref (gB G + a)] μ (fun r μ' => r = (rowOf μ a).sum ∧ μ' = μ) := by
  refine Fx.of hst rfl (by decide +kernel) (Nat.le_of_ble_eq_true rfl) rfl ?_
  have hw1 := hw.1
  have hw2 := hw.2
  have hc := hr.2.2.2.2
  refine VW.iconst dX4_sum_0 ?_
  refine VW.istore_n (lv' := [(0, _), (1, _)]) dX4_sum_1 (by decide) rfl ?_
  refine VW.iconst dX4_sum_2 ?_
  refine VW.istore_n (lv' := [(0, _), (1, _), (2, _)]) dX4_sum_3 (by decide) rfl ?_
  exact lp_X4_sum hst hr hw ((μ a 1).toNat + 1) 0 0 (by omega) (by omega) (by simp)
theorem shl1_step (f : Nat → Int) {p j : Int} (h0 : 0 ≤ p) (h : p < j) : fup (shl1 f p j) (j - 1).toNat (shl1 f p j j.toNat) = shl1 f p (j + 1) := by
  funext k
  unfold fup shl1
  by_cases hk : k = (j - 1).toNat
  · rw [if_pos hk, if_neg (by omega), if_pos (by omega)]
    congr 1
    omega
  · rw [if_neg hk]
    by_cases h2 : p ≤ k ∧ (k : Int) + 1 < j
    · rw [if_pos h2, if_pos (by omega)]
    · rw [if_neg h2, if_neg (by omega)]
theorem shl1_0 (f : Nat → Int) (p : Int) : shl1 f p (p + 1) = f := by
  funext k
  unfold shl1
  rw [if_neg (by omega)]
theorem fup_fup {α : Type} (f : Nat → α) (k : Nat) (x y : α) : fup (fup f k x) k y = fup f k y := by
  funext j
  unfold fup
  by_cases h : j = k <;> simp [h]
theorem fup_id {α : Type} (f : Nat → α) (k : Nat) : fup f k (f k) = f := by
  funext j
  unfold fup
  by_cases h : j = k <;> simp [h]
theorem lp_X4_remove (hst : l.stackTraces = false) (hr : isRow N sh a cap) (hw : wfR μ a cap) {p : Int} (h0 : 0 ≤ p) (hp : p < μ a 1) : ∀ (n : Nat) (j : Int), p < j ∧ j ≤ μ a 1 → μ a 1 - j < n → VW G l none M_X4_remove 17 [(0, .ref (gB G + a)), (1, vI p), (2, vI j)] [] (N, sh, fup μ (a + 1) (shl1 (μ (a + 1)) p j)) 0 0 (fxP N sh (oN (vN_v (fun μ' => μ' = mRem μ a p)))) := by
  have hw1 := hw.1
  have hw2 := hw.2
  have hc := hr.2.2.2.2
  intro n
  induction n with
  | zero => intro j h1 h2; omega
  | succ n ih =>
    intro j h1 h2
    refine VW.iload_n dX4_remove_17 rfl ?_
    have hj1 : fup μ (a + 1) (shl1 (μ (a + 1)) p j) a = μ a := fup_n (by omega)
    have hwj : wfR (fup μ (a + 1) (shl1 (μ (a + 1)) p j)) a cap := ⟨by rw [hj1]; exact hw1, by rw [hj1]; exact hw2⟩
    refine VW.aload_n dX4_remove_18 rfl ?_
    refine VW.getI dX4_remove_19 fa_X4_15 hr.1 hr.2.1 rfl ?_
    rw [hj1]
    refine VW.icmp_ge 43 ⟨by omega, by omega⟩ ⟨by omega, by omega⟩ dX4_remove_22 (by decide) (fun c22 => ?_) (fun c22 => ?_)
    · refine VW.aload_n dX4_remove_43 rfl ?_
      refine VW.dup dX4_remove_44 rfl ?_
      refine VW.getI dX4_remove_45 fa_X4_15 hr.1 hr.2.1 rfl ?_
      refine VW.iconst dX4_remove_48 ?_
      refine VW.isub dX4_remove_49 ?_
      refine VW.putI dX4_remove_50 fp_X4_15 hr.1 hr.2.1 rfl ?_
      refine VW.vreturn dX4_remove_53 rfl ?_
      refine fxP.vv ?_
      unfold mRem
      rw [if_pos (by omega), fup_n (by omega), show j = μ a 1 by omega]
    · refine VW.aload_n dX4_remove_25 rfl ?_
      refine VW.iload_n dX4_remove_26 rfl ?_
      refine VW.iconst dX4_remove_27 ?_
      refine VW.isub dX4_remove_28 ?_
      refine VW.aload_n dX4_remove_29 rfl ?_
      refine VW.iload_n dX4_remove_30 rfl ?_
      refine VW.fiV1 cv_X4_remove_X4_at dX4_remove_31 (Nat.le_of_ble_eq_true rfl) hr.1 hr.2.1 (s_X4_at hst hr hwj ⟨by omega, by omega⟩) (fun x μ1 hx => ?_)
      obtain ⟨hx, rfl⟩ := hx
      refine VW.fvV2 cv_X4_remove_X4_put dX4_remove_34 (Nat.le_of_ble_eq_true rfl) hr.1 hr.2.1 (s_X4_put hst hr hwj ⟨by omega, by omega⟩) (fun μ1 hx2 => ?_)
      subst hx2
      refine VW.iinc (lv' := [(0, _), (1, _), (2, _)]) dX4_remove_37 rfl (by decide) rfl ?_
      refine VW.goto 17 dX4_remove_40 (by decide) ?_
      rw [show mPut (fup μ (a + 1) (shl1 (μ (a + 1)) p j)) a (j - 1) x = fup μ (a + 1) (shl1 (μ (a + 1)) p (j + 1)) from ?_]
      · exact ih (j + 1) (by omega) (by omega)
      · unfold mPut
        rw [fup_n (by omega), if_pos (by omega), hx, rat_row (by rw [fup_n (by omega)]; exact hw1), fup_n (by omega), if_pos (by omega), fup_s]
        unfold mup
        rw [fup_fup, fup_s, shl1_step _ h0 (by omega)]
theorem s_X4_remove (hst : l.stackTraces = false) (hr : isRow N sh a cap) (hw : wfR μ a cap) {p : Int} (hp : R32 p) : Zv G l N sh M_X4_remove [.ref (gB G + a), vI p] μ (fun μ' => μ' = mRem μ a p) := by
  refine Fx.of hst rfl (by decide +kernel) (Nat.le_of_ble_eq_true rfl) rfl ?_
  have hw1 := hw.1
  have hw2 := hw.2
  have hc := hr.2.2.2.2
  refine VW.iload_n dX4_remove_0 rfl ?_
  refine VW.if_lt 12 ⟨by omega, by omega⟩ dX4_remove_1 (by decide) (fun c1 => ?_) (fun c1 => ?_)
  · refine VW.vreturn dX4_remove_12 rfl ?_
    refine fxP.vv ?_
    unfold mRem
    rw [if_neg (by omega)]
  · refine VW.iload_n dX4_remove_4 rfl ?_
    refine VW.aload_n dX4_remove_5 rfl ?_
    refine VW.getI dX4_remove_6 fa_X4_15 hr.1 hr.2.1 rfl ?_
    refine VW.icmp_lt 13 ⟨by omega, by omega⟩ ⟨by omega, by omega⟩ dX4_remove_9 (by decide) (fun c9 => ?_) (fun c9 => ?_)
    · refine VW.iload_n dX4_remove_13 rfl ?_
      refine VW.iconst dX4_remove_14 ?_
      refine VW.iadd dX4_remove_15 ?_
      refine VW.istore_n (lv' := [(0, _), (1, _), (2, _)]) dX4_remove_16 (by decide) rfl ?_
      have h9 := lp_X4_remove (G := G) hst hr hw (p := p) (by omega) (by omega) ((μ a 1).toNat + 1) (p + 1) (by omega) (by omega)
      rw [shl1_0, fup_id] at h9
      exact h9
    · refine VW.vreturn dX4_remove_12 rfl ?_
      refine fxP.vv ?_
      unfold mRem
      rw [if_neg (by omega)]
variable {capb : Nat}
theorem mCpI_b {i : Int} (hab : a ≠ b ∧ a + 1 ≠ b ∧ a ≠ b + 1) : mCpI μ a b i b = μ b ∧ mCpI μ a b i (b + 1) = μ (b + 1) := by
  unfold mCpI
  exact ⟨by rw [mup_n (by omega), fup_n (by omega)], by rw [mup_n (by omega), fup_n (by omega)]⟩
theorem mCpI_a {i : Int} : mCpI μ a b i a 1 = i := by unfold mCpI; exact mup_s _ _ _ _
theorem mCpI_step {i : Int} (h0 : 0 ≤ i) (hc : i < cap) : mAdd (mCpI μ a b i) a cap (μ (b + 1) i.toNat) = mCpI μ a b (i + 1) := by
  unfold mAdd
  rw [mCpI_a, if_pos hc]
  funext x k
  unfold mCpI mup fup
  by_cases h1 : x = a
  · subst h1
    by_cases hk : k = 1 <;> simp [hk]
  · by_cases h2 : x = a + 1
    · subst h2
      by_cases hk : k = i.toNat
      · subst hk
        have h3 : (i.toNat : Int) < i + 1 := by omega
        simp [h3]
        intro h
        rw [Int.max_eq_left h0] at h
        omega
      · by_cases h3 : (k : Int) < i
        · have h4 : (k : Int) < i + 1 := by omega
          simp [hk, h3, h4]
        · have h4 : ¬ (k : Int) < i + 1 := by omega
          simp [hk, h3, h4]
    · simp [h1, h2]
theorem lp_X4_copy (hst : l.stackTraces = false) (hr : isRow N sh a cap) (hrb : isRow N sh b capb) (hwb : wfR μ b capb) (hab : a ≠ b ∧ a + 1 ≠ b ∧ a ≠ b + 1) (hfit : μ b 1 ≤ cap) : ∀ (n : Nat) (i : Int), 0 ≤ i ∧ i ≤ μ b 1 → μ b 1 - i < n → VW G l none M_X4_copy 7 [(0, .ref (gB G + a)), (1, .ref (gB G + b)), (2, vI i)] [] (N, sh, mCpI μ a b i) 0 0 (fxP N sh (oN (vN_v (fun μ' => μ' = mCpy μ a b)))) := by
  have hw1 := hwb.1
  have hw2 := hwb.2
  have hc := hr.2.2.2.2
  have hcb := hrb.2.2.2.2
  intro n
  induction n with
  | zero => intro i h1 h2; omega
  | succ n ih =>
    intro i h1 h2
    refine VW.iload_n dX4_copy_7 rfl ?_
    obtain ⟨hb1, hb2⟩ := mCpI_b (μ := μ) (i := i) hab
    have hwbi : wfR (mCpI μ a b i) b capb := ⟨by rw [hb1]; exact hw1, by rw [hb1]; exact hw2⟩
    have hwi : wfR (mCpI μ a b i) a cap := ⟨by rw [mCpI_a]; omega, by rw [mCpI_a]; omega⟩
    refine VW.aload_n dX4_copy_8 rfl ?_
    refine VW.getI dX4_copy_9 fa_X4_15 hrb.1 hrb.2.1 rfl ?_
    rw [hb1]
    refine VW.icmp_ge 30 ⟨by omega, by omega⟩ ⟨by omega, by omega⟩ dX4_copy_12 (by decide) (fun c12 => ?_) (fun c12 => ?_)
    · refine VW.vreturn dX4_copy_30 rfl ?_
      refine fxP.vv ?_
      unfold mCpy
      rw [show i = μ b 1 by omega]
    · refine VW.aload_n dX4_copy_15 rfl ?_
      refine VW.aload_n dX4_copy_16 rfl ?_
      refine VW.iload_n dX4_copy_17 rfl ?_
      refine VW.fiV1 cv_X4_copy_X4_at dX4_copy_18 (Nat.le_of_ble_eq_true rfl) hrb.1 hrb.2.1 (s_X4_at hst hrb hwbi ⟨by omega, by omega⟩) (fun x μ1 hx => ?_)
      obtain ⟨hx, rfl⟩ := hx
      refine VW.fvV1 cv_X4_copy_X4_add dX4_copy_21 (Nat.le_of_ble_eq_true rfl) hr.1 hr.2.1 (s_X4_add hst hr hwi) (fun μ1 hx2 => ?_)
      subst hx2
      refine VW.iinc (lv' := [(0, _), (1, _), (2, _)]) dX4_copy_24 rfl (by decide) rfl ?_
      refine VW.goto 7 dX4_copy_27 (by decide) ?_
      rw [hx, rat_row (by rw [hb1]; exact hw1), hb1, hb2, if_pos (by omega), mCpI_step h1.1 (by omega)]
      exact ih (i + 1) (by omega) (by omega)
theorem s_X4_copy (hst : l.stackTraces = false) (hr : isRow N sh a cap) (hrb : isRow N sh b capb) (hwb : wfR μ b capb) (hab : a ≠ b ∧ a + 1 ≠ b ∧ a ≠ b + 1) (hfit : μ b 1 ≤ cap) : Zv G l N sh M_X4_copy [.ref (gB G + a), .ref (gB G + b)] μ (fun μ' => μ' = mCpy μ a b) := by
  refine Fx.of hst rfl (by decide +kernel) (Nat.le_of_ble_eq_true rfl) rfl ?_
  have hw1 := hwb.1
  have hw2 := hwb.2
  have hc := hr.2.2.2.2
  have hcb := hrb.2.2.2.2
  refine VW.aload_n dX4_copy_0 rfl ?_
  refine VW.iconst dX4_copy_1 ?_
  refine VW.putI dX4_copy_2 fp_X4_15 hr.1 hr.2.1 rfl ?_
  refine VW.iconst dX4_copy_5 ?_
  refine VW.istore_n (lv' := [(0, _), (1, _), (2, _)]) dX4_copy_6 (by decide) rfl ?_
  have h9 := lp_X4_copy (G := G) hst hr hrb hwb hab hfit ((μ b 1).toNat + 1) 0 (by omega) (by omega)
  rw [show mCpI μ a b 0 = mup μ a 1 0 from ?_] at h9
  · exact h9
  · unfold mCpI
    rw [show (fun k : Nat => if (k : Int) < 0 then μ (b + 1) k else μ (a + 1) k) = μ (a + 1) from ?_, fup_id]
    funext k
    rw [if_neg (by omega)]
end ROW
