/-! ===== Path, Commands, State, History: what they hold ===== -/
def hasP (μ : Mem) (p : Nat) (xs ys : List Int) : Prop := hasRow μ (p + 1) 41 xs ∧ hasRow μ (p + 3) 41 ys ∧ ys.length = xs.length ∧ bnd xs 0 31 ∧ bnd ys 0 31
theorem hasP.wf {μ : Mem} {p : Nat} {xs ys : List Int} (h : hasP μ p xs ys) : wfP μ p := ⟨⟨h.1.1, h.2.1.1, by rw [h.1.len, h.2.1.len, h.2.2.1]⟩, by rw [h.1.2]; exact h.2.2.2.1, by rw [h.2.1.2]; exact h.2.2.2.2⟩
theorem hasP.keep {μ μ' : Mem} {p lo hi : Nat} {xs ys : List Int} (h : hasP μ p xs ys) (f : frm μ μ' lo hi) (hd : p + 5 ≤ lo ∨ hi ≤ p) : hasP μ' p xs ys := ⟨h.1.keep f (by omega), h.2.1.keep f (by omega), h.2.2⟩
def isCmds (N : Nat) (sh : Nat → ShT) (c : Nat) : Prop := c < N ∧ sh c = sO 0 [fR (c + 1), fR (c + 22), fI] ∧ c + 1 < N ∧ sh (c + 1) = sQ true ((List.range 10).map (fun i => some (c + 2 + 2 * i))) ∧ (∀ i, i < 10 → isRow N sh (c + 2 + 2 * i) 8) ∧ isRow N sh (c + 22) 0
def wfC (μ : Mem) (c : Nat) : Prop := (∀ i, i < 10 → wfR μ (c + 2 + 2 * i) 8) ∧ wfR μ (c + 22) 0
def hasC (μ : Mem) (c : Nat) (K : List (List Int)) : Prop := wfC μ c ∧ μ c 2 = (K.length : Int) ∧ K.length ≤ 10 ∧ ∀ i, i < K.length → rowOf μ (c + 2 + 2 * i) = K.getD i []
theorem wfC.keep {μ μ' : Mem} {c lo hi : Nat} (h : wfC μ c) (f : frm μ μ' lo hi) (hd : c + 24 ≤ lo ∨ hi ≤ c) : wfC μ' c := ⟨fun i hi => (h.1 i hi).keep f (by omega), h.2.keep f (by omega)⟩
theorem hasC.row {μ : Mem} {c : Nat} {K : List (List Int)} (h : hasC μ c K) {i : Nat} (hi : i < K.length) : hasRow μ (c + 2 + 2 * i) 8 (K.getD i []) := ⟨h.1.1 i (by have := h.2.2.1; omega), h.2.2.2 i hi⟩
theorem hasC.keep {μ μ' : Mem} {c lo hi : Nat} {K : List (List Int)} (h : hasC μ c K) (f : frm μ μ' lo hi) (hd : c + 24 ≤ lo ∨ hi ≤ c) : hasC μ' c K :=
  ⟨h.1.keep f hd, by rw [f c (by omega)]; exact h.2.1, h.2.2.1, fun i hi => ((h.row hi).keep f (by have := h.2.2.1; omega)).2⟩
theorem hasC.len8 {μ : Mem} {c : Nat} {K : List (List Int)} (h : hasC μ c K) {i : Nat} (hi : i < K.length) : (K.getD i []).length ≤ 8 := (h.row hi).cap
/-- points, commands, settings -/
abbrev St : Type := (List Int × List Int) × List (List Int) × List Int
def isState (N : Nat) (sh : Nat → ShT) (s : Nat) : Prop := s < N ∧ sh s = sO 5 [fR (s + 1), fR (s + 6), fR (s + 30)] ∧ isPath N sh (s + 1) ∧ isCmds N sh (s + 6) ∧ isRow N sh (s + 30) 5
def hasSt (μ : Mem) (s : Nat) (σ : St) : Prop := hasP μ (s + 1) σ.1.1 σ.1.2 ∧ hasC μ (s + 6) σ.2.1 ∧ hasRow μ (s + 30) 5 σ.2.2
theorem hasSt.keep {μ μ' : Mem} {s lo hi : Nat} {σ : St} (h : hasSt μ s σ) (f : frm μ μ' lo hi) (hd : s + 32 ≤ lo ∨ hi ≤ s) : hasSt μ' s σ := ⟨h.1.keep f (by omega), h.2.1.keep f (by omega), h.2.2.keep f (by omega)⟩
def isHist (N : Nat) (sh : Nat → ShT) (h : Nat) : Prop := h < N ∧ sh h = sO 1 [fR (h + 1), fI, fI] ∧ h + 1 < N ∧ sh (h + 1) = sQ false ((List.range 6).map (fun j => some (h + 2 + 32 * j))) ∧ ∀ j, j < 6 → isState N sh (h + 2 + 32 * j)
/-- the saved states, the oldest one first -/
def hasH (μ : Mem) (h : Nat) (Z : List St) : Prop := (∀ j, j < 6 → wfC μ (h + 2 + 32 * j + 6)) ∧ (0 ≤ μ h 1 ∧ μ h 1 < 6) ∧ μ h 2 = (Z.length : Int) ∧ Z.length ≤ 6 ∧ ∀ k, k < Z.length → hasSt μ (h + 2 + 32 * (((μ h 1).toNat + k) % 6)) (Z.getD k (([], []), [], []))
theorem hasH.keep {μ μ' : Mem} {h lo hi : Nat} {Z : List St} (hh : hasH μ h Z) (f : frm μ μ' lo hi) (hd : h + 194 ≤ lo ∨ hi ≤ h) : hasH μ' h Z := by
  have e : μ' h = μ h := f h (by omega)
  refine ⟨fun j hj => (hh.1 j hj).keep f (by omega), by rw [e]; exact hh.2.1, by rw [e]; exact hh.2.2.1, hh.2.2.2.1, fun k hk => ?_⟩
  rw [e]
  exact (hh.2.2.2.2 k hk).keep f (by have := Nat.mod_lt ((μ h 1).toNat + k) (show 6 > 0 by decide); omega)
theorem i32_rem {a b : Int} (ha : 0 ≤ a ∧ a < 2147483648) (hb : 0 < b ∧ b < 2147483648) : Int32.ofInt a - Int32.ofInt a / Int32.ofInt b * Int32.ofInt b = Int32.ofInt (a % b) := by
  obtain ⟨x, rfl⟩ : ∃ x : Nat, a = x := ⟨a.toNat, by omega⟩
  obtain ⟨y, rfl⟩ : ∃ y : Nat, b = y := ⟨b.toNat, by omega⟩
  rw [Int32.ofInt_eq_ofNat, Int32.ofInt_eq_ofNat, show ((x : Int) % (y : Int)) = ((x % y : Nat) : Int) from rfl, Int32.ofInt_eq_ofNat]
  exact pk_rem (by omega) (by omega) (by omega)
theorem i32_ne0 {b : Int} (hb : 0 < b ∧ b < 2147483648) : ¬ Int32.ofInt b = 0 := by
  rw [i32_0, i32_eq ⟨by omega, by omega⟩ R32_0]
  omega
section PC
variable {G : GT} {l : Launch} {N : Nat} {sh : Nat → ShT} {μ : Mem}
variable {a b c d p q s t h : Nat} {cap capb : Nat} {xs ys : List Int} {K : List (List Int)} {σ : St} {Z : List St}
theorem p_add (hst : l.stackTraces = false) (hp : isPath N sh p) (hw : hasP μ p xs ys) (hlt : xs.length < 41) {x y : Int} (hx : 0 ≤ x ∧ x ≤ 31) (hy : 0 ≤ y ∧ y ≤ 31) : Zv G l N sh M_X3_add [.ref (gB G + p), vI x, vI y] μ (fun μ' => hasP μ' p (xs ++ [x]) (ys ++ [y]) ∧ frm μ μ' p (p + 5)) := by
  refine Fx.of hst rfl (by decide +kernel) (Nat.le_of_ble_eq_true rfl) rfl ?_
  refine VW.aload_n dX3_add_0 rfl ?_
  refine VW.getR dX3_add_1 fa_X3_14 hp.1 hp.2.1 rfl ?_
  refine VW.iload_n dX3_add_4 rfl ?_
  refine VW.fvV1 cv_X3_add_X4_add dX3_add_5 (Nat.le_of_ble_eq_true rfl) hp.2.2.1.1 hp.2.2.1.2.1 (r_add hst hp.2.2.1 hw.1 hlt) (fun μ1 h1 => ?_)
  refine VW.aload_n dX3_add_8 rfl ?_
  refine VW.getR dX3_add_9 fa_X3_20 hp.1 hp.2.1 rfl ?_
  refine VW.iload_n dX3_add_12 rfl ?_
  refine VW.fvV1 cv_X3_add_X4_add dX3_add_13 (Nat.le_of_ble_eq_true rfl) hp.2.2.2.1 hp.2.2.2.2.1 (r_add hst hp.2.2.2 (hw.2.1.keep h1.2 (by omega)) (by rw [hw.2.2.1]; exact hlt)) (fun μ2 h2 => ?_)
  refine VW.vreturn dX3_add_16 rfl ?_
  refine fxP.vv ?_
  refine ⟨⟨h1.1.keep h2.2 (by omega), h2.1, by simp [hw.2.2.1], ?_, ?_⟩, (h1.2.wid (by omega) (by omega)).tr (h2.2.wid (by omega) (by omega))⟩
  · intro z hz
    rcases List.mem_append.mp hz with hz | hz
    · exact hw.2.2.2.1 z hz
    · rw [List.mem_singleton.mp hz]; exact hx
  · intro z hz
    rcases List.mem_append.mp hz with hz | hz
    · exact hw.2.2.2.2 z hz
    · rw [List.mem_singleton.mp hz]; exact hy
theorem p_cut (hst : l.stackTraces = false) (hp : isPath N sh p) (hw : hasP μ p xs ys) {i : Int} (hi : R32 i) (h0 : 0 ≤ i) : Zv G l N sh M_X3_cut [.ref (gB G + p), vI i] μ (fun μ' => hasP μ' p (xs.take i.toNat) (ys.take i.toNat) ∧ frm μ μ' p (p + 5)) := by
  refine Fx.of hst rfl (by decide +kernel) (Nat.le_of_ble_eq_true rfl) rfl ?_
  refine VW.aload_n dX3_cut_0 rfl ?_
  refine VW.getR dX3_cut_1 fa_X3_14 hp.1 hp.2.1 rfl ?_
  refine VW.iload_n dX3_cut_4 rfl ?_
  refine VW.fvV1 cv_X3_cut_X4_cut dX3_cut_5 (Nat.le_of_ble_eq_true rfl) hp.2.2.1.1 hp.2.2.1.2.1 (r_cut hst hp.2.2.1 hw.1 hi h0) (fun μ1 h1 => ?_)
  refine VW.aload_n dX3_cut_8 rfl ?_
  refine VW.getR dX3_cut_9 fa_X3_20 hp.1 hp.2.1 rfl ?_
  refine VW.iload_n dX3_cut_12 rfl ?_
  refine VW.fvV1 cv_X3_cut_X4_cut dX3_cut_13 (Nat.le_of_ble_eq_true rfl) hp.2.2.2.1 hp.2.2.2.2.1 (r_cut hst hp.2.2.2 (hw.2.1.keep h1.2 (by omega)) hi h0) (fun μ2 h2 => ?_)
  refine VW.vreturn dX3_cut_16 rfl ?_
  refine fxP.vv ?_
  exact ⟨⟨h1.1.keep h2.2 (by omega), h2.1, by simp [hw.2.2.1], fun z hz => hw.2.2.2.1 z (List.mem_of_mem_take hz), fun z hz => hw.2.2.2.2 z (List.mem_of_mem_take hz)⟩, (h1.2.wid (by omega) (by omega)).tr (h2.2.wid (by omega) (by omega))⟩
theorem p_copy (hst : l.stackTraces = false) (hp : isPath N sh p) (hq : isPath N sh q) (hw : hasP μ q xs ys) (hpq : p + 5 ≤ q ∨ q + 5 ≤ p) : Zv G l N sh M_X3_copy [.ref (gB G + p), .ref (gB G + q)] μ (fun μ' => hasP μ' p xs ys ∧ frm μ μ' p (p + 5)) := by
  refine Fx.of hst rfl (by decide +kernel) (Nat.le_of_ble_eq_true rfl) rfl ?_
  refine VW.aload_n dX3_copy_0 rfl ?_
  refine VW.getR dX3_copy_1 fa_X3_14 hp.1 hp.2.1 rfl ?_
  refine VW.aload_n dX3_copy_4 rfl ?_
  refine VW.getR dX3_copy_5 fa_X3_14 hq.1 hq.2.1 rfl ?_
  refine VW.fvV1 cv_X3_copy_X4_copy dX3_copy_8 (Nat.le_of_ble_eq_true rfl) hp.2.2.1.1 hp.2.2.1.2.1 (r_copy hst hp.2.2.1 hq.2.2.1 hw.1 hw.1.cap ⟨by omega, by omega, by omega⟩) (fun μ1 h1 => ?_)
  refine VW.aload_n dX3_copy_11 rfl ?_
  refine VW.getR dX3_copy_12 fa_X3_20 hp.1 hp.2.1 rfl ?_
  refine VW.aload_n dX3_copy_15 rfl ?_
  refine VW.getR dX3_copy_16 fa_X3_20 hq.1 hq.2.1 rfl ?_
  refine VW.fvV1 cv_X3_copy_X4_copy dX3_copy_19 (Nat.le_of_ble_eq_true rfl) hp.2.2.2.1 hp.2.2.2.2.1 (r_copy hst hp.2.2.2 hq.2.2.2 (hw.2.1.keep h1.2 (by omega)) hw.2.1.cap ⟨by omega, by omega, by omega⟩) (fun μ2 h2 => ?_)
  refine VW.vreturn dX3_copy_22 rfl ?_
  refine fxP.vv ?_
  exact ⟨⟨h1.1.keep h2.2 (by omega), h2.1, hw.2.2⟩, (h1.2.wid (by omega) (by omega)).tr (h2.2.wid (by omega) (by omega))⟩
theorem c_held (hst : l.stackTraces = false) (hc : isCmds N sh c) (hK : hasC μ c K) : Zi G l N sh M_X0_held [.ref (gB G + c)] μ (fun r μ' => r = (K.length : Int) ∧ μ' = μ) := by
  refine Fx.of hst rfl (by decide +kernel) (Nat.le_of_ble_eq_true rfl) rfl ?_
  refine VW.aload_n dX0_held_0 rfl ?_
  refine VW.getI dX0_held_1 fa_X0_24 hc.1 hc.2.1 rfl ?_
  refine VW.ireturn dX0_held_4 rfl rfl ?_
  exact fxP.ii ⟨hK.2.1, rfl⟩
theorem c_directions (hst : l.stackTraces = false) (hc : isCmds N sh c) {i : Int} (h0 : 0 ≤ i ∧ i < 10) : Zr G l N sh M_X0_directions [.ref (gB G + c), vI i] μ (fun r μ' => r = c + 2 + 2 * i.toNat ∧ μ' = μ) := by
  refine Fx.of hst rfl (by decide +kernel) (Nat.le_of_ble_eq_true rfl) rfl ?_
  refine VW.iload_n dX0_directions_0 rfl ?_
  refine VW.if_lt 13 ⟨by omega, by omega⟩ dX0_directions_1 (by decide) (fun c1 => by omega) (fun c1 => ?_)
  refine VW.iload_n dX0_directions_4 rfl ?_
  refine VW.aload_n dX0_directions_5 rfl ?_
  refine VW.getR dX0_directions_6 fa_X0_11 hc.1 hc.2.1 rfl ?_
  refine VW.alenQ dX0_directions_9 hc.2.2.1 hc.2.2.2.1 ?_
  refine VW.icmp_lt 18 ⟨by omega, by omega⟩ ⟨by simp, by simp⟩ dX0_directions_10 (by decide) (fun c10 => ?_) (fun c10 => absurd c10 (by simp; omega))
  simp only [List.length_map, List.length_range] at c10
  refine VW.aload_n dX0_directions_18 rfl ?_
  refine VW.getR dX0_directions_19 fa_X0_11 hc.1 hc.2.1 rfl ?_
  refine VW.iload_n dX0_directions_22 rfl ?_
  refine VW.aaload (b := c + 2 + 2 * i.toNat) dX0_directions_23 hc.2.2.1 hc.2.2.2.1 (by omega) (by simp) (by rw [List.getElem?_map, List.getElem?_range (by omega)]; rfl) ?_
  refine VW.astore_n (lv' := [(0, _), (1, _), (2, _)]) dX0_directions_24 (by decide) rfl ?_
  refine VW.aload_n dX0_directions_25 rfl ?_
  refine VW.ifnull dX0_directions_26 ?_
  refine VW.aload_n dX0_directions_29 rfl ?_
  refine VW.goto 37 dX0_directions_30 (by decide) ?_
  refine VW.areturn dX0_directions_37 rfl (Or.inr ⟨_, rfl⟩) ?_
  exact fxP.rr ⟨rfl, rfl⟩
theorem sumK_take (K : List (List Int)) {i : Int} (h : 0 ≤ i ∧ i.toNat < K.length) : ((K.take (i + 1).toNat).map (fun L => (L.length : Int))).sum = ((K.take i.toNat).map (fun L => (L.length : Int))).sum + ((K.getD i.toNat []).length : Int) := by
  rw [show (i + 1).toNat = i.toNat + 1 by omega, List.take_add_one, List.map_append, List.sum_append, List.getElem?_eq_getElem h.2]
  simp [List.getD, h.2]
theorem lp_X0_all (hst : l.stackTraces = false) (hc : isCmds N sh c) (hK : hasC μ c K) : ∀ (n : Nat) (i s : Int), 0 ≤ i ∧ i ≤ K.length → K.length - i < n → s = ((K.take i.toNat).map (fun L => (L.length : Int))).sum → VW G l none M_X0_allDirections 4 [(0, .ref (gB G + c)), (1, vI s), (2, vI i)] [] (N, sh, μ) 0 0 (fxP N sh (oN (vN_i (fun r μ' => r = (K.map (fun L => (L.length : Int))).sum ∧ μ' = μ)))) := by
  intro n
  induction n with
  | zero => intro i s h1 h2 hs; omega
  | succ n ih =>
    intro i s h1 h2 hs
    refine VW.iload_n dX0_allDirections_4 rfl ?_
    have hk10 := hK.2.2.1
    have hk2 := hK.2.1
    refine VW.aload_n dX0_allDirections_5 rfl ?_
    refine VW.getI dX0_allDirections_6 fa_X0_24 hc.1 hc.2.1 rfl ?_
    refine VW.icmp_ge 29 ⟨by omega, by omega⟩ ⟨by omega, by omega⟩ dX0_allDirections_9 (by decide) (fun c9 => ?_) (fun c9 => ?_)
    · refine VW.iload_n dX0_allDirections_29 rfl ?_
      refine VW.ireturn dX0_allDirections_30 rfl rfl ?_
      refine fxP.ii ⟨?_, rfl⟩
      rw [hs, List.take_of_length_le (by omega)]
    · refine VW.iload_n dX0_allDirections_12 rfl ?_
      refine VW.aload_n dX0_allDirections_13 rfl ?_
      refine VW.iload_n dX0_allDirections_14 rfl ?_
      refine VW.oV1 cv_X0_allDirections_X0_directions dX0_allDirections_15 (Nat.le_of_ble_eq_true rfl) hc.1 hc.2.1 (c_directions hst hc ⟨by omega, by omega⟩) ?_
      refine VW.pV0 cv_X0_allDirections_X4_held dX0_allDirections_18 (Nat.le_of_ble_eq_true rfl) (hc.2.2.2.2.1 i.toNat (by omega)).1 (hc.2.2.2.2.1 i.toNat (by omega)).2.1 (r_held hst (hc.2.2.2.2.1 i.toNat (by omega)) (hK.row (i := i.toNat) (by omega))) ?_
      refine VW.iadd dX0_allDirections_21 ?_
      refine VW.istore_n (lv' := [(0, _), (1, _), (2, _)]) dX0_allDirections_22 (by decide) rfl ?_
      refine VW.iinc (lv' := [(0, _), (1, _), (2, _)]) dX0_allDirections_23 rfl (by decide) rfl ?_
      refine VW.goto 4 dX0_allDirections_26 (by decide) ?_
      exact ih (i + 1) _ (by omega) (by omega) (by rw [hs, sumK_take K (by omega)])
theorem c_all (hst : l.stackTraces = false) (hc : isCmds N sh c) (hK : hasC μ c K) : Zi G l N sh M_X0_allDirections [.ref (gB G + c)] μ (fun r μ' => r = (K.map (fun L => (L.length : Int))).sum ∧ μ' = μ) := by
  refine Fx.of hst rfl (by decide +kernel) (Nat.le_of_ble_eq_true rfl) rfl ?_
  refine VW.iconst dX0_allDirections_0 ?_
  refine VW.istore_n (lv' := [(0, _), (1, _)]) dX0_allDirections_1 (by decide) rfl ?_
  refine VW.iconst dX0_allDirections_2 ?_
  refine VW.istore_n (lv' := [(0, _), (1, _), (2, _)]) dX0_allDirections_3 (by decide) rfl ?_
  exact lp_X0_all hst hc hK (K.length + 1) 0 0 (by omega) (by omega) (by simp)
theorem c_add (hst : l.stackTraces = false) (hc : isCmds N sh c) (hK : hasC μ c K) (hlt : K.length < 10) (hrb : isRow N sh b capb) {L : List Int} (hL : hasRow μ b capb L) (hl8 : L.length ≤ 8) (hd : b + 2 ≤ c ∨ c + 24 ≤ b) : Zv G l N sh M_X0_add [.ref (gB G + c), .ref (gB G + b)] μ (fun μ' => hasC μ' c (K ++ [L]) ∧ frm μ μ' c (c + 24)) := by
  refine Fx.of hst rfl (by decide +kernel) (Nat.le_of_ble_eq_true rfl) rfl ?_
  have hk2 := hK.2.1
  refine VW.aload_n dX0_add_0 rfl ?_
  refine VW.getI dX0_add_1 fa_X0_24 hc.1 hc.2.1 rfl ?_
  refine VW.aload_n dX0_add_4 rfl ?_
  refine VW.getR dX0_add_5 fa_X0_11 hc.1 hc.2.1 rfl ?_
  refine VW.alenQ dX0_add_8 hc.2.2.1 hc.2.2.2.1 ?_
  refine VW.icmp_ge 34 ⟨by omega, by omega⟩ ⟨by simp, by simp⟩ dX0_add_9 (by decide) (fun c9 => absurd c9 (by simp; omega)) (fun c9 => ?_)
  refine VW.aload_n dX0_add_12 rfl ?_
  refine VW.aload_n dX0_add_13 rfl ?_
  refine VW.getI dX0_add_14 fa_X0_24 hc.1 hc.2.1 rfl ?_
  refine VW.oV1 cv_X0_add_X0_directions dX0_add_17 (Nat.le_of_ble_eq_true rfl) hc.1 hc.2.1 (c_directions hst hc ⟨by omega, by omega⟩) ?_
  refine VW.aload_n dX0_add_20 rfl ?_
  refine VW.fvV1 cv_X0_add_X4_copy dX0_add_21 (Nat.le_of_ble_eq_true rfl) (hc.2.2.2.2.1 (μ c 2).toNat (by omega)).1 (hc.2.2.2.2.1 (μ c 2).toNat (by omega)).2.1 (r_copy hst (hc.2.2.2.2.1 (μ c 2).toNat (by omega)) hrb hL hl8 ⟨by omega, by omega, by omega⟩) (fun μ1 h1 => ?_)
  have h1c : μ1 c = μ c := h1.2 c (by omega)
  refine VW.aload_n dX0_add_24 rfl ?_
  refine VW.dup dX0_add_25 rfl ?_
  refine VW.getI dX0_add_26 fa_X0_24 hc.1 hc.2.1 rfl ?_
  refine VW.iconst dX0_add_29 ?_
  refine VW.iadd dX0_add_30 ?_
  refine VW.putI dX0_add_31 fp_X0_24 hc.1 hc.2.1 rfl ?_
  refine VW.vreturn dX0_add_34 rfl ?_
  refine fxP.vv ?_
  have hk2 := hK.2.1
  refine ⟨⟨⟨fun i hi => ?_, ?_⟩, ?_, ?_, fun i hi => ?_⟩, (h1.2.wid (by omega) (by omega)).tr (frm_mup (by omega))⟩
  · by_cases hi2 : i = (μ c 2).toNat
    · subst hi2
      exact (h1.1.keep (frm_mup (a := c) (lo := c) (hi := c + 1) (by omega)) (by omega)).1
    · exact ((hK.1.1 i hi).keep h1.2 (by omega)).keep (frm_mup (a := c) (lo := c) (hi := c + 1) (by omega)) (by omega)
  · exact (hK.1.2.keep h1.2 (by omega)).keep (frm_mup (a := c) (lo := c) (hi := c + 1) (by omega)) (by omega)
  · rw [mup_s, h1c]
    simp [hk2]
  · simp; omega
  · simp only [List.length_append, List.length_singleton] at hi
    by_cases hi2 : i < K.length
    · rw [(((hK.row hi2).keep h1.2 (by omega)).keep (frm_mup (a := c) (lo := c) (hi := c + 1) (by omega)) (by omega)).2]
      simp [List.getD, List.getElem?_append_left hi2]
    · have e : i = (μ c 2).toNat := by omega
      subst e
      rw [(h1.1.keep (frm_mup (a := c) (lo := c) (hi := c + 1) (by omega)) (by omega)).2]
      simp [List.getD, List.getElem?_append_right (show K.length ≤ (μ c 2).toNat by omega), show (μ c 2).toNat - K.length = 0 by omega]
/-- while commands move down: those from p on, up to j, are moved -/
def invR (μ0 μ : Mem) (c : Nat) (K : List (List Int)) (p j : Int) : Prop := wfC μ c ∧ μ c = μ0 c ∧ frm μ0 μ c (c + 24) ∧ ∀ i : Nat, i < K.length → rowOf μ (c + 2 + 2 * i) = if p ≤ i ∧ (i : Int) + 1 < j then K.getD (i + 1) [] else K.getD i []
theorem lp_X0_remove (hst : l.stackTraces = false) (hc : isCmds N sh c) (hK : hasC μ c K) {p : Int} (h0 : 0 ≤ p ∧ p < K.length) : ∀ (n : Nat) (j : Int), p < j ∧ j ≤ K.length → K.length - j < n → ∀ μ2 : Mem, invR μ μ2 c K p j → VW G l none M_X0_remove 17 [(0, .ref (gB G + c)), (1, vI p), (2, vI j)] [] (N, sh, μ2) 0 0 (fxP N sh (oN (vN_v (fun μ' => hasC μ' c (K.eraseIdx p.toNat) ∧ frm μ μ' c (c + 24))))) := by
  have hk10 := hK.2.2.1
  intro n
  induction n with
  | zero => intro j h1 h2 μ2 hI; omega
  | succ n ih =>
    intro j h1 h2 μ2 hI
    refine VW.iload_n dX0_remove_17 rfl ?_
    refine VW.aload_n dX0_remove_18 rfl ?_
    refine VW.getI dX0_remove_19 fa_X0_24 hc.1 hc.2.1 rfl ?_
    have e2 : μ2 c 2 = (K.length : Int) := by rw [hI.2.1]; exact hK.2.1
    refine VW.icmp_ge 46 ⟨by omega, by omega⟩ ⟨by omega, by omega⟩ dX0_remove_22 (by decide) (fun c22 => ?_) (fun c22 => ?_)
    · refine VW.aload_n dX0_remove_46 rfl ?_
      refine VW.dup dX0_remove_47 rfl ?_
      refine VW.getI dX0_remove_48 fa_X0_24 hc.1 hc.2.1 rfl ?_
      refine VW.iconst dX0_remove_51 ?_
      refine VW.isub dX0_remove_52 ?_
      refine VW.putI dX0_remove_53 fp_X0_24 hc.1 hc.2.1 rfl ?_
      refine VW.vreturn dX0_remove_56 rfl ?_
      refine fxP.vv ?_
      have hk2 := hK.2.1
      have hlen : (K.eraseIdx p.toNat).length = K.length - 1 := by rw [List.length_eraseIdx, if_pos (by omega)]
      refine ⟨⟨⟨fun i hi => (hI.1.1 i hi).keep (frm_mup (a := c) (lo := c) (hi := c + 1) (by omega)) (by omega), hI.1.2.keep (frm_mup (a := c) (lo := c) (hi := c + 1) (by omega)) (by omega)⟩, ?_, by rw [hlen]; omega, fun i hi => ?_⟩, hI.2.2.1.tr (frm_mup (by omega))⟩
      · rw [mup_s, e2, hlen]; omega
      · rw [hlen] at hi
        rw [(hasRow.keep (L := rowOf μ2 (c + 2 + 2 * i)) (cap := 8) ⟨hI.1.1 i (by omega), rfl⟩ (frm_mup (a := c) (lo := c) (hi := c + 1) (by omega)) (by omega)).2, hI.2.2.2 i (by omega)]
        unfold List.getD
        rw [List.getElem?_eraseIdx]
        by_cases h3 : i < p.toNat
        · rw [if_neg (by omega), if_pos h3]
        · rw [if_pos (by omega), if_neg h3]
    · refine VW.aload_n dX0_remove_25 rfl ?_
      refine VW.iload_n dX0_remove_26 rfl ?_
      refine VW.iconst dX0_remove_27 ?_
      refine VW.isub dX0_remove_28 ?_
      refine VW.oV1 cv_X0_remove_X0_directions dX0_remove_29 (Nat.le_of_ble_eq_true rfl) hc.1 hc.2.1 (c_directions hst hc ⟨by omega, by omega⟩) ?_
      refine VW.aload_n dX0_remove_32 rfl ?_
      refine VW.iload_n dX0_remove_33 rfl ?_
      refine VW.oV1 cv_X0_remove_X0_directions dX0_remove_34 (Nat.le_of_ble_eq_true rfl) hc.1 hc.2.1 (c_directions hst hc ⟨by omega, by omega⟩) ?_
      refine VW.fvV1 cv_X0_remove_X4_copy dX0_remove_37 (Nat.le_of_ble_eq_true rfl) (hc.2.2.2.2.1 (j - 1).toNat (by omega)).1 (hc.2.2.2.2.1 (j - 1).toNat (by omega)).2.1 (r_copy (L2 := K.getD j.toNat []) hst (hc.2.2.2.2.1 (j - 1).toNat (by omega)) (hc.2.2.2.2.1 j.toNat (by omega)) ⟨hI.1.1 j.toNat (by omega), by rw [hI.2.2.2 j.toNat (by omega), if_neg (by omega)]⟩ (hK.len8 (by omega)) ⟨by omega, by omega, by omega⟩) (fun μ1 h1 => ?_)
      refine VW.iinc (lv' := [(0, _), (1, _), (2, _)]) dX0_remove_40 rfl (by decide) rfl ?_
      refine VW.goto 17 dX0_remove_43 (by decide) ?_
      refine ih (j + 1) (by omega) (by omega) μ1 ⟨⟨fun i hi => ?_, ?_⟩, ?_, ?_, fun i hi => ?_⟩
      · by_cases hi2 : i = (j - 1).toNat
        · subst hi2; exact h1.1.1
        · exact (hI.1.1 i hi).keep h1.2 (by omega)
      · exact hI.1.2.keep h1.2 (by omega)
      · rw [h1.2 c (by omega), hI.2.1]
      · exact hI.2.2.1.tr (h1.2.wid (by omega) (by omega))
      · by_cases hi2 : i = (j - 1).toNat
        · subst hi2
          rw [h1.1.2, if_pos (by omega), show (j - 1).toNat + 1 = j.toNat by omega]
        · rw [((show hasRow μ1 (c + 2 + 2 * i) 8 _ from hasRow.keep (L := rowOf μ2 (c + 2 + 2 * i)) ⟨hI.1.1 i (by omega), rfl⟩ h1.2 (by omega))).2, hI.2.2.2 i hi]
          by_cases h3 : p ≤ i ∧ (i : Int) + 1 < j
          · rw [if_pos h3, if_pos (by omega)]
          · rw [if_neg h3, if_neg (by omega)]
theorem c_remove (hst : l.stackTraces = false) (hc : isCmds N sh c) (hK : hasC μ c K) {p : Int} (h0 : 0 ≤ p ∧ p < K.length) : Zv G l N sh M_X0_remove [.ref (gB G + c), vI p] μ (fun μ' => hasC μ' c (K.eraseIdx p.toNat) ∧ frm μ μ' c (c + 24)) := by
  refine Fx.of hst rfl (by decide +kernel) (Nat.le_of_ble_eq_true rfl) rfl ?_
  have hk2 := hK.2.1
  have hk10 := hK.2.2.1
  refine VW.iload_n dX0_remove_0 rfl ?_
  refine VW.if_lt 12 ⟨by omega, by omega⟩ dX0_remove_1 (by decide) (fun c1 => by omega) (fun c1 => ?_)
  refine VW.iload_n dX0_remove_4 rfl ?_
  refine VW.aload_n dX0_remove_5 rfl ?_
  refine VW.getI dX0_remove_6 fa_X0_24 hc.1 hc.2.1 rfl ?_
  refine VW.icmp_lt 13 ⟨by omega, by omega⟩ ⟨by omega, by omega⟩ dX0_remove_9 (by decide) (fun c9 => ?_) (fun c9 => by omega)
  refine VW.iload_n dX0_remove_13 rfl ?_
  refine VW.iconst dX0_remove_14 ?_
  refine VW.iadd dX0_remove_15 ?_
  refine VW.istore_n (lv' := [(0, _), (1, _), (2, _)]) dX0_remove_16 (by decide) rfl ?_
  exact lp_X0_remove hst hc hK h0 (K.length + 1) (p + 1) (by omega) (by omega) μ ⟨hK.1, rfl, frm.rf, fun i hi => by rw [if_neg (by omega)]; exact hK.2.2.2 i hi⟩
theorem lp_X0_copy (hst : l.stackTraces = false) (hc : isCmds N sh c) (hd : isCmds N sh d) (hK : hasC μ d K) (hcd : c + 24 ≤ d ∨ d + 24 ≤ c) : ∀ (n : Nat) (i : Int), 0 ≤ i ∧ i ≤ K.length → K.length - i < n → ∀ μ2 : Mem, (wfC μ2 c ∧ hasC μ2 d K ∧ frm μ μ2 c (c + 24) ∧ ∀ x : Nat, (x : Int) < i → rowOf μ2 (c + 2 + 2 * x) = K.getD x []) → VW G l none M_X0_copy 2 [(0, .ref (gB G + c)), (1, .ref (gB G + d)), (2, vI i)] [] (N, sh, μ2) 0 0 (fxP N sh (oN (vN_v (fun μ' => hasC μ' c K ∧ frm μ μ' c (c + 24))))) := by
  have hk10 := hK.2.2.1
  intro n
  induction n with
  | zero => intro i h1 h2 μ2 hI; omega
  | succ n ih =>
    intro i h1 h2 μ2 hI
    refine VW.iload_n dX0_copy_2 rfl ?_
    refine VW.aload_n dX0_copy_3 rfl ?_
    refine VW.getI dX0_copy_4 fa_X0_24 hd.1 hd.2.1 rfl ?_
    have e2 := hI.2.1.2.1
    refine VW.icmp_ge 29 ⟨by omega, by omega⟩ ⟨by omega, by omega⟩ dX0_copy_7 (by decide) (fun c7 => ?_) (fun c7 => ?_)
    · refine VW.aload_n dX0_copy_29 rfl ?_
      refine VW.aload_n dX0_copy_30 rfl ?_
      refine VW.getI dX0_copy_31 fa_X0_24 hd.1 hd.2.1 rfl ?_
      refine VW.putI dX0_copy_34 fp_X0_24 hc.1 hc.2.1 rfl ?_
      refine VW.vreturn dX0_copy_37 rfl ?_
      refine fxP.vv ?_
      refine ⟨⟨⟨fun x hx => (hI.1.1 x hx).keep (frm_mup (a := c) (lo := c) (hi := c + 1) (by omega)) (by omega), hI.1.2.keep (frm_mup (a := c) (lo := c) (hi := c + 1) (by omega)) (by omega)⟩, by rw [mup_s, e2], hK.2.2.1, fun x hx => ?_⟩, hI.2.2.1.tr (frm_mup (by omega))⟩
      rw [(hasRow.keep (L := rowOf μ2 (c + 2 + 2 * x)) (cap := 8) ⟨hI.1.1 x (by omega), rfl⟩ (frm_mup (a := c) (lo := c) (hi := c + 1) (by omega)) (by omega)).2]
      exact hI.2.2.2 x (by omega)
    · refine VW.aload_n dX0_copy_10 rfl ?_
      refine VW.iload_n dX0_copy_11 rfl ?_
      refine VW.oV1 cv_X0_copy_X0_directions dX0_copy_12 (Nat.le_of_ble_eq_true rfl) hc.1 hc.2.1 (c_directions hst hc ⟨by omega, by omega⟩) ?_
      refine VW.aload_n dX0_copy_15 rfl ?_
      refine VW.iload_n dX0_copy_16 rfl ?_
      refine VW.oV1 cv_X0_copy_X0_directions dX0_copy_17 (Nat.le_of_ble_eq_true rfl) hd.1 hd.2.1 (c_directions hst hd ⟨by omega, by omega⟩) ?_
      refine VW.fvV1 cv_X0_copy_X4_copy dX0_copy_20 (Nat.le_of_ble_eq_true rfl) (hc.2.2.2.2.1 i.toNat (by omega)).1 (hc.2.2.2.2.1 i.toNat (by omega)).2.1 (r_copy hst (hc.2.2.2.2.1 i.toNat (by omega)) (hd.2.2.2.2.1 i.toNat (by omega)) (hI.2.1.row (i := i.toNat) (by omega)) (hK.len8 (by omega)) ⟨by omega, by omega, by omega⟩) (fun μ1 h1 => ?_)
      refine VW.iinc (lv' := [(0, _), (1, _), (2, _)]) dX0_copy_23 rfl (by decide) rfl ?_
      refine VW.goto 2 dX0_copy_26 (by decide) ?_
      refine ih (i + 1) (by omega) (by omega) μ1 ⟨⟨fun x hx => ?_, hI.1.2.keep h1.2 (by omega)⟩, hI.2.1.keep h1.2 (by omega), hI.2.2.1.tr (h1.2.wid (by omega) (by omega)), fun x hx => ?_⟩
      · by_cases hi2 : x = i.toNat
        · subst hi2; exact h1.1.1
        · exact (hI.1.1 x hx).keep h1.2 (by omega)
      · by_cases hi2 : x = i.toNat
        · subst hi2; exact h1.1.2
        · rw [(hasRow.keep (L := rowOf μ2 (c + 2 + 2 * x)) (cap := 8) ⟨hI.1.1 x (by omega), rfl⟩ h1.2 (by omega)).2]
          exact hI.2.2.2 x (by omega)
theorem c_copy (hst : l.stackTraces = false) (hc : isCmds N sh c) (hd : isCmds N sh d) (hw : wfC μ c) (hK : hasC μ d K) (hcd : c + 24 ≤ d ∨ d + 24 ≤ c) : Zv G l N sh M_X0_copy [.ref (gB G + c), .ref (gB G + d)] μ (fun μ' => hasC μ' c K ∧ frm μ μ' c (c + 24)) := by
  refine Fx.of hst rfl (by decide +kernel) (Nat.le_of_ble_eq_true rfl) rfl ?_
  refine VW.iconst dX0_copy_0 ?_
  refine VW.istore_n (lv' := [(0, _), (1, _), (2, _)]) dX0_copy_1 (by decide) rfl ?_
  exact lp_X0_copy hst hc hd hK hcd (K.length + 1) 0 (by omega) (by omega) μ ⟨hw, hK, frm.rf, fun x hx => by omega⟩
theorem st_copy (hst : l.stackTraces = false) (hs : isState N sh s) (ht : isState N sh t) (hw : wfC μ (s + 6)) (hσ : hasSt μ t σ) (hst2 : s + 32 ≤ t ∨ t + 32 ≤ s) : Zv G l N sh M_X5_copy [.ref (gB G + s), .ref (gB G + t)] μ (fun μ' => hasSt μ' s σ ∧ frm μ μ' s (s + 32)) := by
  refine Fx.of hst rfl (by decide +kernel) (Nat.le_of_ble_eq_true rfl) rfl ?_
  refine VW.aload_n dX5_copy_0 rfl ?_
  refine VW.getR dX5_copy_1 fa_X5_12 hs.1 hs.2.1 rfl ?_
  refine VW.aload_n dX5_copy_4 rfl ?_
  refine VW.getR dX5_copy_5 fa_X5_12 ht.1 ht.2.1 rfl ?_
  refine VW.fvV1 cv_X5_copy_X3_copy dX5_copy_8 (Nat.le_of_ble_eq_true rfl) hs.2.2.1.1 hs.2.2.1.2.1 (p_copy hst hs.2.2.1 ht.2.2.1 hσ.1 (by omega)) (fun μ1 h1 => ?_)
  refine VW.aload_n dX5_copy_11 rfl ?_
  refine VW.getR dX5_copy_12 fa_X5_21 hs.1 hs.2.1 rfl ?_
  refine VW.aload_n dX5_copy_15 rfl ?_
  refine VW.getR dX5_copy_16 fa_X5_21 ht.1 ht.2.1 rfl ?_
  refine VW.fvV1 cv_X5_copy_X0_copy dX5_copy_19 (Nat.le_of_ble_eq_true rfl) hs.2.2.2.1.1 hs.2.2.2.1.2.1 (c_copy hst hs.2.2.2.1 ht.2.2.2.1 (hw.keep h1.2 (by omega)) (hσ.2.1.keep h1.2 (by omega)) (by omega)) (fun μ2 h2 => ?_)
  refine VW.aload_n dX5_copy_22 rfl ?_
  refine VW.getR dX5_copy_23 fa_X5_30 hs.1 hs.2.1 rfl ?_
  refine VW.aload_n dX5_copy_26 rfl ?_
  refine VW.getR dX5_copy_27 fa_X5_30 ht.1 ht.2.1 rfl ?_
  refine VW.fvV1 cv_X5_copy_X4_copy dX5_copy_30 (Nat.le_of_ble_eq_true rfl) hs.2.2.2.2.1 hs.2.2.2.2.2.1 (r_copy hst hs.2.2.2.2 ht.2.2.2.2 ((hσ.2.2.keep h1.2 (by omega)).keep h2.2 (by omega)) hσ.2.2.cap ⟨by omega, by omega, by omega⟩) (fun μ3 h3 => ?_)
  refine VW.vreturn dX5_copy_33 rfl ?_
  refine fxP.vv ?_
  exact ⟨⟨(h1.1.keep h2.2 (by omega)).keep h3.2 (by omega), h2.1.keep h3.2 (by omega), h3.1⟩, ((h1.2.wid (by omega) (by omega)).tr (h2.2.wid (by omega) (by omega))).tr (h3.2.wid (by omega) (by omega))⟩
theorem h_held (hst : l.stackTraces = false) (hh : isHist N sh h) (hZ : hasH μ h Z) : Zi G l N sh M_X1_held [.ref (gB G + h)] μ (fun r μ' => r = (Z.length : Int) ∧ μ' = μ) := by
  refine Fx.of hst rfl (by decide +kernel) (Nat.le_of_ble_eq_true rfl) rfl ?_
  refine VW.aload_n dX1_held_0 rfl ?_
  refine VW.getI dX1_held_1 fa_X1_22 hh.1 hh.2.1 rfl ?_
  refine VW.ireturn dX1_held_4 rfl rfl ?_
  exact fxP.ii ⟨hZ.2.2.1, rfl⟩
theorem h_saved (hst : l.stackTraces = false) (hh : isHist N sh h) (ho : 0 ≤ μ h 1 ∧ μ h 1 < 6) {i : Int} (h0 : 0 ≤ i ∧ i < 6) : Zr G l N sh M_X1_saved [.ref (gB G + h), vI i] μ (fun r μ' => r = h + 2 + 32 * (((μ h 1).toNat + i.toNat) % 6) ∧ μ' = μ) := by
  refine Fx.of hst rfl (by decide +kernel) (Nat.le_of_ble_eq_true rfl) rfl ?_
  refine VW.aload_n dX1_saved_0 rfl ?_
  refine VW.getI dX1_saved_1 fa_X1_18 hh.1 hh.2.1 rfl ?_
  refine VW.iload_n dX1_saved_4 rfl ?_
  refine VW.iadd dX1_saved_5 ?_
  refine VW.bipush dX1_saved_6 rfl ?_
  refine VW.irem (x := (μ h 1 + i) % 6) dX1_saved_8 (i32_ne0 (by decide)) (i32_rem (by omega) (by decide)) ?_
  refine VW.istore_n (lv' := [(0, _), (1, _), (2, _)]) dX1_saved_9 (by decide) rfl ?_
  refine VW.iload_n dX1_saved_10 rfl ?_
  refine VW.if_lt 32 ⟨by omega, by omega⟩ dX1_saved_11 (by decide) (fun c11 => by omega) (fun c11 => ?_)
  refine VW.iload_n dX1_saved_14 rfl ?_
  refine VW.aload_n dX1_saved_15 rfl ?_
  refine VW.getR dX1_saved_16 fa_X1_11 hh.1 hh.2.1 rfl ?_
  refine VW.alenQ dX1_saved_19 hh.2.2.1 hh.2.2.2.1 ?_
  refine VW.icmp_ge 32 ⟨by omega, by omega⟩ ⟨by simp, by simp⟩ dX1_saved_20 (by decide) (fun c20 => absurd c20 (by simp; omega)) (fun c20 => ?_)
  refine VW.aload_n dX1_saved_23 rfl ?_
  refine VW.getR dX1_saved_24 fa_X1_11 hh.1 hh.2.1 rfl ?_
  refine VW.iload_n dX1_saved_27 rfl ?_
  refine VW.aaload (b := h + 2 + 32 * (((μ h 1).toNat + i.toNat) % 6)) dX1_saved_28 hh.2.2.1 hh.2.2.2.1 (by omega) (by simp) (by rw [List.getElem?_map, List.getElem?_range (by omega), show ((μ h 1 + i) % 6).toNat = ((μ h 1).toNat + i.toNat) % 6 by omega]; rfl) ?_
  refine VW.goto 33 dX1_saved_29 (by decide) ?_
  refine VW.areturn dX1_saved_33 rfl (Or.inr ⟨_, rfl⟩) ?_
  exact fxP.rr ⟨rfl, rfl⟩
theorem lp_X1_keep (hst : l.stackTraces = false) (hh : isHist N sh h) (hs : isState N sh s) (hZ : hasH μ h Z) (hlt : Z.length < 6) (hσ : hasSt μ s σ) (hsh : s + 32 ≤ h ∨ h + 194 ≤ s) : VW G l none M_X1_keep 32 [(0, .ref (gB G + h)), (1, .ref (gB G + s))] [] (N, sh, μ) 0 0 (fxP N sh (oN (vN_v (fun μ' => hasH μ' h (Z ++ [σ]) ∧ frm μ μ' h (h + 194))))) := by
  have hk := hZ.2.2.1
  have ho := hZ.2.1
  refine VW.aload_n dX1_keep_32 rfl ?_
  refine VW.aload_n dX1_keep_33 rfl ?_
  refine VW.getI dX1_keep_34 fa_X1_22 hh.1 hh.2.1 rfl ?_
  refine VW.oV1 cv_X1_keep_X1_saved dX1_keep_37 (Nat.le_of_ble_eq_true rfl) hh.1 hh.2.1 (h_saved hst hh hZ.2.1 (i := μ h 2) ⟨by omega, by omega⟩) ?_
  refine VW.astore_n (lv' := [(0, _), (1, _), (2, _)]) dX1_keep_40 (by decide) rfl ?_
  refine VW.aload_n dX1_keep_41 rfl ?_
  refine VW.ifnull dX1_keep_42 ?_
  refine VW.aload_n dX1_keep_45 rfl ?_
  refine VW.aload_n dX1_keep_46 rfl ?_
  refine VW.fvV1 cv_X1_keep_X5_copy dX1_keep_47 (Nat.le_of_ble_eq_true rfl) (hh.2.2.2.2 _ (by omega)).1 (hh.2.2.2.2 _ (by omega)).2.1 (st_copy hst (hh.2.2.2.2 (((μ h 1).toNat + (μ h 2).toNat) % 6) (by omega)) hs (hZ.1 _ (by omega)) hσ (by omega)) (fun μ1 h1 => ?_)
  have e1 : μ1 h = μ h := h1.2 h (by omega)
  refine VW.aload_n dX1_keep_50 rfl ?_
  refine VW.dup dX1_keep_51 rfl ?_
  refine VW.getI dX1_keep_52 fa_X1_22 hh.1 hh.2.1 rfl ?_
  refine VW.iconst dX1_keep_55 ?_
  refine VW.iadd dX1_keep_56 ?_
  refine VW.putI dX1_keep_57 fp_X1_22 hh.1 hh.2.1 rfl ?_
  refine VW.vreturn dX1_keep_60 rfl ?_
  refine fxP.vv ?_
  refine ⟨⟨fun j hj => ?_, by rw [mup_k (by decide), e1]; exact hZ.2.1, by rw [mup_s, e1]; simp [hk], by simp; omega, fun k hk2 => ?_⟩, (h1.2.wid (by omega) (by omega)).tr (frm_mup (by omega))⟩
  · by_cases hj2 : j = ((μ h 1).toNat + (μ h 2).toNat) % 6
    · subst hj2
      exact (h1.1.2.1.1).keep (frm_mup (a := h) (lo := h) (hi := h + 1) (by omega)) (by omega)
    · exact ((hZ.1 j hj).keep h1.2 (by omega)).keep (frm_mup (a := h) (lo := h) (hi := h + 1) (by omega)) (by omega)
  · simp only [List.length_append, List.length_singleton] at hk2
    rw [mup_k (by decide), e1]
    by_cases hk3 : k < Z.length
    · rw [show (Z ++ [σ]).getD k (([], []), [], []) = Z.getD k (([], []), [], []) from by simp [List.getD, List.getElem?_append_left hk3]]
      exact ((hZ.2.2.2.2 k hk3).keep h1.2 (by omega)).keep (frm_mup (a := h) (lo := h) (hi := h + 1) (by omega)) (by omega)
    · rw [show (Z ++ [σ]).getD k (([], []), [], []) = σ from by simp [List.getD, show k = Z.length by omega]]
      have e3 : h + 2 + 32 * (((μ h 1).toNat + k) % 6) = h + 2 + 32 * (((μ h 1).toNat + (μ h 2).toNat) % 6) := by rw [show k = (μ h 2).toNat by omega]
      rw [e3]
      exact h1.1.keep (frm_mup (a := h) (lo := h) (hi := h + 1) (by omega)) (by omega)
theorem dl_get (Z : List St) {k : Nat} (h : k < Z.length - 1) : Z.dropLast.getD k (([], []), [], []) = Z.getD k (([], []), [], []) := by
  have h3 : k < Z.length := by omega
  simp [List.getD, List.getElem?_dropLast, h, h3]
theorem hasH_drop (hZ : hasH μ h Z) (h6 : Z.length = 6) : hasH (mup (mup μ h 1 ((μ h 1 + 1) % 6)) h 2 5) h (Z.drop 1) := by
  have ho := hZ.2.1
  have e : mup (mup μ h 1 ((μ h 1 + 1) % 6)) h 2 5 h 1 = (μ h 1 + 1) % 6 := by rw [mup_k (by decide), mup_s]
  have f : frm μ (mup (mup μ h 1 ((μ h 1 + 1) % 6)) h 2 5) h (h + 1) := (frm_mup (by omega)).tr (frm_mup (by omega))
  refine ⟨fun j hj => (hZ.1 j hj).keep f (by omega), by rw [e]; omega, by rw [mup_s]; simp [h6], by simp; omega, fun k hk => ?_⟩
  rw [e]
  simp only [List.length_drop, h6] at hk
  have h1 := (hZ.2.2.2.2 (k + 1) (by omega)).keep f (by omega)
  rw [show ((μ h 1).toNat + (k + 1)) % 6 = (((μ h 1 + 1) % 6).toNat + k) % 6 by omega] at h1
  rw [show (Z.drop 1).getD k (([], []), [], []) = Z.getD (k + 1) (([], []), [], []) from by simp [List.getD, Nat.add_comm]]
  exact h1
theorem h_keep (hst : l.stackTraces = false) (hh : isHist N sh h) (hs : isState N sh s) (hZ : hasH μ h Z) (hσ : hasSt μ s σ) (hsh : s + 32 ≤ h ∨ h + 194 ≤ s) : Zv G l N sh M_X1_keep [.ref (gB G + h), .ref (gB G + s)] μ (fun μ' => hasH μ' h ((if Z.length = 6 then Z.drop 1 else Z) ++ [σ]) ∧ frm μ μ' h (h + 194)) := by
  refine Fx.of hst rfl (by decide +kernel) (Nat.le_of_ble_eq_true rfl) rfl ?_
  have hk := hZ.2.2.1
  have ho := hZ.2.1
  have hl6 := hZ.2.2.2.1
  refine VW.aload_n dX1_keep_0 rfl ?_
  refine VW.getI dX1_keep_1 fa_X1_22 hh.1 hh.2.1 rfl ?_
  refine VW.bipush dX1_keep_4 rfl ?_
  refine VW.icmp_lt 32 ⟨by omega, by omega⟩ ⟨by omega, by omega⟩ dX1_keep_6 (by decide) (fun c6 => ?_) (fun c6 => ?_)
  · first
    | (have h6 : Z.length = 6 := by omega
       rw [if_pos h6, show mup (mup μ h 1 ((μ h 1 + 1) % 6)) h 2 (mup μ h 1 ((μ h 1 + 1) % 6) h 2 - 1) = mup (mup μ h 1 ((μ h 1 + 1) % 6)) h 2 5 from by rw [mup_k (by decide), hk]; congr 1; omega]
       have f : frm μ (mup (mup μ h 1 ((μ h 1 + 1) % 6)) h 2 5) h (h + 194) := (frm_mup (by omega)).tr (frm_mup (by omega))
       exact VW.mono (lp_X1_keep hst hh hs (hasH_drop hZ h6) (by simp; omega) (hσ.keep f (by omega)) hsh) (by rintro r ⟨o, μ', rfl, v, rfl, rfl, h1, h2⟩; exact fxP.vv ⟨h1, f.tr h2⟩))
    | (rw [if_neg (by omega)]
       exact lp_X1_keep hst hh hs hZ (by omega) hσ hsh)
  · refine VW.aload_n dX1_keep_9 rfl ?_
    refine VW.aload_n dX1_keep_10 rfl ?_
    refine VW.getI dX1_keep_11 fa_X1_18 hh.1 hh.2.1 rfl ?_
    refine VW.iconst dX1_keep_14 ?_
    refine VW.iadd dX1_keep_15 ?_
    refine VW.bipush dX1_keep_16 rfl ?_
    refine VW.irem (x := (μ h 1 + 1) % 6) dX1_keep_18 (i32_ne0 (by decide)) (i32_rem (by omega) (by decide)) ?_
    refine VW.putI dX1_keep_19 fp_X1_18 hh.1 hh.2.1 rfl ?_
    refine VW.aload_n dX1_keep_22 rfl ?_
    refine VW.dup dX1_keep_23 rfl ?_
    refine VW.getI dX1_keep_24 fa_X1_22 hh.1 hh.2.1 rfl ?_
    refine VW.iconst dX1_keep_27 ?_
    refine VW.isub dX1_keep_28 ?_
    refine VW.putI dX1_keep_29 fp_X1_22 hh.1 hh.2.1 rfl ?_
    first
    | (have h6 : Z.length = 6 := by omega
       rw [if_pos h6, show mup (mup μ h 1 ((μ h 1 + 1) % 6)) h 2 (mup μ h 1 ((μ h 1 + 1) % 6) h 2 - 1) = mup (mup μ h 1 ((μ h 1 + 1) % 6)) h 2 5 from by rw [mup_k (by decide), hk]; congr 1; omega]
       have f : frm μ (mup (mup μ h 1 ((μ h 1 + 1) % 6)) h 2 5) h (h + 194) := (frm_mup (by omega)).tr (frm_mup (by omega))
       exact VW.mono (lp_X1_keep hst hh hs (hasH_drop hZ h6) (by simp; omega) (hσ.keep f (by omega)) hsh) (by rintro r ⟨o, μ', rfl, v, rfl, rfl, h1, h2⟩; exact fxP.vv ⟨h1, f.tr h2⟩))
    | (rw [if_neg (by omega)]
       exact lp_X1_keep hst hh hs hZ (by omega) hσ hsh)
end PC
