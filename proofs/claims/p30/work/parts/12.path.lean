/-! ===== small functions; Path ===== -/
def sgn (z : Int) : Int := if z < 0 then -1 else if z = 0 then 0 else 1
def tbo (t : Nat) (i : Int) : Int := if 0 ≤ i ∧ i < (tbV t).length then (tbV t).getD i.toNat 0 else 0
def eig (d o : Int) : Int := if (d - o) % 8 ≤ 4 then (d - o) % 8 else 8 - (d - o) % 8
def bI (b : Bool) : Int := if b then 1 else 0
def onLat (x y : Int) : Bool := decide (0 ≤ x ∧ x ≤ 31 ∧ 0 ≤ y ∧ y ≤ 31)
def stepsW (c s : Int) : Int := if s = 0 then 31 else if s > 0 then 31 - c else c
def bnd (L : List Int) (lo hi : Int) : Prop := ∀ x ∈ L, lo ≤ x ∧ x ≤ hi
def isCut (D Ln : List Int) (p lg : Int) : Bool := decide (1 ≤ p ∧ p + 1 < D.length ∧ rat Ln p ≤ lg ∧ eig (rat D (p - 1)) (rat D p) = 1 ∧ eig (rat D p) (rat D (p + 1)) = 1 ∧ eig (rat D (p - 1)) (rat D (p + 1)) = 2)
def dif (L : List Int) (i : Int) : Int := if i < 1 ∨ L.length ≤ i then 0 else rat L i - rat L (i - 1)
def dirF (sx sy : Int) : Nat → Int → Int
  | 0, _ => -1
  | n + 1, d => if tbo 3 d = sx ∧ tbo 4 d = sy then d else dirF sx sy n (d + 1)
def sDir (xs ys : List Int) (i : Int) : Int := dirF (sgn (dif xs i)) (sgn (dif ys i)) 8 0
def sLen (xs ys : List Int) (i : Int) : Int := max (iabs (dif xs i)) (iabs (dif ys i))
def isEven (xs ys : List Int) (i : Int) : Bool := decide (dif xs i = 0 ∨ dif ys i = 0 ∨ iabs (dif xs i) = iabs (dif ys i))
theorem rat_in {L : List Int} {i : Int} (h0 : 0 ≤ i) (h1 : i < L.length) : rat L i ∈ L := by
  unfold rat
  rw [if_pos ⟨h0, h1⟩]
  have h : i.toNat < L.length := by omega
  simp [List.getD, h]
theorem rat_out {L : List Int} {i : Int} (h : i < 0 ∨ L.length ≤ i) : rat L i = -1 := by
  unfold rat
  rw [if_neg (by omega)]
theorem rat_b {L : List Int} {lo hi i : Int} (h : bnd L lo hi) (h0 : 0 ≤ i) (h1 : i < L.length) : lo ≤ rat L i ∧ rat L i ≤ hi := h _ (rat_in h0 h1)
theorem rat_b1 {L : List Int} {lo hi i : Int} (h : bnd L lo hi) (hl : lo ≤ 0) (hh : -1 ≤ hi) : lo - 1 ≤ rat L i ∧ rat L i ≤ hi := by
  by_cases h0 : 0 ≤ i ∧ i < L.length
  · have := rat_b h h0.1 h0.2
    omega
  · rw [rat_out (by omega)]
    omega
theorem dif_b {L : List Int} {hi i : Int} (h : bnd L 0 hi) (hh : 0 ≤ hi) : -hi ≤ dif L i ∧ dif L i ≤ hi := by
  unfold dif
  by_cases h0 : i < 1 ∨ L.length ≤ i
  · rw [if_pos h0]; omega
  · rw [if_neg h0]
    have h1 := rat_b h (i := i) (by omega) (by omega)
    have h2 := rat_b h (i := i - 1) (by omega) (by omega)
    omega
theorem iabs_b {z hi : Int} (h : -hi ≤ z ∧ z ≤ hi) : 0 ≤ iabs z ∧ iabs z ≤ hi := by
  unfold iabs
  by_cases h0 : 0 ≤ z
  · rw [if_pos h0]; omega
  · rw [if_neg h0]; omega
theorem eig_b (d o : Int) : 0 ≤ eig d o ∧ eig d o ≤ 4 := by
  unfold eig
  by_cases h : (d - o) % 8 ≤ 4
  · rw [if_pos h]; omega
  · rw [if_neg h]; omega
theorem and7 {z : Int} (h : -8 ≤ z ∧ z ≤ 8) : Int32.ofInt z &&& Int32.ofInt 7 = Int32.ofInt (z % 8) := by
  have key : ∀ k : Fin 17, Int32.ofInt ((k : Nat) - 8 : Int) &&& Int32.ofInt 7 = Int32.ofInt (((k : Nat) - 8 : Int) % 8) := by decide +kernel
  have := key ⟨(z + 8).toNat, by omega⟩
  rw [show (((⟨(z + 8).toNat, by omega⟩ : Fin 17) : Nat) - 8 : Int) = z by show ((z + 8).toNat : Int) - 8 = z; omega] at this
  exact this
theorem sig31 {z : Int} (h : -31 ≤ z ∧ z ≤ 31) : Int32.ofInt z >>> (Int32.ofInt 31 &&& 31) = Int32.ofInt (if z < 0 then -1 else 0) ∧ ((Int32.ofInt (-z)).toUInt32 >>> ((Int32.ofInt 31).toUInt32 &&& Int32.toUInt32 31)).toInt32 = Int32.ofInt (if 0 < z then 1 else 0) ∧ Int32.ofInt (if z < 0 then -1 else 0) ||| Int32.ofInt (if 0 < z then 1 else 0) = Int32.ofInt (sgn z) := by
  have key : ∀ k : Fin 63, Int32.ofInt ((k : Nat) - 31 : Int) >>> (Int32.ofInt 31 &&& 31) = Int32.ofInt (if ((k : Nat) - 31 : Int) < 0 then -1 else 0) ∧ ((Int32.ofInt (-((k : Nat) - 31 : Int))).toUInt32 >>> ((Int32.ofInt 31).toUInt32 &&& Int32.toUInt32 31)).toInt32 = Int32.ofInt (if 0 < ((k : Nat) - 31 : Int) then 1 else 0) ∧ Int32.ofInt (if ((k : Nat) - 31 : Int) < 0 then -1 else 0) ||| Int32.ofInt (if 0 < ((k : Nat) - 31 : Int) then 1 else 0) = Int32.ofInt (sgn ((k : Nat) - 31 : Int)) := by decide +kernel
  have := key ⟨(z + 31).toNat, by omega⟩
  rw [show (((⟨(z + 31).toNat, by omega⟩ : Fin 63) : Nat) - 31 : Int) = z by show ((z + 31).toNat : Int) - 31 = z; omega] at this
  exact this
section PA
variable {G : GT} {l : Launch} {N : Nat} {sh : Nat → ShT} {μ : Mem}
variable {a b c p t : Nat} {cap capb : Nat}
theorem s_signum (hst : l.stackTraces = false) {z : Int} (hz : -31 ≤ z ∧ z ≤ 31) : Zi G l N sh M_J6_signum_0f7a4 [vI z] μ (fun r μ' => r = sgn z ∧ μ' = μ) := by
  refine Fx.of hst rfl (by decide +kernel) (Nat.le_of_ble_eq_true rfl) rfl ?_
  refine VW.iload_n dJ6_signum_0f7a4_0 rfl ?_
  refine VW.bipush dJ6_signum_0f7a4_1 rfl ?_
  refine VW.ishr (x := if z < 0 then -1 else 0) dJ6_signum_0f7a4_3 (sig31 hz).1 ?_
  refine VW.iload_n dJ6_signum_0f7a4_4 rfl ?_
  refine VW.ineg dJ6_signum_0f7a4_5 ?_
  refine VW.bipush dJ6_signum_0f7a4_6 rfl ?_
  refine VW.iushr (x := if 0 < z then 1 else 0) dJ6_signum_0f7a4_8 (sig31 hz).2.1 ?_
  refine VW.ior (x := sgn z) dJ6_signum_0f7a4_9 (sig31 hz).2.2 ?_
  refine VW.ireturn dJ6_signum_0f7a4_10 rfl rfl ?_
  exact fxP.ii ⟨rfl, rfl⟩
theorem s_X7_of (hst : l.stackTraces = false) (ht : t < 5) {i : Int} (hi : R32 i) : Zi G l N sh M_X7_of [.ref (gT G t), vI i] μ (fun r μ' => r = tbo t i ∧ μ' = μ) := by
  refine Fx.of hst rfl (by decide +kernel) (Nat.le_of_ble_eq_true rfl) rfl ?_
  have h9 := tb_len t
  refine VW.iload_n dX7_of_0 rfl ?_
  refine VW.if_lt 16 ⟨by omega, by omega⟩ dX7_of_1 (by decide) (fun c1 => ?_) (fun c1 => ?_)
  · refine VW.iconst dX7_of_16 ?_
    refine VW.ireturn dX7_of_17 rfl rfl ?_
    refine fxP.ii ⟨?_, rfl⟩
    unfold tbo
    first | (rw [if_pos (by omega)]; done) | (rw [if_neg (by omega)]; done)
  · refine VW.iload_n dX7_of_4 rfl ?_
    refine VW.aload_n dX7_of_5 rfl ?_
    refine VW.tlen ht dX7_of_6 ?_
    refine VW.icmp_ge 16 ⟨by omega, by omega⟩ ⟨by omega, by omega⟩ dX7_of_7 (by decide) (fun c7 => ?_) (fun c7 => ?_)
    · refine VW.iconst dX7_of_16 ?_
      refine VW.ireturn dX7_of_17 rfl rfl ?_
      refine fxP.ii ⟨?_, rfl⟩
      unfold tbo
      first | (rw [if_pos (by omega)]; done) | (rw [if_neg (by omega)]; done)
    · refine VW.aload_n dX7_of_10 rfl ?_
      refine VW.iload_n dX7_of_11 rfl ?_
      refine VW.taload ht dX7_of_12 (by omega) (by omega) ?_
      refine VW.goto 17 dX7_of_13 (by decide) ?_
      refine VW.ireturn dX7_of_17 rfl rfl ?_
      refine fxP.ii ⟨?_, rfl⟩
      unfold tbo
      first | (rw [if_pos (by omega)]; done) | (rw [if_neg (by omega)]; done)
theorem s_X7_isSetting (hst : l.stackTraces = false) {i : Int} (hi : R32 i) : Zi G l N sh M_X7_isSetting [vI i] μ (fun r μ' => r = bI (decide (0 ≤ i ∧ i < 5)) ∧ μ' = μ) := by
  refine Fx.of hst rfl (by decide +kernel) (Nat.le_of_ble_eq_true rfl) rfl ?_
  refine VW.iload_n dX7_isSetting_0 rfl ?_
  refine VW.if_lt 13 ⟨by omega, by omega⟩ dX7_isSetting_1 (by decide) (fun c1 => ?_) (fun c1 => ?_)
  · refine VW.iconst dX7_isSetting_13 ?_
    refine VW.ireturn dX7_isSetting_14 rfl rfl ?_
    refine fxP.ii ⟨?_, rfl⟩
    unfold bI
    first | (rw [if_pos (by rw [decide_eq_true_eq]; omega)]; done) | (rw [if_neg (by rw [decide_eq_true_eq]; omega)]; done)
  · refine VW.iload_n dX7_isSetting_4 rfl ?_
    refine VW.iconst dX7_isSetting_5 ?_
    refine VW.icmp_ge 13 ⟨by omega, by omega⟩ ⟨by omega, by omega⟩ dX7_isSetting_6 (by decide) (fun c6 => ?_) (fun c6 => ?_)
    · refine VW.iconst dX7_isSetting_13 ?_
      refine VW.ireturn dX7_isSetting_14 rfl rfl ?_
      refine fxP.ii ⟨?_, rfl⟩
      unfold bI
      first | (rw [if_pos (by rw [decide_eq_true_eq]; omega)]; done) | (rw [if_neg (by rw [decide_eq_true_eq]; omega)]; done)
    · refine VW.iconst dX7_isSetting_9 ?_
      refine VW.goto 14 dX7_isSetting_10 (by decide) ?_
      refine VW.ireturn dX7_isSetting_14 rfl rfl ?_
      refine fxP.ii ⟨?_, rfl⟩
      unfold bI
      first | (rw [if_pos (by rw [decide_eq_true_eq]; omega)]; done) | (rw [if_neg (by rw [decide_eq_true_eq]; omega)]; done)
theorem s_X7_isDirection (hst : l.stackTraces = false) {i : Int} (hi : R32 i) : Zi G l N sh M_X7_isDirection [vI i] μ (fun r μ' => r = bI (decide (0 ≤ i ∧ i < 8)) ∧ μ' = μ) := by
  refine Fx.of hst rfl (by decide +kernel) (Nat.le_of_ble_eq_true rfl) rfl ?_
  refine VW.iload_n dX7_isDirection_0 rfl ?_
  refine VW.if_lt 14 ⟨by omega, by omega⟩ dX7_isDirection_1 (by decide) (fun c1 => ?_) (fun c1 => ?_)
  · refine VW.iconst dX7_isDirection_14 ?_
    refine VW.ireturn dX7_isDirection_15 rfl rfl ?_
    refine fxP.ii ⟨?_, rfl⟩
    unfold bI
    first | (rw [if_pos (by rw [decide_eq_true_eq]; omega)]; done) | (rw [if_neg (by rw [decide_eq_true_eq]; omega)]; done)
  · refine VW.iload_n dX7_isDirection_4 rfl ?_
    refine VW.bipush dX7_isDirection_5 rfl ?_
    refine VW.icmp_ge 14 ⟨by omega, by omega⟩ ⟨by omega, by omega⟩ dX7_isDirection_7 (by decide) (fun c7 => ?_) (fun c7 => ?_)
    · refine VW.iconst dX7_isDirection_14 ?_
      refine VW.ireturn dX7_isDirection_15 rfl rfl ?_
      refine fxP.ii ⟨?_, rfl⟩
      unfold bI
      first | (rw [if_pos (by rw [decide_eq_true_eq]; omega)]; done) | (rw [if_neg (by rw [decide_eq_true_eq]; omega)]; done)
    · refine VW.iconst dX7_isDirection_10 ?_
      refine VW.goto 15 dX7_isDirection_11 (by decide) ?_
      refine VW.ireturn dX7_isDirection_15 rfl rfl ?_
      refine fxP.ii ⟨?_, rfl⟩
      unfold bI
      first | (rw [if_pos (by rw [decide_eq_true_eq]; omega)]; done) | (rw [if_neg (by rw [decide_eq_true_eq]; omega)]; done)
theorem s_X7_isOnLattice (hst : l.stackTraces = false) {x y : Int} (hx : R32 x) (hy : R32 y) : Zi G l N sh M_X7_isOnLattice [vI x, vI y] μ (fun r μ' => r = bI (onLat x y) ∧ μ' = μ) := by
  refine Fx.of hst rfl (by decide +kernel) (Nat.le_of_ble_eq_true rfl) rfl ?_
  refine VW.iload_n dX7_isOnLattice_0 rfl ?_
  refine VW.if_lt 24 ⟨by omega, by omega⟩ dX7_isOnLattice_1 (by decide) (fun c1 => ?_) (fun c1 => ?_)
  · refine VW.iconst dX7_isOnLattice_24 ?_
    refine VW.ireturn dX7_isOnLattice_25 rfl rfl ?_
    refine fxP.ii ⟨?_, rfl⟩
    unfold bI
    first | (rw [if_pos (by unfold onLat; rw [decide_eq_true_eq]; omega)]; done) | (rw [if_neg (by unfold onLat; rw [decide_eq_true_eq]; omega)]; done)
  · refine VW.iload_n dX7_isOnLattice_4 rfl ?_
    refine VW.bipush dX7_isOnLattice_5 rfl ?_
    refine VW.icmp_gt 24 ⟨by omega, by omega⟩ ⟨by omega, by omega⟩ dX7_isOnLattice_7 (by decide) (fun c7 => ?_) (fun c7 => ?_)
    · refine VW.iconst dX7_isOnLattice_24 ?_
      refine VW.ireturn dX7_isOnLattice_25 rfl rfl ?_
      refine fxP.ii ⟨?_, rfl⟩
      unfold bI
      first | (rw [if_pos (by unfold onLat; rw [decide_eq_true_eq]; omega)]; done) | (rw [if_neg (by unfold onLat; rw [decide_eq_true_eq]; omega)]; done)
    · refine VW.iload_n dX7_isOnLattice_10 rfl ?_
      refine VW.if_lt 24 ⟨by omega, by omega⟩ dX7_isOnLattice_11 (by decide) (fun c11 => ?_) (fun c11 => ?_)
      · refine VW.iconst dX7_isOnLattice_24 ?_
        refine VW.ireturn dX7_isOnLattice_25 rfl rfl ?_
        refine fxP.ii ⟨?_, rfl⟩
        unfold bI
        first | (rw [if_pos (by unfold onLat; rw [decide_eq_true_eq]; omega)]; done) | (rw [if_neg (by unfold onLat; rw [decide_eq_true_eq]; omega)]; done)
      · refine VW.iload_n dX7_isOnLattice_14 rfl ?_
        refine VW.bipush dX7_isOnLattice_15 rfl ?_
        refine VW.icmp_gt 24 ⟨by omega, by omega⟩ ⟨by omega, by omega⟩ dX7_isOnLattice_17 (by decide) (fun c17 => ?_) (fun c17 => ?_)
        · refine VW.iconst dX7_isOnLattice_24 ?_
          refine VW.ireturn dX7_isOnLattice_25 rfl rfl ?_
          refine fxP.ii ⟨?_, rfl⟩
          unfold bI
          first | (rw [if_pos (by unfold onLat; rw [decide_eq_true_eq]; omega)]; done) | (rw [if_neg (by unfold onLat; rw [decide_eq_true_eq]; omega)]; done)
        · refine VW.iconst dX7_isOnLattice_20 ?_
          refine VW.goto 25 dX7_isOnLattice_21 (by decide) ?_
          refine VW.ireturn dX7_isOnLattice_25 rfl rfl ?_
          refine fxP.ii ⟨?_, rfl⟩
          unfold bI
          first | (rw [if_pos (by unfold onLat; rw [decide_eq_true_eq]; omega)]; done) | (rw [if_neg (by unfold onLat; rw [decide_eq_true_eq]; omega)]; done)
theorem s_X7_stepsWithin (hst : l.stackTraces = false) {x s : Int} (hx : R32 x) (hs : R32 s) : Zi G l N sh M_X7_stepsWithin [vI x, vI s] μ (fun r μ' => r = stepsW x s ∧ μ' = μ) := by
  refine Fx.of hst rfl (by decide +kernel) (Nat.le_of_ble_eq_true rfl) rfl ?_
  refine VW.iload_n dX7_stepsWithin_0 rfl ?_
  refine VW.if_ne 7 ⟨by omega, by omega⟩ dX7_stepsWithin_1 (by decide) (fun c1 => ?_) (fun c1 => ?_)
  · refine VW.iload_n dX7_stepsWithin_7 rfl ?_
    refine VW.if_le 18 ⟨by omega, by omega⟩ dX7_stepsWithin_8 (by decide) (fun c8 => ?_) (fun c8 => ?_)
    · refine VW.iload_n dX7_stepsWithin_18 rfl ?_
      refine VW.ireturn dX7_stepsWithin_19 rfl rfl ?_
      refine fxP.ii ⟨?_, rfl⟩
      unfold stepsW
      first | (rw [if_pos (by omega)]; done) | (rw [if_neg (by omega), if_pos (by omega)]; done) | (rw [if_neg (by omega), if_neg (by omega)]; done)
    · refine VW.bipush dX7_stepsWithin_11 rfl ?_
      refine VW.iload_n dX7_stepsWithin_13 rfl ?_
      refine VW.isub dX7_stepsWithin_14 ?_
      refine VW.goto 19 dX7_stepsWithin_15 (by decide) ?_
      refine VW.ireturn dX7_stepsWithin_19 rfl rfl ?_
      refine fxP.ii ⟨?_, rfl⟩
      unfold stepsW
      first | (rw [if_pos (by omega)]; done) | (rw [if_neg (by omega), if_pos (by omega)]; done) | (rw [if_neg (by omega), if_neg (by omega)]; done)
  · refine VW.bipush dX7_stepsWithin_4 rfl ?_
    refine VW.ireturn dX7_stepsWithin_6 rfl rfl ?_
    refine fxP.ii ⟨?_, rfl⟩
    unfold stepsW
    first | (rw [if_pos (by omega)]; done) | (rw [if_neg (by omega), if_pos (by omega)]; done) | (rw [if_neg (by omega), if_neg (by omega)]; done)
theorem s_X7_eighthsBetween (hst : l.stackTraces = false) {d o : Int} (hd : -1 ≤ d ∧ d ≤ 7) (ho : -1 ≤ o ∧ o ≤ 7) : Zi G l N sh M_X7_eighthsBetween [vI d, vI o] μ (fun r μ' => r = eig d o ∧ μ' = μ) := by
  refine Fx.of hst rfl (by decide +kernel) (Nat.le_of_ble_eq_true rfl) rfl ?_
  refine VW.iload_n dX7_eighthsBetween_0 rfl ?_
  refine VW.iload_n dX7_eighthsBetween_1 rfl ?_
  refine VW.isub dX7_eighthsBetween_2 ?_
  refine VW.bipush dX7_eighthsBetween_3 rfl ?_
  refine VW.iand (x := (d - o) % 8) dX7_eighthsBetween_5 (and7 (by omega)) ?_
  refine VW.istore_n (lv' := [(0, _), (1, _), (2, _)]) dX7_eighthsBetween_6 (by decide) rfl ?_
  refine VW.iload_n dX7_eighthsBetween_7 rfl ?_
  refine VW.iconst dX7_eighthsBetween_8 ?_
  refine VW.icmp_gt 16 ⟨by omega, by omega⟩ ⟨by omega, by omega⟩ dX7_eighthsBetween_9 (by decide) (fun c9 => ?_) (fun c9 => ?_)
  · refine VW.bipush dX7_eighthsBetween_16 rfl ?_
    refine VW.iload_n dX7_eighthsBetween_18 rfl ?_
    refine VW.isub dX7_eighthsBetween_19 ?_
    refine VW.ireturn dX7_eighthsBetween_20 rfl rfl ?_
    refine fxP.ii ⟨?_, rfl⟩
    unfold eig
    first | (rw [if_pos (by omega)]; done) | (rw [if_neg (by omega)]; done)
  · refine VW.iload_n dX7_eighthsBetween_12 rfl ?_
    refine VW.goto 20 dX7_eighthsBetween_13 (by decide) ?_
    refine VW.ireturn dX7_eighthsBetween_20 rfl rfl ?_
    refine fxP.ii ⟨?_, rfl⟩
    unfold eig
    first | (rw [if_pos (by omega)]; done) | (rw [if_neg (by omega)]; done)
theorem s_X7_isCutCorner (hst : l.stackTraces = false) (hra : isRow N sh a cap) (hwa : wfR μ a cap) (hrb : isRow N sh b capb) (hwb : wfR μ b capb) (hba : bnd (rowOf μ a) 0 7) (hbb : bnd (rowOf μ b) 0 100000) {p lg : Int} (hp : -1000 ≤ p ∧ p ≤ 1000) (hlg : R32 lg) : Zi G l N sh M_X7_isCutCorner [.ref (gB G + a), .ref (gB G + b), vI p, vI lg] μ (fun r μ' => r = bI (isCut (rowOf μ a) (rowOf μ b) p lg) ∧ μ' = μ) := by
  refine Fx.of hst rfl (by decide +kernel) (Nat.le_of_ble_eq_true rfl) rfl ?_
  have hla : ((rowOf μ a).length : Int) = μ a 1 := by rw [rowOf_len]; have := hwa.1; omega
  have hw1 := hwa.1
  have hw2 := hwa.2
  have hc := hra.2.2.2.2
  refine VW.iload_n dX7_isCutCorner_0 rfl ?_
  refine VW.iconst dX7_isCutCorner_1 ?_
  refine VW.icmp_lt 24 ⟨by omega, by omega⟩ ⟨by omega, by omega⟩ dX7_isCutCorner_2 (by decide) (fun c2 => ?_) (fun c2 => ?_)
  · refine VW.iconst dX7_isCutCorner_24 ?_
    refine VW.ireturn dX7_isCutCorner_25 rfl rfl ?_
    refine fxP.ii ⟨?_, rfl⟩
    unfold bI
    first | (rw [if_pos (by unfold isCut; rw [decide_eq_true_eq, hla]; omega)]; done) | (rw [if_neg (by unfold isCut; rw [decide_eq_true_eq, hla]; omega)]; done)
  · refine VW.iload_n dX7_isCutCorner_5 rfl ?_
    refine VW.iconst dX7_isCutCorner_6 ?_
    refine VW.iadd dX7_isCutCorner_7 ?_
    refine VW.aload_n dX7_isCutCorner_8 rfl ?_
    refine VW.pV0 cv_X7_isCutCorner_X4_held dX7_isCutCorner_9 (Nat.le_of_ble_eq_true rfl) hra.1 hra.2.1 (s_X4_held hst hra) ?_
    refine VW.icmp_ge 24 ⟨by omega, by omega⟩ ⟨by omega, by omega⟩ dX7_isCutCorner_12 (by decide) (fun c12 => ?_) (fun c12 => ?_)
    · refine VW.iconst dX7_isCutCorner_24 ?_
      refine VW.ireturn dX7_isCutCorner_25 rfl rfl ?_
      refine fxP.ii ⟨?_, rfl⟩
      unfold bI
      first | (rw [if_pos (by unfold isCut; rw [decide_eq_true_eq, hla]; omega)]; done) | (rw [if_neg (by unfold isCut; rw [decide_eq_true_eq, hla]; omega)]; done)
    · refine VW.aload_n dX7_isCutCorner_15 rfl ?_
      refine VW.iload_n dX7_isCutCorner_16 rfl ?_
      refine VW.pV1 cv_X7_isCutCorner_X4_at dX7_isCutCorner_17 (Nat.le_of_ble_eq_true rfl) hrb.1 hrb.2.1 (s_X4_at hst hrb hwb ⟨by omega, by omega⟩) ?_
      refine VW.iload_n dX7_isCutCorner_20 rfl ?_
      have hb1 := rat_b1 hbb (i := p) (by omega) (by omega)
      refine VW.icmp_le 26 ⟨by omega, by omega⟩ ⟨by omega, by omega⟩ dX7_isCutCorner_21 (by decide) (fun c21 => ?_) (fun c21 => ?_)
      · have h1 := rat_b1 hba (i := p - 1) (by omega) (by omega)
        have h2 := rat_b1 hba (i := p) (by omega) (by omega)
        have h3 := rat_b1 hba (i := p + 1) (by omega) (by omega)
        have e1 := eig_b (rat (rowOf μ a) (p - 1)) (rat (rowOf μ a) p)
        have e2 := eig_b (rat (rowOf μ a) p) (rat (rowOf μ a) (p + 1))
        have e3 := eig_b (rat (rowOf μ a) (p - 1)) (rat (rowOf μ a) (p + 1))
        refine VW.aload_n dX7_isCutCorner_26 rfl ?_
        refine VW.iload_n dX7_isCutCorner_27 rfl ?_
        refine VW.iconst dX7_isCutCorner_28 ?_
        refine VW.isub dX7_isCutCorner_29 ?_
        refine VW.pV1 cv_X7_isCutCorner_X4_at dX7_isCutCorner_30 (Nat.le_of_ble_eq_true rfl) hra.1 hra.2.1 (s_X4_at hst hra hwa ⟨by omega, by omega⟩) ?_
        refine VW.istore (lv' := [(0, _), (1, _), (2, _), (3, _), (4, _)]) dX7_isCutCorner_33 (by decide) rfl ?_
        refine VW.aload_n dX7_isCutCorner_35 rfl ?_
        refine VW.iload_n dX7_isCutCorner_36 rfl ?_
        refine VW.pV1 cv_X7_isCutCorner_X4_at dX7_isCutCorner_37 (Nat.le_of_ble_eq_true rfl) hra.1 hra.2.1 (s_X4_at hst hra hwa ⟨by omega, by omega⟩) ?_
        refine VW.istore (lv' := [(0, _), (1, _), (2, _), (3, _), (4, _), (5, _)]) dX7_isCutCorner_40 (by decide) rfl ?_
        refine VW.aload_n dX7_isCutCorner_42 rfl ?_
        refine VW.iload_n dX7_isCutCorner_43 rfl ?_
        refine VW.iconst dX7_isCutCorner_44 ?_
        refine VW.iadd dX7_isCutCorner_45 ?_
        refine VW.pV1 cv_X7_isCutCorner_X4_at dX7_isCutCorner_46 (Nat.le_of_ble_eq_true rfl) hra.1 hra.2.1 (s_X4_at hst hra hwa ⟨by omega, by omega⟩) ?_
        refine VW.istore (lv' := [(0, _), (1, _), (2, _), (3, _), (4, _), (5, _), (6, _)]) dX7_isCutCorner_49 (by decide) rfl ?_
        refine VW.iload dX7_isCutCorner_51 rfl ?_
        refine VW.iload dX7_isCutCorner_53 rfl ?_
        refine VW.pS2 cs_X7_isCutCorner_X7_eighthsBetween dX7_isCutCorner_55 (Nat.le_of_ble_eq_true rfl) (s_X7_eighthsBetween hst ⟨by omega, by omega⟩ ⟨by omega, by omega⟩) ?_
        refine VW.iconst dX7_isCutCorner_58 ?_
        refine VW.icmp_ne 88 ⟨by omega, by omega⟩ ⟨by omega, by omega⟩ dX7_isCutCorner_59 (by decide) (fun c59 => ?_) (fun c59 => ?_)
        · refine VW.iconst dX7_isCutCorner_88 ?_
          refine VW.ireturn dX7_isCutCorner_89 rfl rfl ?_
          refine fxP.ii ⟨?_, rfl⟩
          unfold bI
          first | (rw [if_pos (by unfold isCut; rw [decide_eq_true_eq, hla]; omega)]; done) | (rw [if_neg (by unfold isCut; rw [decide_eq_true_eq, hla]; omega)]; done)
        · refine VW.iload dX7_isCutCorner_62 rfl ?_
          refine VW.iload dX7_isCutCorner_64 rfl ?_
          refine VW.pS2 cs_X7_isCutCorner_X7_eighthsBetween dX7_isCutCorner_66 (Nat.le_of_ble_eq_true rfl) (s_X7_eighthsBetween hst ⟨by omega, by omega⟩ ⟨by omega, by omega⟩) ?_
          refine VW.iconst dX7_isCutCorner_69 ?_
          refine VW.icmp_ne 88 ⟨by omega, by omega⟩ ⟨by omega, by omega⟩ dX7_isCutCorner_70 (by decide) (fun c70 => ?_) (fun c70 => ?_)
          · refine VW.iconst dX7_isCutCorner_88 ?_
            refine VW.ireturn dX7_isCutCorner_89 rfl rfl ?_
            refine fxP.ii ⟨?_, rfl⟩
            unfold bI
            first | (rw [if_pos (by unfold isCut; rw [decide_eq_true_eq, hla]; omega)]; done) | (rw [if_neg (by unfold isCut; rw [decide_eq_true_eq, hla]; omega)]; done)
          · refine VW.iload dX7_isCutCorner_73 rfl ?_
            refine VW.iload dX7_isCutCorner_75 rfl ?_
            refine VW.pS2 cs_X7_isCutCorner_X7_eighthsBetween dX7_isCutCorner_77 (Nat.le_of_ble_eq_true rfl) (s_X7_eighthsBetween hst ⟨by omega, by omega⟩ ⟨by omega, by omega⟩) ?_
            refine VW.iconst dX7_isCutCorner_80 ?_
            refine VW.icmp_ne 88 ⟨by omega, by omega⟩ ⟨by omega, by omega⟩ dX7_isCutCorner_81 (by decide) (fun c81 => ?_) (fun c81 => ?_)
            · refine VW.iconst dX7_isCutCorner_88 ?_
              refine VW.ireturn dX7_isCutCorner_89 rfl rfl ?_
              refine fxP.ii ⟨?_, rfl⟩
              unfold bI
              first | (rw [if_pos (by unfold isCut; rw [decide_eq_true_eq, hla]; omega)]; done) | (rw [if_neg (by unfold isCut; rw [decide_eq_true_eq, hla]; omega)]; done)
            · refine VW.iconst dX7_isCutCorner_84 ?_
              refine VW.goto 89 dX7_isCutCorner_85 (by decide) ?_
              refine VW.ireturn dX7_isCutCorner_89 rfl rfl ?_
              refine fxP.ii ⟨?_, rfl⟩
              unfold bI
              first | (rw [if_pos (by unfold isCut; rw [decide_eq_true_eq, hla]; omega)]; done) | (rw [if_neg (by unfold isCut; rw [decide_eq_true_eq, hla]; omega)]; done)
      · refine VW.iconst dX7_isCutCorner_24 ?_
        refine VW.ireturn dX7_isCutCorner_25 rfl rfl ?_
        refine fxP.ii ⟨?_, rfl⟩
        unfold bI
        first | (rw [if_pos (by unfold isCut; rw [decide_eq_true_eq, hla]; omega)]; done) | (rw [if_neg (by unfold isCut; rw [decide_eq_true_eq, hla]; omega)]; done)
def isPath (N : Nat) (sh : Nat → ShT) (p : Nat) : Prop := p < N ∧ sh p = sO 3 [fR (p + 1), fR (p + 3)] ∧ isRow N sh (p + 1) 41 ∧ isRow N sh (p + 3) 41
/-- a path's numbers are in order: both rows as long, 0 to 31 -/
def wfP (μ : Mem) (p : Nat) : Prop := (wfR μ (p + 1) 41 ∧ wfR μ (p + 3) 41 ∧ μ (p + 3) 1 = μ (p + 1) 1) ∧ bnd (rowOf μ (p + 1)) 0 31 ∧ bnd (rowOf μ (p + 3)) 0 31
theorem s_X3_held (hst : l.stackTraces = false) (hp : isPath N sh p) : Zi G l N sh M_X3_held [.ref (gB G + p)] μ (fun r μ' => r = μ (p + 1) 1 ∧ μ' = μ) := by
  refine Fx.of hst rfl (by decide +kernel) (Nat.le_of_ble_eq_true rfl) rfl ?_
  refine VW.aload_n dX3_held_0 rfl ?_
  refine VW.getR dX3_held_1 fa_X3_14 hp.1 hp.2.1 rfl ?_
  refine VW.pV0 cv_X3_held_X4_held dX3_held_4 (Nat.le_of_ble_eq_true rfl) hp.2.2.1.1 hp.2.2.1.2.1 (s_X4_held hst hp.2.2.1) ?_
  refine VW.ireturn dX3_held_7 rfl rfl ?_
  exact fxP.ii ⟨rfl, rfl⟩
theorem s_X3_x (hst : l.stackTraces = false) (hp : isPath N sh p) (hw : wfP μ p) {i : Int} (hi : R32 i) : Zi G l N sh M_X3_x [.ref (gB G + p), vI i] μ (fun r μ' => r = rat (rowOf μ (p + 1)) i ∧ μ' = μ) := by
  refine Fx.of hst rfl (by decide +kernel) (Nat.le_of_ble_eq_true rfl) rfl ?_
  refine VW.aload_n dX3_x_0 rfl ?_
  refine VW.getR dX3_x_1 fa_X3_14 hp.1 hp.2.1 rfl ?_
  refine VW.iload_n dX3_x_4 rfl ?_
  refine VW.pV1 cv_X3_x_X4_at dX3_x_5 (Nat.le_of_ble_eq_true rfl) hp.2.2.1.1 hp.2.2.1.2.1 (s_X4_at hst hp.2.2.1 hw.1.1 hi) ?_
  refine VW.ireturn dX3_x_8 rfl rfl ?_
  exact fxP.ii ⟨rfl, rfl⟩
theorem s_X3_y (hst : l.stackTraces = false) (hp : isPath N sh p) (hw : wfP μ p) {i : Int} (hi : R32 i) : Zi G l N sh M_X3_y [.ref (gB G + p), vI i] μ (fun r μ' => r = rat (rowOf μ (p + 3)) i ∧ μ' = μ) := by
  refine Fx.of hst rfl (by decide +kernel) (Nat.le_of_ble_eq_true rfl) rfl ?_
  refine VW.aload_n dX3_y_0 rfl ?_
  refine VW.getR dX3_y_1 fa_X3_20 hp.1 hp.2.1 rfl ?_
  refine VW.iload_n dX3_y_4 rfl ?_
  refine VW.pV1 cv_X3_y_X4_at dX3_y_5 (Nat.le_of_ble_eq_true rfl) hp.2.2.2.1 hp.2.2.2.2.1 (s_X4_at hst hp.2.2.2 hw.1.2.1 hi) ?_
  refine VW.ireturn dX3_y_8 rfl rfl ?_
  exact fxP.ii ⟨rfl, rfl⟩
theorem s_X3_difference (hst : l.stackTraces = false) (hra : isRow N sh a cap) (hwa : wfR μ a cap) {i : Int} (hi : -10000 ≤ i ∧ i ≤ 10000) : Zi G l N sh M_X3_difference [.ref (gB G + a), vI i] μ (fun r μ' => r = dif (rowOf μ a) i ∧ μ' = μ) := by
  refine Fx.of hst rfl (by decide +kernel) (Nat.le_of_ble_eq_true rfl) rfl ?_
  have hla : ((rowOf μ a).length : Int) = μ a 1 := by rw [rowOf_len]; have := hwa.1; omega
  have hw1 := hwa.1
  have hw2 := hwa.2
  have hc := hra.2.2.2.2
  refine VW.iload_n dX3_difference_0 rfl ?_
  refine VW.iconst dX3_difference_1 ?_
  refine VW.icmp_lt 13 ⟨by omega, by omega⟩ ⟨by omega, by omega⟩ dX3_difference_2 (by decide) (fun c2 => ?_) (fun c2 => ?_)
  · refine VW.iconst dX3_difference_13 ?_
    refine VW.ireturn dX3_difference_14 rfl rfl ?_
    refine fxP.ii ⟨?_, rfl⟩
    unfold dif
    first | (rw [if_pos (by omega)]; done) | (rw [if_neg (by omega)]; done)
  · refine VW.iload_n dX3_difference_5 rfl ?_
    refine VW.aload_n dX3_difference_6 rfl ?_
    refine VW.pV0 cv_X3_difference_X4_held dX3_difference_7 (Nat.le_of_ble_eq_true rfl) hra.1 hra.2.1 (s_X4_held hst hra) ?_
    refine VW.icmp_lt 15 ⟨by omega, by omega⟩ ⟨by omega, by omega⟩ dX3_difference_10 (by decide) (fun c10 => ?_) (fun c10 => ?_)
    · refine VW.aload_n dX3_difference_15 rfl ?_
      refine VW.iload_n dX3_difference_16 rfl ?_
      refine VW.pV1 cv_X3_difference_X4_at dX3_difference_17 (Nat.le_of_ble_eq_true rfl) hra.1 hra.2.1 (s_X4_at hst hra hwa ⟨by omega, by omega⟩) ?_
      refine VW.aload_n dX3_difference_20 rfl ?_
      refine VW.iload_n dX3_difference_21 rfl ?_
      refine VW.iconst dX3_difference_22 ?_
      refine VW.isub dX3_difference_23 ?_
      refine VW.pV1 cv_X3_difference_X4_at dX3_difference_24 (Nat.le_of_ble_eq_true rfl) hra.1 hra.2.1 (s_X4_at hst hra hwa ⟨by omega, by omega⟩) ?_
      refine VW.isub dX3_difference_27 ?_
      refine VW.ireturn dX3_difference_28 rfl rfl ?_
      refine fxP.ii ⟨?_, rfl⟩
      unfold dif
      first | (rw [if_pos (by omega)]; done) | (rw [if_neg (by omega)]; done)
    · refine VW.iconst dX3_difference_13 ?_
      refine VW.ireturn dX3_difference_14 rfl rfl ?_
      refine fxP.ii ⟨?_, rfl⟩
      unfold dif
      first | (rw [if_pos (by omega)]; done) | (rw [if_neg (by omega)]; done)
theorem tbo_b (t : Nat) (ht : t = 3 ∨ t = 4) (d : Int) : -1 ≤ tbo t d ∧ tbo t d ≤ 1 := by
  unfold tbo
  by_cases h : 0 ≤ d ∧ d < (tbV t).length
  · rw [if_pos h]
    rcases ht with rfl | rfl
    · have key : ∀ k : Fin 8, -1 ≤ (tbV 3).getD (k : Nat) 0 ∧ (tbV 3).getD (k : Nat) 0 ≤ 1 := by decide
      exact key ⟨d.toNat, by have := h.2; have e : (tbV 3).length = 8 := rfl; omega⟩
    · have key : ∀ k : Fin 8, -1 ≤ (tbV 4).getD (k : Nat) 0 ∧ (tbV 4).getD (k : Nat) 0 ≤ 1 := by decide
      exact key ⟨d.toNat, by have := h.2; have e : (tbV 4).length = 8 := rfl; omega⟩
  · rw [if_neg h]; omega
theorem lp_X3_directionTo (hst : l.stackTraces = false) {i sx sy : Int} (hsx : -1 ≤ sx ∧ sx ≤ 1) (hsy : -1 ≤ sy ∧ sy ≤ 1) : ∀ (n : Nat) (d : Int), d + n = 8 → 0 ≤ d → VW G l none M_X3_directionTo 27 [(0, .ref (gB G + p)), (1, vI i), (2, vI sx), (3, vI sy), (4, vI d)] [] (N, sh, μ) 0 0 (fxP N sh (oN (vN_i (fun r μ' => r = dirF sx sy n d ∧ μ' = μ)))) := by
  intro n
  induction n with
  | zero => intro d h1 h2; (refine VW.iload dX3_directionTo_27 rfl ?_; refine VW.bipush dX3_directionTo_29 rfl ?_; refine VW.icmp_ge 67 ⟨by omega, by omega⟩ ⟨by omega, by omega⟩ dX3_directionTo_31 (by decide) (fun _ => ?_) (fun c => by omega); refine VW.iconst dX3_directionTo_67 ?_; refine VW.ireturn dX3_directionTo_68 rfl rfl ?_; exact fxP.ii ⟨rfl, rfl⟩)
  | succ n ih =>
    intro d h1 h2
    have h3 := tbo_b 3 (by decide) d
    have h4 := tbo_b 4 (by decide) d
    refine VW.iload dX3_directionTo_27 rfl ?_
    refine VW.bipush dX3_directionTo_29 rfl ?_
    refine VW.icmp_ge 67 ⟨by omega, by omega⟩ ⟨by omega, by omega⟩ dX3_directionTo_31 (by decide) (fun c31 => by omega) (fun c31 => ?_)
    refine VW.gets dX3_directionTo_34 ta_X3_50 ?_
    refine VW.iload dX3_directionTo_37 rfl ?_
    refine VW.pN2 cn_X3_directionTo_X7_of dX3_directionTo_39 (Nat.le_of_ble_eq_true rfl) (s_X7_of hst (t := 3) (by decide) ⟨by omega, by omega⟩) ?_
    refine VW.iload_n dX3_directionTo_42 rfl ?_
    refine VW.icmp_ne 61 ⟨by omega, by omega⟩ ⟨by omega, by omega⟩ dX3_directionTo_43 (by decide) (fun c43 => ?_) (fun c43 => ?_)
    · refine VW.iinc (lv' := [(0, _), (1, _), (2, _), (3, _), (4, _)]) dX3_directionTo_61 rfl (by decide) rfl ?_
      refine VW.goto 27 dX3_directionTo_64 (by decide) ?_
      rw [show dirF sx sy (n + 1) d = (if tbo 3 d = sx ∧ tbo 4 d = sy then d else dirF sx sy n (d + 1)) from rfl, if_neg (by omega)]
      exact ih (d + 1) (by omega) (by omega)
    · refine VW.gets dX3_directionTo_46 ta_X3_58 ?_
      refine VW.iload dX3_directionTo_49 rfl ?_
      refine VW.pN2 cn_X3_directionTo_X7_of dX3_directionTo_51 (Nat.le_of_ble_eq_true rfl) (s_X7_of hst (t := 4) (by decide) ⟨by omega, by omega⟩) ?_
      refine VW.iload_n dX3_directionTo_54 rfl ?_
      refine VW.icmp_ne 61 ⟨by omega, by omega⟩ ⟨by omega, by omega⟩ dX3_directionTo_55 (by decide) (fun c55 => ?_) (fun c55 => ?_)
      · refine VW.iinc (lv' := [(0, _), (1, _), (2, _), (3, _), (4, _)]) dX3_directionTo_61 rfl (by decide) rfl ?_
        refine VW.goto 27 dX3_directionTo_64 (by decide) ?_
        rw [show dirF sx sy (n + 1) d = (if tbo 3 d = sx ∧ tbo 4 d = sy then d else dirF sx sy n (d + 1)) from rfl, if_neg (by omega)]
        exact ih (d + 1) (by omega) (by omega)
      · refine VW.iload dX3_directionTo_58 rfl ?_
        refine VW.ireturn dX3_directionTo_60 rfl rfl ?_
        refine fxP.ii ⟨?_, rfl⟩
        rw [show dirF sx sy (n + 1) d = (if tbo 3 d = sx ∧ tbo 4 d = sy then d else dirF sx sy n (d + 1)) from rfl, if_pos (by omega)]
theorem sgn_b (z : Int) : -1 ≤ sgn z ∧ sgn z ≤ 1 := by
  unfold sgn
  by_cases h : z < 0
  · rw [if_pos h]; omega
  · rw [if_neg h]
    by_cases h2 : z = 0
    · rw [if_pos h2]; omega
    · rw [if_neg h2]; omega
theorem s_X3_directionTo (hst : l.stackTraces = false) (hp : isPath N sh p) (hw : wfP μ p) {i : Int} (hi : -10000 ≤ i ∧ i ≤ 10000) : Zi G l N sh M_X3_directionTo [.ref (gB G + p), vI i] μ (fun r μ' => r = sDir (rowOf μ (p + 1)) (rowOf μ (p + 3)) i ∧ μ' = μ) := by
  refine Fx.of hst rfl (by decide +kernel) (Nat.le_of_ble_eq_true rfl) rfl ?_
  have hbx := dif_b hw.2.1 (i := i) (by omega)
  have hby := dif_b hw.2.2 (i := i) (by omega)
  refine VW.aload_n dX3_directionTo_0 rfl ?_
  refine VW.getR dX3_directionTo_1 fa_X3_14 hp.1 hp.2.1 rfl ?_
  refine VW.iload_n dX3_directionTo_4 rfl ?_
  refine VW.pS2 cs_X3_directionTo_X3_difference dX3_directionTo_5 (Nat.le_of_ble_eq_true rfl) (s_X3_difference hst hp.2.2.1 hw.1.1 hi) ?_
  refine VW.pS1 cs_X3_directionTo_J6_signum_0f7a4 dX3_directionTo_8 (Nat.le_of_ble_eq_true rfl) (s_signum hst hbx) ?_
  refine VW.istore_n (lv' := [(0, _), (1, _), (2, _)]) dX3_directionTo_11 (by decide) rfl ?_
  refine VW.aload_n dX3_directionTo_12 rfl ?_
  refine VW.getR dX3_directionTo_13 fa_X3_20 hp.1 hp.2.1 rfl ?_
  refine VW.iload_n dX3_directionTo_16 rfl ?_
  refine VW.pS2 cs_X3_directionTo_X3_difference dX3_directionTo_17 (Nat.le_of_ble_eq_true rfl) (s_X3_difference hst hp.2.2.2 hw.1.2.1 hi) ?_
  refine VW.pS1 cs_X3_directionTo_J6_signum_0f7a4 dX3_directionTo_20 (Nat.le_of_ble_eq_true rfl) (s_signum hst hby) ?_
  refine VW.istore_n (lv' := [(0, _), (1, _), (2, _), (3, _)]) dX3_directionTo_23 (by decide) rfl ?_
  refine VW.iconst dX3_directionTo_24 ?_
  refine VW.istore (lv' := [(0, _), (1, _), (2, _), (3, _), (4, _)]) dX3_directionTo_25 (by decide) rfl ?_
  exact lp_X3_directionTo (p := p) (i := i) hst (sgn_b _) (sgn_b _) 8 0 (by omega) (by omega)
theorem s_X3_lengthTo (hst : l.stackTraces = false) (hp : isPath N sh p) (hw : wfP μ p) {i : Int} (hi : -10000 ≤ i ∧ i ≤ 10000) : Zi G l N sh M_X3_lengthTo [.ref (gB G + p), vI i] μ (fun r μ' => r = sLen (rowOf μ (p + 1)) (rowOf μ (p + 3)) i ∧ μ' = μ) := by
  refine Fx.of hst rfl (by decide +kernel) (Nat.le_of_ble_eq_true rfl) rfl ?_
  have hbx := dif_b hw.2.1 (i := i) (by omega)
  have hby := dif_b hw.2.2 (i := i) (by omega)
  have hax := iabs_b hbx
  have hay := iabs_b hby
  refine VW.aload_n dX3_lengthTo_0 rfl ?_
  refine VW.getR dX3_lengthTo_1 fa_X3_14 hp.1 hp.2.1 rfl ?_
  refine VW.iload_n dX3_lengthTo_4 rfl ?_
  refine VW.pS2 cs_X3_lengthTo_X3_difference dX3_lengthTo_5 (Nat.le_of_ble_eq_true rfl) (s_X3_difference hst hp.2.2.1 hw.1.1 hi) ?_
  refine VW.mabs dX3_lengthTo_8 ⟨by omega, by omega⟩ wd_481 (by decide) (Nat.le_of_ble_eq_true rfl) ?_
  refine VW.aload_n dX3_lengthTo_11 rfl ?_
  refine VW.getR dX3_lengthTo_12 fa_X3_20 hp.1 hp.2.1 rfl ?_
  refine VW.iload_n dX3_lengthTo_15 rfl ?_
  refine VW.pS2 cs_X3_lengthTo_X3_difference dX3_lengthTo_16 (Nat.le_of_ble_eq_true rfl) (s_X3_difference hst hp.2.2.2 hw.1.2.1 hi) ?_
  refine VW.mabs dX3_lengthTo_19 ⟨by omega, by omega⟩ wd_481 (by decide) (Nat.le_of_ble_eq_true rfl) ?_
  refine VW.mmax dX3_lengthTo_22 ⟨by omega, by omega⟩ ⟨by omega, by omega⟩ wd_484 (by decide) (Nat.le_of_ble_eq_true rfl) ?_
  refine VW.ireturn dX3_lengthTo_25 rfl rfl ?_
  exact fxP.ii ⟨rfl, rfl⟩
def reachOf (xs ys : List Int) : Int := max (iabs (rat xs (xs.length - 1) - rat xs 0)) (iabs (rat ys (xs.length - 1) - rat ys 0))
end PA
