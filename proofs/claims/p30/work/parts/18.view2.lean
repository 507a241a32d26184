/-! ===== View: what it tells ===== -/
def nbS (D : List Int) (w o b : Int) : Int := if o ≠ w ∧ (b = -1 ∨ rat D o < rat D b) then o else b
def nbF (D : List Int) (w : Int) : Nat → Int → Int → Int
  | 0, _, b => b
  | n + 1, o, b => nbF D w n (o + 1) (nbS D w o b)
def nbut (D : List Int) (w : Int) : Int := nbF D w D.length 0 (-1)
theorem nbF_b (D : List Int) (w : Int) : ∀ (n : Nat) (o b : Int), 0 ≤ o → -1 ≤ b ∧ b < o → -1 ≤ nbF D w n o b ∧ nbF D w n o b < o + n
  | 0, o, b, h0, h => by show -1 ≤ b ∧ b < o + 0; omega
  | n + 1, o, b, h0, h => by
    have h2 := nbF_b D w n (o + 1) (nbS D w o b) (by omega) (by unfold nbS; split <;> omega)
    show -1 ≤ nbF D w n (o + 1) (nbS D w o b) ∧ nbF D w n (o + 1) (nbS D w o b) < o + ((n + 1 : Nat) : Int)
    omega
theorem nbut_b (D : List Int) (w : Int) : -1 ≤ nbut D w ∧ nbut D w < D.length := by
  have h := nbF_b D w D.length 0 (-1) (by omega) (by omega)
  unfold nbut
  omega
def msF (R : List Int) : Nat → Int → Int → Int
  | 0, _, m => m
  | n + 1, c, m => msF R n (c + 1) (if rat R c ≠ -1 then m + 2 ^ c.toNat else m)
def maskOf (R : List Int) : Int := msF R R.length 0 0
def scF (R : List Int) : Nat → Int → Int × Int → Int × Int
  | 0, _, q => q
  | n + 1, c, q => scF R n (c + 1) (if rat R c ≠ -1 then (q.1 + 1, rat R c) else q)
theorem scF_p (R : List Int) (n : Nat) (c f e : Int) (h : ¬ rat R c = -1) : scF R (n + 1) c (f, e) = scF R n (c + 1) (f + 1, rat R c) := by
  show scF R n (c + 1) (if rat R c ≠ -1 then (f + 1, rat R c) else (f, e)) = _
  rw [if_pos h]
theorem scF_n (R : List Int) (n : Nat) (c f e : Int) (h : rat R c = -1) : scF R (n + 1) c (f, e) = scF R n (c + 1) (f, e) := by
  show scF R n (c + 1) (if rat R c ≠ -1 then (f + 1, rat R c) else (f, e)) = _
  rw [if_neg (fun q => q h)]
def comeOf (R : List Int) : Int := if (scF R R.length 0 (0, -1)).1 = 1 then (scF R R.length 0 (0, -1)).2 else -1
def readOf (n : Int) (D : List Int) (f : Int) : Int := if 0 < n ∧ rat D (nbut D (-1)) ≤ f then nbut D (-1) else -1
theorem ior_bit0 : ∀ c : Fin 10, ∀ m : Fin 512, m.val < 2 ^ c.val → Int32.ofInt (m.val : Int) ||| Int32.ofInt ((2 ^ c.val : Nat) : Int) = Int32.ofInt ((m.val + 2 ^ c.val : Nat) : Int) := by decide +kernel
theorem pow_b (c : Nat) (h : c < 10) : (2 : Nat) ^ c ≤ 512 := Nat.le_trans (Nat.pow_le_pow_right (by decide) (by omega : c ≤ 9)) (by decide)
theorem pow_c (c : Nat) : ((2 ^ c : Nat) : Int) = (2 : Int) ^ c := by simp
theorem pow_p (c : Nat) : (0 : Int) < 2 ^ c := by rw [← pow_c]; exact Int.natCast_pos.mpr (Nat.pow_pos (by decide))
theorem ior_bit {c m : Int} (hc : 0 ≤ c ∧ c < 10) (hm : 0 ≤ m ∧ m < 2 ^ c.toNat) : Int32.ofInt m ||| Int32.ofInt (2 ^ c.toNat) = Int32.ofInt (m + 2 ^ c.toNat) := by
  have hb := pow_b c.toNat (by omega)
  have h2 : m.toNat < 2 ^ c.toNat := by have := pow_c c.toNat; omega
  have h := ior_bit0 ⟨c.toNat, by omega⟩ ⟨m.toNat, by omega⟩ h2
  simp only [] at h
  rw [pow_c, Int.natCast_add, pow_c, show ((m.toNat : Nat) : Int) = m by omega] at h
  exact h
theorem ishl_bit0 : ∀ c : Fin 10, Int32.ofInt 1 <<< (Int32.ofInt (c.val : Int) &&& 31) = Int32.ofInt ((2 ^ c.val : Nat) : Int) := by decide +kernel
theorem ishl_bit {c : Int} (hc : 0 ≤ c ∧ c < 10) : Int32.ofInt 1 <<< (Int32.ofInt c &&& 31) = Int32.ofInt (2 ^ c.toNat) := by
  have h := ishl_bit0 ⟨c.toNat, by omega⟩
  simp only [] at h
  rw [pow_c, show ((c.toNat : Nat) : Int) = c by omega] at h
  exact h
theorem pow_s {c : Int} (h : 0 ≤ c) : (2 : Int) ^ (c + 1).toNat = 2 ^ c.toNat + 2 ^ c.toNat := by
  rw [show (c + 1).toNat = c.toNat + 1 by omega, Int.pow_succ]
  omega
section PG
variable {G : GT} {l : Launch} {N : Nat} {sh : Nat → ShT} {μ : Mem}
variable {v s : Nat} {D R S K : List Int}
theorem lp_X6_nb (hst : l.stackTraces = false) (hv : isView N sh v) (hD : hasRow μ (v + 12) 10 D) (hDb : bnd D 0 1000) {w : Int} (hw : R32 w) : ∀ (n : Nat) (o b : Int), 0 ≤ o → o + n = D.length → -1 ≤ b ∧ b < o → VW G l none M_X6_nearestBut 4 [(0, .ref (gB G + v)), (1, vI w), (2, vI b), (3, vI o)] [] (N, sh, μ) 0 0 (fxP N sh (oN (vN_i (fun r μ' => r = nbF D w n o b ∧ μ' = μ)))) := by
  have hD10 := hD.cap
  intro n
  induction n with
  | zero =>
    intro o b h1 h2 h3
    refine VW.iload_n dX6_nearestBut_4 rfl ?_
    refine VW.aload_n dX6_nearestBut_5 rfl ?_
    refine VW.getR dX6_nearestBut_6 fa_X6_36 hv.1 hv.2.1 rfl ?_
    refine VW.pV0 cv_X6_nearestBut_X4_held dX6_nearestBut_9 (Nat.le_of_ble_eq_true rfl) hv.2.2.2.2.2.2.2.1.1 hv.2.2.2.2.2.2.2.1.2.1 (r_held hst hv.2.2.2.2.2.2.2.1 hD) ?_
    refine VW.icmp_ge 64 ⟨by omega, by omega⟩ ⟨by omega, by omega⟩ dX6_nearestBut_12 (by decide) (fun c12 => ?_) (fun c12 => by omega)
    refine VW.iload_n dX6_nearestBut_64 rfl ?_
    refine VW.ireturn dX6_nearestBut_65 rfl rfl ?_
    exact fxP.ii ⟨rfl, rfl⟩
  | succ n ih =>
    intro o b h1 h2 h3
    refine VW.iload_n dX6_nearestBut_4 rfl ?_
    refine VW.aload_n dX6_nearestBut_5 rfl ?_
    refine VW.getR dX6_nearestBut_6 fa_X6_36 hv.1 hv.2.1 rfl ?_
    refine VW.pV0 cv_X6_nearestBut_X4_held dX6_nearestBut_9 (Nat.le_of_ble_eq_true rfl) hv.2.2.2.2.2.2.2.1.1 hv.2.2.2.2.2.2.2.1.2.1 (r_held hst hv.2.2.2.2.2.2.2.1 hD) ?_
    refine VW.icmp_ge 64 ⟨by omega, by omega⟩ ⟨by omega, by omega⟩ dX6_nearestBut_12 (by decide) (fun c12 => by omega) (fun c12 => ?_)
    have hb1 := rat_b1 hDb (i := o) (by omega) (by omega)
    have hb2 := rat_b1 hDb (i := b) (by omega) (by omega)
    refine VW.iload_n dX6_nearestBut_15 rfl ?_
    refine VW.iconst dX6_nearestBut_16 ?_
    refine VW.icmp_eq 39 ⟨by omega, by omega⟩ ⟨by omega, by omega⟩ dX6_nearestBut_17 (by decide) (fun c17 => ?_) (fun c17 => ?_)
    · refine VW.iconst dX6_nearestBut_39 ?_
      refine VW.goto 44 dX6_nearestBut_40 (by decide) ?_
      refine VW.istore (lv' := [(0, _), (1, _), (2, _), (3, _), (4, _)]) dX6_nearestBut_44 (by decide) rfl ?_
      refine VW.iload_n dX6_nearestBut_46 rfl ?_
      refine VW.iload_n dX6_nearestBut_47 rfl ?_
      refine VW.icmp_eq 58 ⟨by omega, by omega⟩ ⟨by omega, by omega⟩ dX6_nearestBut_48 (by decide) (fun c48 => ?_) (fun c48 => ?_)
      · refine VW.iinc (lv' := [(0, _), (1, _), (2, _), (3, _), (4, _)]) dX6_nearestBut_58 rfl (by decide) rfl ?_
        refine VW.goto 4 dX6_nearestBut_61 (by decide) ?_
        refine VW.sub ?_ [0, 1, 2, 3] rfl
        rw [show nbF D w (n + 1) o b = nbF D w n (o + 1) (nbS D w o b) from rfl]
        unfold nbS
        first
        | (rw [if_pos (by omega)]; exact ih (o + 1) _ (by omega) (by omega) (by omega); done)
        | (rw [if_neg (by omega)]; exact ih (o + 1) _ (by omega) (by omega) (by omega); done)
      · refine VW.iload dX6_nearestBut_51 rfl ?_
        refine VW.if_eq 58 (by decide) dX6_nearestBut_53 (by decide) (fun c53 => absurd c53 (by decide)) (fun _ => ?_)
        refine VW.iload_n dX6_nearestBut_56 rfl ?_
        refine VW.istore_n (lv' := [(0, _), (1, _), (2, _), (3, _), (4, _)]) dX6_nearestBut_57 (by decide) rfl ?_
        refine VW.iinc (lv' := [(0, _), (1, _), (2, _), (3, _), (4, _)]) dX6_nearestBut_58 rfl (by decide) rfl ?_
        refine VW.goto 4 dX6_nearestBut_61 (by decide) ?_
        refine VW.sub ?_ [0, 1, 2, 3] rfl
        rw [show nbF D w (n + 1) o b = nbF D w n (o + 1) (nbS D w o b) from rfl]
        unfold nbS
        first
        | (rw [if_pos (by omega)]; exact ih (o + 1) _ (by omega) (by omega) (by omega); done)
        | (rw [if_neg (by omega)]; exact ih (o + 1) _ (by omega) (by omega) (by omega); done)
    · refine VW.aload_n dX6_nearestBut_20 rfl ?_
      refine VW.getR dX6_nearestBut_21 fa_X6_36 hv.1 hv.2.1 rfl ?_
      refine VW.iload_n dX6_nearestBut_24 rfl ?_
      refine VW.pV1 cv_X6_nearestBut_X4_at dX6_nearestBut_25 (Nat.le_of_ble_eq_true rfl) hv.2.2.2.2.2.2.2.1.1 hv.2.2.2.2.2.2.2.1.2.1 (r_at hst hv.2.2.2.2.2.2.2.1 hD ⟨by omega, by omega⟩) ?_
      refine VW.aload_n dX6_nearestBut_28 rfl ?_
      refine VW.getR dX6_nearestBut_29 fa_X6_36 hv.1 hv.2.1 rfl ?_
      refine VW.iload_n dX6_nearestBut_32 rfl ?_
      refine VW.pV1 cv_X6_nearestBut_X4_at dX6_nearestBut_33 (Nat.le_of_ble_eq_true rfl) hv.2.2.2.2.2.2.2.1.1 hv.2.2.2.2.2.2.2.1.2.1 (r_at hst hv.2.2.2.2.2.2.2.1 hD ⟨by omega, by omega⟩) ?_
      refine VW.icmp_ge 43 ⟨by omega, by omega⟩ ⟨by omega, by omega⟩ dX6_nearestBut_36 (by decide) (fun c36 => ?_) (fun c36 => ?_)
      · refine VW.iconst dX6_nearestBut_43 ?_
        refine VW.istore (lv' := [(0, _), (1, _), (2, _), (3, _), (4, _)]) dX6_nearestBut_44 (by decide) rfl ?_
        refine VW.iload_n dX6_nearestBut_46 rfl ?_
        refine VW.iload_n dX6_nearestBut_47 rfl ?_
        refine VW.icmp_eq 58 ⟨by omega, by omega⟩ ⟨by omega, by omega⟩ dX6_nearestBut_48 (by decide) (fun c48 => ?_) (fun c48 => ?_)
        · refine VW.iinc (lv' := [(0, _), (1, _), (2, _), (3, _), (4, _)]) dX6_nearestBut_58 rfl (by decide) rfl ?_
          refine VW.goto 4 dX6_nearestBut_61 (by decide) ?_
          refine VW.sub ?_ [0, 1, 2, 3] rfl
          rw [show nbF D w (n + 1) o b = nbF D w n (o + 1) (nbS D w o b) from rfl]
          unfold nbS
          first
          | (rw [if_pos (by omega)]; exact ih (o + 1) _ (by omega) (by omega) (by omega); done)
          | (rw [if_neg (by omega)]; exact ih (o + 1) _ (by omega) (by omega) (by omega); done)
        · refine VW.iload dX6_nearestBut_51 rfl ?_
          refine VW.if_eq 58 (by decide) dX6_nearestBut_53 (by decide) (fun _ => ?_) (fun c53 => absurd c53 (by decide))
          refine VW.iinc (lv' := [(0, _), (1, _), (2, _), (3, _), (4, _)]) dX6_nearestBut_58 rfl (by decide) rfl ?_
          refine VW.goto 4 dX6_nearestBut_61 (by decide) ?_
          refine VW.sub ?_ [0, 1, 2, 3] rfl
          rw [show nbF D w (n + 1) o b = nbF D w n (o + 1) (nbS D w o b) from rfl]
          unfold nbS
          first
          | (rw [if_pos (by omega)]; exact ih (o + 1) _ (by omega) (by omega) (by omega); done)
          | (rw [if_neg (by omega)]; exact ih (o + 1) _ (by omega) (by omega) (by omega); done)
      · refine VW.iconst dX6_nearestBut_39 ?_
        refine VW.goto 44 dX6_nearestBut_40 (by decide) ?_
        refine VW.istore (lv' := [(0, _), (1, _), (2, _), (3, _), (4, _)]) dX6_nearestBut_44 (by decide) rfl ?_
        refine VW.iload_n dX6_nearestBut_46 rfl ?_
        refine VW.iload_n dX6_nearestBut_47 rfl ?_
        refine VW.icmp_eq 58 ⟨by omega, by omega⟩ ⟨by omega, by omega⟩ dX6_nearestBut_48 (by decide) (fun c48 => ?_) (fun c48 => ?_)
        · refine VW.iinc (lv' := [(0, _), (1, _), (2, _), (3, _), (4, _)]) dX6_nearestBut_58 rfl (by decide) rfl ?_
          refine VW.goto 4 dX6_nearestBut_61 (by decide) ?_
          refine VW.sub ?_ [0, 1, 2, 3] rfl
          rw [show nbF D w (n + 1) o b = nbF D w n (o + 1) (nbS D w o b) from rfl]
          unfold nbS
          first
          | (rw [if_pos (by omega)]; exact ih (o + 1) _ (by omega) (by omega) (by omega); done)
          | (rw [if_neg (by omega)]; exact ih (o + 1) _ (by omega) (by omega) (by omega); done)
        · refine VW.iload dX6_nearestBut_51 rfl ?_
          refine VW.if_eq 58 (by decide) dX6_nearestBut_53 (by decide) (fun c53 => absurd c53 (by decide)) (fun _ => ?_)
          refine VW.iload_n dX6_nearestBut_56 rfl ?_
          refine VW.istore_n (lv' := [(0, _), (1, _), (2, _), (3, _), (4, _)]) dX6_nearestBut_57 (by decide) rfl ?_
          refine VW.iinc (lv' := [(0, _), (1, _), (2, _), (3, _), (4, _)]) dX6_nearestBut_58 rfl (by decide) rfl ?_
          refine VW.goto 4 dX6_nearestBut_61 (by decide) ?_
          refine VW.sub ?_ [0, 1, 2, 3] rfl
          rw [show nbF D w (n + 1) o b = nbF D w n (o + 1) (nbS D w o b) from rfl]
          unfold nbS
          first
          | (rw [if_pos (by omega)]; exact ih (o + 1) _ (by omega) (by omega) (by omega); done)
          | (rw [if_neg (by omega)]; exact ih (o + 1) _ (by omega) (by omega) (by omega); done)
theorem v_nearestBut (hst : l.stackTraces = false) (hv : isView N sh v) (hD : hasRow μ (v + 12) 10 D) (hDb : bnd D 0 1000) {w : Int} (hw : R32 w) : Zi G l N sh M_X6_nearestBut [.ref (gB G + v), vI w] μ (fun r μ' => r = nbut D w ∧ μ' = μ) := by
  refine Fx.of hst rfl (by decide +kernel) (Nat.le_of_ble_eq_true rfl) rfl ?_
  refine VW.iconst dX6_nearestBut_0 ?_
  refine VW.istore_n (lv' := [(0, _), (1, _), (2, _)]) dX6_nearestBut_1 (by decide) rfl ?_
  refine VW.iconst dX6_nearestBut_2 ?_
  refine VW.istore_n (lv' := [(0, _), (1, _), (2, _), (3, _)]) dX6_nearestBut_3 (by decide) rfl ?_
  exact lp_X6_nb hst hv hD hDb hw D.length 0 (-1) (by omega) (by omega) (by omega)
theorem v_readAs (hst : l.stackTraces = false) (hv : isView N sh v) (hD : hasRow μ (v + 12) 10 D) (hDb : bnd D 0 1000) (hK : hasRow μ (v + 4) 40 K) (hrs : isRow N sh s 5) (hS : hasRow μ s 5 S) (hw : wfS S) : Zi G l N sh M_X6_readAs [.ref (gB G + v), .ref (gB G + s)] μ (fun r μ' => r = readOf (K.length : Int) D (rat S 4) ∧ μ' = μ) := by
  refine Fx.of hst rfl (by decide +kernel) (Nat.le_of_ble_eq_true rfl) rfl ?_
  have hb := nbut_b D (-1)
  have hc := hD.cap
  have hk := hK.cap
  have hb1 := rat_b1 hDb (i := nbut D (-1)) (by omega) (by omega)
  obtain ⟨hw5, hw0, hw1, hw2, hw3, hw4⟩ := id hw
  refine VW.aload_n dX6_readAs_0 rfl ?_
  refine VW.iconst dX6_readAs_1 ?_
  refine VW.pV1 cv_X6_readAs_X6_nearestBut dX6_readAs_2 (Nat.le_of_ble_eq_true rfl) hv.1 hv.2.1 (v_nearestBut hst hv hD hDb (w := -1) (by decide)) ?_
  refine VW.istore_n (lv' := [(0, _), (1, _), (2, _)]) dX6_readAs_5 (by decide) rfl ?_
  refine VW.aload_n dX6_readAs_6 rfl ?_
  refine VW.getR dX6_readAs_7 fa_X6_23 hv.1 hv.2.1 rfl ?_
  refine VW.pV0 cv_X6_readAs_X4_held dX6_readAs_10 (Nat.le_of_ble_eq_true rfl) hv.2.2.2.1.1 hv.2.2.2.1.2.1 (r_held hst hv.2.2.2.1 hK) ?_
  refine VW.if_le 20 ⟨by omega, by omega⟩ dX6_readAs_13 (by decide) (fun c13 => ?_) (fun c13 => ?_)
  · refine VW.iconst dX6_readAs_20 ?_
    refine VW.istore_n (lv' := [(0, _), (1, _), (2, _), (3, _)]) dX6_readAs_21 (by decide) rfl ?_
    refine VW.iload_n dX6_readAs_22 rfl ?_
    refine VW.if_eq 46 (by decide) dX6_readAs_23 (by decide) (fun _ => ?_) (fun c23 => absurd c23 (by decide))
    refine VW.iconst dX6_readAs_46 ?_
    refine VW.ireturn dX6_readAs_47 rfl rfl ?_
    refine fxP.ii ⟨?_, rfl⟩
    unfold readOf
    first
    | (rw [if_pos (by omega)]; done)
    | (rw [if_neg (by omega)]; done)
  · refine VW.iconst dX6_readAs_16 ?_
    refine VW.goto 21 dX6_readAs_17 (by decide) ?_
    refine VW.istore_n (lv' := [(0, _), (1, _), (2, _), (3, _)]) dX6_readAs_21 (by decide) rfl ?_
    refine VW.iload_n dX6_readAs_22 rfl ?_
    refine VW.if_eq 46 (by decide) dX6_readAs_23 (by decide) (fun c23 => absurd c23 (by decide)) (fun _ => ?_)
    refine VW.aload_n dX6_readAs_26 rfl ?_
    refine VW.getR dX6_readAs_27 fa_X6_36 hv.1 hv.2.1 rfl ?_
    refine VW.iload_n dX6_readAs_30 rfl ?_
    refine VW.pV1 cv_X6_readAs_X4_at dX6_readAs_31 (Nat.le_of_ble_eq_true rfl) hv.2.2.2.2.2.2.2.1.1 hv.2.2.2.2.2.2.2.1.2.1 (r_at hst hv.2.2.2.2.2.2.2.1 hD ⟨by omega, by omega⟩) ?_
    refine VW.aload_n dX6_readAs_34 rfl ?_
    refine VW.iconst dX6_readAs_35 ?_
    refine VW.pV1 cv_X6_readAs_X4_at dX6_readAs_36 (Nat.le_of_ble_eq_true rfl) hrs.1 hrs.2.1 (r_at hst hrs hS ⟨by omega, by omega⟩) ?_
    refine VW.icmp_gt 46 ⟨by omega, by omega⟩ ⟨by omega, by omega⟩ dX6_readAs_39 (by decide) (fun c39 => ?_) (fun c39 => ?_)
    · refine VW.iconst dX6_readAs_46 ?_
      refine VW.ireturn dX6_readAs_47 rfl rfl ?_
      refine fxP.ii ⟨?_, rfl⟩
      unfold readOf
      first
      | (rw [if_pos (by omega)]; done)
      | (rw [if_neg (by omega)]; done)
    · refine VW.iload_n dX6_readAs_42 rfl ?_
      refine VW.goto 47 dX6_readAs_43 (by decide) ?_
      refine VW.ireturn dX6_readAs_47 rfl rfl ?_
      refine fxP.ii ⟨?_, rfl⟩
      unfold readOf
      first
      | (rw [if_pos (by omega)]; done)
      | (rw [if_neg (by omega)]; done)
theorem lp_X6_can (hst : l.stackTraces = false) (hv : isView N sh v) (hR : hasRow μ (v + 14) 10 R) (hRb : bnd R (-1) 8) : ∀ (n : Nat) (c m : Int), 0 ≤ c → c + n = R.length → 0 ≤ m ∧ m < 2 ^ c.toNat → VW G l none M_X6_canBecome 4 [(0, .ref (gB G + v)), (1, vI m), (2, vI c)] [] (N, sh, μ) 0 0 (fxP N sh (oN (vN_i (fun r μ' => r = msF R n c m ∧ μ' = μ)))) := by
  have hR10 := hR.cap
  intro n
  induction n with
  | zero =>
    intro c m h1 h2 h3
    refine VW.iload_n dX6_canBecome_4 rfl ?_
    refine VW.aload_n dX6_canBecome_5 rfl ?_
    refine VW.getR dX6_canBecome_6 fa_X6_39 hv.1 hv.2.1 rfl ?_
    refine VW.pV0 cv_X6_canBecome_X4_held dX6_canBecome_9 (Nat.le_of_ble_eq_true rfl) hv.2.2.2.2.2.2.2.2.1 hv.2.2.2.2.2.2.2.2.2.1 (r_held hst hv.2.2.2.2.2.2.2.2 hR) ?_
    refine VW.icmp_ge 39 ⟨by omega, by omega⟩ ⟨by omega, by omega⟩ dX6_canBecome_12 (by decide) (fun c12 => ?_) (fun c12 => by omega)
    refine VW.iload_n dX6_canBecome_39 rfl ?_
    refine VW.ireturn dX6_canBecome_40 rfl rfl ?_
    exact fxP.ii ⟨rfl, rfl⟩
  | succ n ih =>
    intro c m h1 h2 h3
    refine VW.iload_n dX6_canBecome_4 rfl ?_
    refine VW.aload_n dX6_canBecome_5 rfl ?_
    refine VW.getR dX6_canBecome_6 fa_X6_39 hv.1 hv.2.1 rfl ?_
    refine VW.pV0 cv_X6_canBecome_X4_held dX6_canBecome_9 (Nat.le_of_ble_eq_true rfl) hv.2.2.2.2.2.2.2.2.1 hv.2.2.2.2.2.2.2.2.2.1 (r_held hst hv.2.2.2.2.2.2.2.2 hR) ?_
    refine VW.icmp_ge 39 ⟨by omega, by omega⟩ ⟨by omega, by omega⟩ dX6_canBecome_12 (by decide) (fun c12 => by omega) (fun c12 => ?_)
    have hb1 := rat_b1 hRb (i := c) (by omega) (by omega)
    have hpp := pow_p c.toNat
    have hps := pow_s h1
    refine VW.aload_n dX6_canBecome_15 rfl ?_
    refine VW.getR dX6_canBecome_16 fa_X6_39 hv.1 hv.2.1 rfl ?_
    refine VW.iload_n dX6_canBecome_19 rfl ?_
    refine VW.pV1 cv_X6_canBecome_X4_at dX6_canBecome_20 (Nat.le_of_ble_eq_true rfl) hv.2.2.2.2.2.2.2.2.1 hv.2.2.2.2.2.2.2.2.2.1 (r_at hst hv.2.2.2.2.2.2.2.2 hR ⟨by omega, by omega⟩) ?_
    refine VW.iconst dX6_canBecome_23 ?_
    refine VW.icmp_eq 33 ⟨by omega, by omega⟩ ⟨by omega, by omega⟩ dX6_canBecome_24 (by decide) (fun c24 => ?_) (fun c24 => ?_)
    · refine VW.iinc (lv' := [(0, _), (1, _), (2, _)]) dX6_canBecome_33 rfl (by decide) rfl ?_
      refine VW.goto 4 dX6_canBecome_36 (by decide) ?_
      rw [show msF R (n + 1) c m = msF R n (c + 1) (if rat R c ≠ -1 then m + 2 ^ c.toNat else m) from rfl]
      first
      | (rw [if_pos (by omega)]; exact ih (c + 1) _ (by omega) (by omega) (by omega); done)
      | (rw [if_neg (by omega)]; exact ih (c + 1) _ (by omega) (by omega) (by omega); done)
    · refine VW.iload_n dX6_canBecome_27 rfl ?_
      refine VW.iconst dX6_canBecome_28 ?_
      refine VW.iload_n dX6_canBecome_29 rfl ?_
      refine VW.ishl (x := 2 ^ c.toNat) dX6_canBecome_30 (ishl_bit (by omega)) ?_
      refine VW.ior (x := m + 2 ^ c.toNat) dX6_canBecome_31 (ior_bit (by omega) h3) ?_
      refine VW.istore_n (lv' := [(0, _), (1, _), (2, _)]) dX6_canBecome_32 (by decide) rfl ?_
      refine VW.iinc (lv' := [(0, _), (1, _), (2, _)]) dX6_canBecome_33 rfl (by decide) rfl ?_
      refine VW.goto 4 dX6_canBecome_36 (by decide) ?_
      rw [show msF R (n + 1) c m = msF R n (c + 1) (if rat R c ≠ -1 then m + 2 ^ c.toNat else m) from rfl]
      first
      | (rw [if_pos (by omega)]; exact ih (c + 1) _ (by omega) (by omega) (by omega); done)
      | (rw [if_neg (by omega)]; exact ih (c + 1) _ (by omega) (by omega) (by omega); done)
theorem v_canBecome (hst : l.stackTraces = false) (hv : isView N sh v) (hR : hasRow μ (v + 14) 10 R) (hRb : bnd R (-1) 8) : Zi G l N sh M_X6_canBecome [.ref (gB G + v)] μ (fun r μ' => r = maskOf R ∧ μ' = μ) := by
  refine Fx.of hst rfl (by decide +kernel) (Nat.le_of_ble_eq_true rfl) rfl ?_
  refine VW.iconst dX6_canBecome_0 ?_
  refine VW.istore_n (lv' := [(0, _), (1, _)]) dX6_canBecome_1 (by decide) rfl ?_
  refine VW.iconst dX6_canBecome_2 ?_
  refine VW.istore_n (lv' := [(0, _), (1, _), (2, _)]) dX6_canBecome_3 (by decide) rfl ?_
  exact lp_X6_can hst hv hR hRb R.length 0 0 (by omega) (by omega) ⟨by omega, by decide⟩
theorem lp_X6_still (hst : l.stackTraces = false) (hv : isView N sh v) (hR : hasRow μ (v + 14) 10 R) (hRb : bnd R (-1) 8) : ∀ (n : Nat) (c f e : Int), 0 ≤ c → c + n = R.length → 0 ≤ f ∧ f ≤ c → VW G l none M_X6_stillToCome 6 [(0, .ref (gB G + v)), (1, vI f), (2, vI e), (3, vI c)] [] (N, sh, μ) 0 0 (fxP N sh (oN (vN_i (fun r μ' => r = (if (scF R n c (f, e)).1 = 1 then (scF R n c (f, e)).2 else -1) ∧ μ' = μ)))) := by
  have hR10 := hR.cap
  intro n
  induction n with
  | zero =>
    intro c f e h1 h2 h3
    refine VW.iload_n dX6_stillToCome_6 rfl ?_
    refine VW.aload_n dX6_stillToCome_7 rfl ?_
    refine VW.getR dX6_stillToCome_8 fa_X6_39 hv.1 hv.2.1 rfl ?_
    refine VW.pV0 cv_X6_stillToCome_X4_held dX6_stillToCome_11 (Nat.le_of_ble_eq_true rfl) hv.2.2.2.2.2.2.2.2.1 hv.2.2.2.2.2.2.2.2.2.1 (r_held hst hv.2.2.2.2.2.2.2.2 hR) ?_
    refine VW.icmp_ge 47 ⟨by omega, by omega⟩ ⟨by omega, by omega⟩ dX6_stillToCome_14 (by decide) (fun c14 => ?_) (fun c14 => by omega)
    refine VW.iload_n dX6_stillToCome_47 rfl ?_
    refine VW.iconst dX6_stillToCome_48 ?_
    refine VW.icmp_ne 56 ⟨by omega, by omega⟩ ⟨by omega, by omega⟩ dX6_stillToCome_49 (by decide) (fun c49 => ?_) (fun c49 => ?_)
    · refine VW.iconst dX6_stillToCome_56 ?_
      refine VW.ireturn dX6_stillToCome_57 rfl rfl ?_
      refine fxP.ii ⟨?_, rfl⟩
      show _ = if f = 1 then e else -1
      first
      | (rw [if_pos (by omega)]; done)
      | (rw [if_neg (by omega)]; done)
    · refine VW.iload_n dX6_stillToCome_52 rfl ?_
      refine VW.goto 57 dX6_stillToCome_53 (by decide) ?_
      refine VW.ireturn dX6_stillToCome_57 rfl rfl ?_
      refine fxP.ii ⟨?_, rfl⟩
      show _ = if f = 1 then e else -1
      first
      | (rw [if_pos (by omega)]; done)
      | (rw [if_neg (by omega)]; done)
  | succ n ih =>
    intro c f e h1 h2 h3
    refine VW.iload_n dX6_stillToCome_6 rfl ?_
    refine VW.aload_n dX6_stillToCome_7 rfl ?_
    refine VW.getR dX6_stillToCome_8 fa_X6_39 hv.1 hv.2.1 rfl ?_
    refine VW.pV0 cv_X6_stillToCome_X4_held dX6_stillToCome_11 (Nat.le_of_ble_eq_true rfl) hv.2.2.2.2.2.2.2.2.1 hv.2.2.2.2.2.2.2.2.2.1 (r_held hst hv.2.2.2.2.2.2.2.2 hR) ?_
    refine VW.icmp_ge 47 ⟨by omega, by omega⟩ ⟨by omega, by omega⟩ dX6_stillToCome_14 (by decide) (fun c14 => by omega) (fun c14 => ?_)
    have hb1 := rat_b1 hRb (i := c) (by omega) (by omega)
    refine VW.aload_n dX6_stillToCome_17 rfl ?_
    refine VW.getR dX6_stillToCome_18 fa_X6_39 hv.1 hv.2.1 rfl ?_
    refine VW.iload_n dX6_stillToCome_21 rfl ?_
    refine VW.pV1 cv_X6_stillToCome_X4_at dX6_stillToCome_22 (Nat.le_of_ble_eq_true rfl) hv.2.2.2.2.2.2.2.2.1 hv.2.2.2.2.2.2.2.2.2.1 (r_at hst hv.2.2.2.2.2.2.2.2 hR ⟨by omega, by omega⟩) ?_
    refine VW.iconst dX6_stillToCome_25 ?_
    refine VW.icmp_eq 41 ⟨by omega, by omega⟩ ⟨by omega, by omega⟩ dX6_stillToCome_26 (by decide) (fun c26 => ?_) (fun c26 => ?_)
    · refine VW.iinc (lv' := [(0, _), (1, _), (2, _), (3, _)]) dX6_stillToCome_41 rfl (by decide) rfl ?_
      refine VW.goto 6 dX6_stillToCome_44 (by decide) ?_
      first
      | (rw [scF_p R n c f e (by omega)]; exact ih (c + 1) _ _ (by omega) (by omega) (by omega); done)
      | (rw [scF_n R n c f e (by omega)]; exact ih (c + 1) _ _ (by omega) (by omega) (by omega); done)
    · refine VW.iinc (lv' := [(0, _), (1, _), (2, _), (3, _)]) dX6_stillToCome_29 rfl (by decide) rfl ?_
      refine VW.aload_n dX6_stillToCome_32 rfl ?_
      refine VW.getR dX6_stillToCome_33 fa_X6_39 hv.1 hv.2.1 rfl ?_
      refine VW.iload_n dX6_stillToCome_36 rfl ?_
      refine VW.pV1 cv_X6_stillToCome_X4_at dX6_stillToCome_37 (Nat.le_of_ble_eq_true rfl) hv.2.2.2.2.2.2.2.2.1 hv.2.2.2.2.2.2.2.2.2.1 (r_at hst hv.2.2.2.2.2.2.2.2 hR ⟨by omega, by omega⟩) ?_
      refine VW.istore_n (lv' := [(0, _), (1, _), (2, _), (3, _)]) dX6_stillToCome_40 (by decide) rfl ?_
      refine VW.iinc (lv' := [(0, _), (1, _), (2, _), (3, _)]) dX6_stillToCome_41 rfl (by decide) rfl ?_
      refine VW.goto 6 dX6_stillToCome_44 (by decide) ?_
      first
      | (rw [scF_p R n c f e (by omega)]; exact ih (c + 1) _ _ (by omega) (by omega) (by omega); done)
      | (rw [scF_n R n c f e (by omega)]; exact ih (c + 1) _ _ (by omega) (by omega) (by omega); done)
theorem v_stillToCome (hst : l.stackTraces = false) (hv : isView N sh v) (hR : hasRow μ (v + 14) 10 R) (hRb : bnd R (-1) 8) : Zi G l N sh M_X6_stillToCome [.ref (gB G + v)] μ (fun r μ' => r = comeOf R ∧ μ' = μ) := by
  refine Fx.of hst rfl (by decide +kernel) (Nat.le_of_ble_eq_true rfl) rfl ?_
  refine VW.iconst dX6_stillToCome_0 ?_
  refine VW.istore_n (lv' := [(0, _), (1, _)]) dX6_stillToCome_1 (by decide) rfl ?_
  refine VW.iconst dX6_stillToCome_2 ?_
  refine VW.istore_n (lv' := [(0, _), (1, _), (2, _)]) dX6_stillToCome_3 (by decide) rfl ?_
  refine VW.iconst dX6_stillToCome_4 ?_
  refine VW.istore_n (lv' := [(0, _), (1, _), (2, _), (3, _)]) dX6_stillToCome_5 (by decide) rfl ?_
  exact lp_X6_still hst hv hR hRb R.length 0 0 (-1) (by omega) (by omega) (by omega)
end PG
