/-! ===== View ===== -/
def isView (N : Nat) (sh : Nat → ShT) (v : Nat) : Prop := v < N ∧ sh v = sO 6 [fR (v + 1), fR (v + 4), fR (v + 6), fR (v + 8), fR (v + 10), fR (v + 12), fR (v + 14), fI] ∧ isMeter N sh (v + 1) ∧ isRow N sh (v + 4) 40 ∧ isRow N sh (v + 6) 40 ∧ isRow N sh (v + 8) 40 ∧ isRow N sh (v + 10) 40 ∧ isRow N sh (v + 12) 10 ∧ isRow N sh (v + 14) 10
def hasV (μ : Mem) (v : Nat) (xs ys : List Int) (K : List (List Int)) (S : List Int) : Prop :=
  hasRow μ (v + 4) 40 (rnD xs ys) ∧ hasRow μ (v + 6) 40 (rnL xs ys) ∧ hasRow μ (v + 8) 40 (stk xs ys S) ∧ hasRow μ (v + 10) 40 (fgvOf xs ys S).1.2 ∧ μ v 7 = (fgvOf xs ys S).2 ∧
  hasRow μ (v + 12) 10 (K.map (dstOf S (stk xs ys S))) ∧ hasRow μ (v + 14) 10 (K.map (rstOf S (stk xs ys S)))
theorem hasV.keep {μ μ' : Mem} {v lo hi : Nat} {xs ys S : List Int} {K : List (List Int)} (h : hasV μ v xs ys K S) (f : frm μ μ' lo hi) (hd : v + 16 ≤ lo ∨ hi ≤ v) : hasV μ' v xs ys K S :=
  ⟨h.1.keep f (by omega), h.2.1.keep f (by omega), h.2.2.1.keep f (by omega), h.2.2.2.1.keep f (by omega), by rw [f v (by omega)]; exact h.2.2.2.2.1, h.2.2.2.2.2.1.keep f (by omega), h.2.2.2.2.2.2.keep f (by omega)⟩
section PF
variable {G : GT} {l : Launch} {N : Nat} {sh : Nat → ShT} {μ : Mem}
variable {a b c m p s v : Nat} {cap capb : Nat} {xs ys S D K Ln : List Int} {C : List (List Int)}
def rq (xs ys : List Int) (i : Int) : List Int × List Int := runsTo xs ys (i - 1).toNat
theorem rq_succ (xs ys : List Int) {i : Int} (h : 1 ≤ i) : rq xs ys (i + 1) = extR (rq xs ys i) (sDir xs ys i) (sLen xs ys i) := by
  obtain ⟨k, rfl⟩ : ∃ k : Nat, i = (k : Int) + 1 := ⟨(i - 1).toNat, by omega⟩
  unfold rq
  rw [show ((k : Int) + 1 + 1 - 1).toNat = k + 1 by omega, show ((k : Int) + 1 - 1).toNat = k by omega]
  rfl
theorem lp_X6_findRuns (hst : l.stackTraces = false) (hv : isView N sh v) (hp : isPath N sh p) (hP : hasP μ p xs ys) (hvp : p + 5 ≤ v ∨ v + 16 ≤ p) : ∀ (n : Nat) (i : Int), 1 ≤ i ∧ (i ≤ xs.length ∨ i = 1) → xs.length + 1 - i < n → ∀ μ2 : Mem, hasRow μ2 (v + 4) 40 (rq xs ys i).1 → hasRow μ2 (v + 6) 40 (rq xs ys i).2 → frm μ μ2 v (v + 16) → VW G l none M_X6_findRuns 16 [(0, .ref (gB G + v)), (1, .ref (gB G + p)), (2, vI i)] [] (N, sh, μ2) 0 0 (fxP N sh (oN (vN_v (fun μ' => hasRow μ' (v + 4) 40 (rnD xs ys) ∧ hasRow μ' (v + 6) 40 (rnL xs ys) ∧ frm μ μ' v (v + 16))))) := by
  have hl41 := hP.1.cap
  intro n
  induction n with
  | zero => intro i h1i h2; omega
  | succ n ih =>
    intro i h1i h2 μ2 hD hL hf
    have hok : okR (rq xs ys i) (i - 1).toNat := runsTo_ok hP.2.2.2.1 hP.2.2.2.2 (i - 1).toNat
    obtain ⟨ok1, ok2, ok3, ok4, ok5⟩ := id hok
    have hlb := sLen_b hP.2.2.2.1 hP.2.2.2.2 i
    refine VW.iload_n dX6_findRuns_16 rfl ?_
    refine VW.aload_n dX6_findRuns_17 rfl ?_
    have hpk := (hP.keep hf (by omega : p + 5 ≤ v ∨ v + 16 ≤ p)).1.len
    refine VW.pV0 cv_X6_findRuns_X3_held dX6_findRuns_18 (Nat.le_of_ble_eq_true rfl) hp.1 hp.2.1 (s_X3_held hst hp) ?_
    rw [hpk]
    refine VW.icmp_ge 117 ⟨by omega, by omega⟩ ⟨by omega, by omega⟩ dX6_findRuns_21 (by decide) (fun c21 => ?_) (fun c21 => ?_)
    · refine VW.vreturn dX6_findRuns_117 rfl ?_
      refine fxP.vv ?_
      have e : (i - 1).toNat = xs.length - 1 := by omega
      unfold rq at hD hL
      rw [e] at hD hL
      exact ⟨hD, hL, hf⟩
    · refine VW.aload_n dX6_findRuns_24 rfl ?_
      refine VW.iload_n dX6_findRuns_25 rfl ?_
      refine VW.pV1 cv_X6_findRuns_X3_directionTo dX6_findRuns_26 (Nat.le_of_ble_eq_true rfl) hp.1 hp.2.1 (s_X3_directionTo hst hp (hP.keep hf (by omega)).wf ⟨by omega, by omega⟩) ?_
      rw [(hP.keep hf (by omega)).1.2, (hP.keep hf (by omega)).2.1.2]
      have hdb := sDir_b xs ys i
      refine VW.istore_n (lv' := [(0, _), (1, _), (2, _), (3, _)]) dX6_findRuns_29 (by decide) rfl ?_
      refine VW.aload_n dX6_findRuns_30 rfl ?_
      refine VW.getR dX6_findRuns_31 fa_X6_23 hv.1 hv.2.1 rfl ?_
      refine VW.pV0 cv_X6_findRuns_X4_held dX6_findRuns_34 (Nat.le_of_ble_eq_true rfl) hv.2.2.2.1.1 hv.2.2.2.1.2.1 (r_held hst hv.2.2.2.1 hD) ?_
      refine VW.iconst dX6_findRuns_37 ?_
      refine VW.isub dX6_findRuns_38 ?_
      refine VW.istore (lv' := [(0, _), (1, _), (2, _), (3, _), (4, _)]) dX6_findRuns_39 (by decide) rfl ?_
      refine VW.iload_n dX6_findRuns_41 rfl ?_
      refine VW.iconst dX6_findRuns_42 ?_
      refine VW.icmp_eq 86 ⟨by omega, by omega⟩ ⟨by omega, by omega⟩ dX6_findRuns_43 (by decide) (fun c43 => ?_) (fun c43 => ?_)
      · refine VW.iload_n dX6_findRuns_86 rfl ?_
        refine VW.iconst dX6_findRuns_87 ?_
        refine VW.icmp_eq 111 ⟨by omega, by omega⟩ ⟨by omega, by omega⟩ dX6_findRuns_88 (by decide) (fun c88 => ?_) (fun c88 => ?_)
        · refine VW.iinc (lv' := [(0, _), (1, _), (2, _), (3, _), (4, _)]) dX6_findRuns_111 rfl (by decide) rfl ?_
          refine VW.goto 16 dX6_findRuns_114 (by decide) ?_
          refine VW.sub ?_ [0, 1, 2] rfl
          first
          | (exfalso; omega; done)
          | (have e : extR (rq xs ys i) (sDir xs ys i) (sLen xs ys i) = _ := if_pos ⟨c43, c56⟩
             rw [← rq_succ xs ys (by omega)] at e
             refine ih (i + 1) (by omega) (by omega) μ1 ?_ ?_ (hf.tr (h1.2.wid (by omega) (by omega)))
             · rw [e]; exact hD.keep h1.2 (by omega)
             · rw [e]; exact h1.1)
          | (have e : extR (rq xs ys i) (sDir xs ys i) (sLen xs ys i) = _ := (if_neg (by omega)).trans (if_pos c88)
             rw [← rq_succ xs ys (by omega)] at e
             refine ih (i + 1) (by omega) (by omega) μ3 ?_ ?_ ((hf.tr (h1.2.wid (by omega) (by omega))).tr (h3.2.wid (by omega) (by omega)))
             · rw [e]; exact h1.1.keep h3.2 (by omega)
             · rw [e]; exact h3.1)
          | (have e : extR (rq xs ys i) (sDir xs ys i) (sLen xs ys i) = _ := (if_neg (by omega)).trans (if_neg (by omega))
             rw [← rq_succ xs ys (by omega)] at e
             refine ih (i + 1) (by omega) (by omega) μ2 ?_ ?_ hf
             · rw [e]; exact hD
             · rw [e]; exact hL)
        · refine VW.aload_n dX6_findRuns_91 rfl ?_
          refine VW.getR dX6_findRuns_92 fa_X6_23 hv.1 hv.2.1 rfl ?_
          refine VW.iload_n dX6_findRuns_95 rfl ?_
          refine VW.fvV1 cv_X6_findRuns_X4_add dX6_findRuns_96 (Nat.le_of_ble_eq_true rfl) hv.2.2.2.1.1 hv.2.2.2.1.2.1 (r_add hst hv.2.2.2.1 hD (by omega)) (fun μ1 h1 => ?_)
          refine VW.aload_n dX6_findRuns_99 rfl ?_
          refine VW.getR dX6_findRuns_100 fa_X6_27 hv.1 hv.2.1 rfl ?_
          refine VW.aload_n dX6_findRuns_103 rfl ?_
          refine VW.iload_n dX6_findRuns_104 rfl ?_
          refine VW.pV1 cv_X6_findRuns_X3_lengthTo dX6_findRuns_105 (Nat.le_of_ble_eq_true rfl) hp.1 hp.2.1 (s_X3_lengthTo hst hp ((hP.keep hf (by omega)).keep h1.2 (by omega)).wf ⟨by omega, by omega⟩) ?_
          rw [((hP.keep hf (by omega)).keep h1.2 (by omega)).1.2, ((hP.keep hf (by omega)).keep h1.2 (by omega)).2.1.2]
          refine VW.fvV1 cv_X6_findRuns_X4_add dX6_findRuns_108 (Nat.le_of_ble_eq_true rfl) hv.2.2.2.2.1.1 hv.2.2.2.2.1.2.1 (r_add hst hv.2.2.2.2.1 (hL.keep h1.2 (by omega)) (by omega)) (fun μ3 h3 => ?_)
          refine VW.iinc (lv' := [(0, _), (1, _), (2, _), (3, _), (4, _)]) dX6_findRuns_111 rfl (by decide) rfl ?_
          refine VW.goto 16 dX6_findRuns_114 (by decide) ?_
          refine VW.sub ?_ [0, 1, 2] rfl
          first
          | (exfalso; omega; done)
          | (have e : extR (rq xs ys i) (sDir xs ys i) (sLen xs ys i) = _ := if_pos ⟨c43, c56⟩
             rw [← rq_succ xs ys (by omega)] at e
             refine ih (i + 1) (by omega) (by omega) μ1 ?_ ?_ (hf.tr (h1.2.wid (by omega) (by omega)))
             · rw [e]; exact hD.keep h1.2 (by omega)
             · rw [e]; exact h1.1)
          | (have e : extR (rq xs ys i) (sDir xs ys i) (sLen xs ys i) = _ := (if_neg (by omega)).trans (if_pos c88)
             rw [← rq_succ xs ys (by omega)] at e
             refine ih (i + 1) (by omega) (by omega) μ3 ?_ ?_ ((hf.tr (h1.2.wid (by omega) (by omega))).tr (h3.2.wid (by omega) (by omega)))
             · rw [e]; exact h1.1.keep h3.2 (by omega)
             · rw [e]; exact h3.1)
          | (have e : extR (rq xs ys i) (sDir xs ys i) (sLen xs ys i) = _ := (if_neg (by omega)).trans (if_neg (by omega))
             rw [← rq_succ xs ys (by omega)] at e
             refine ih (i + 1) (by omega) (by omega) μ2 ?_ ?_ hf
             · rw [e]; exact hD
             · rw [e]; exact hL)
      · refine VW.iload_n dX6_findRuns_46 rfl ?_
        refine VW.aload_n dX6_findRuns_47 rfl ?_
        refine VW.getR dX6_findRuns_48 fa_X6_23 hv.1 hv.2.1 rfl ?_
        refine VW.iload dX6_findRuns_51 rfl ?_
        have hrb := rat_b1 hok.2.2.1 (i := ((rq xs ys i).1.length : Int) - 1) (by omega) (by omega)
        refine VW.pV1 cv_X6_findRuns_X4_at dX6_findRuns_53 (Nat.le_of_ble_eq_true rfl) hv.2.2.2.1.1 hv.2.2.2.1.2.1 (r_at hst hv.2.2.2.1 hD ⟨by omega, by omega⟩) ?_
        refine VW.icmp_ne 86 ⟨by omega, by omega⟩ ⟨by omega, by omega⟩ dX6_findRuns_56 (by decide) (fun c56 => ?_) (fun c56 => ?_)
        · refine VW.iload_n dX6_findRuns_86 rfl ?_
          refine VW.iconst dX6_findRuns_87 ?_
          refine VW.icmp_eq 111 ⟨by omega, by omega⟩ ⟨by omega, by omega⟩ dX6_findRuns_88 (by decide) (fun c88 => ?_) (fun c88 => ?_)
          · refine VW.iinc (lv' := [(0, _), (1, _), (2, _), (3, _), (4, _)]) dX6_findRuns_111 rfl (by decide) rfl ?_
            refine VW.goto 16 dX6_findRuns_114 (by decide) ?_
            refine VW.sub ?_ [0, 1, 2] rfl
            first
            | (exfalso; omega; done)
            | (have e : extR (rq xs ys i) (sDir xs ys i) (sLen xs ys i) = _ := if_pos ⟨c43, c56⟩
               rw [← rq_succ xs ys (by omega)] at e
               refine ih (i + 1) (by omega) (by omega) μ1 ?_ ?_ (hf.tr (h1.2.wid (by omega) (by omega)))
               · rw [e]; exact hD.keep h1.2 (by omega)
               · rw [e]; exact h1.1)
            | (have e : extR (rq xs ys i) (sDir xs ys i) (sLen xs ys i) = _ := (if_neg (by omega)).trans (if_pos c88)
               rw [← rq_succ xs ys (by omega)] at e
               refine ih (i + 1) (by omega) (by omega) μ3 ?_ ?_ ((hf.tr (h1.2.wid (by omega) (by omega))).tr (h3.2.wid (by omega) (by omega)))
               · rw [e]; exact h1.1.keep h3.2 (by omega)
               · rw [e]; exact h3.1)
            | (have e : extR (rq xs ys i) (sDir xs ys i) (sLen xs ys i) = _ := (if_neg (by omega)).trans (if_neg (by omega))
               rw [← rq_succ xs ys (by omega)] at e
               refine ih (i + 1) (by omega) (by omega) μ2 ?_ ?_ hf
               · rw [e]; exact hD
               · rw [e]; exact hL)
          · refine VW.aload_n dX6_findRuns_91 rfl ?_
            refine VW.getR dX6_findRuns_92 fa_X6_23 hv.1 hv.2.1 rfl ?_
            refine VW.iload_n dX6_findRuns_95 rfl ?_
            refine VW.fvV1 cv_X6_findRuns_X4_add dX6_findRuns_96 (Nat.le_of_ble_eq_true rfl) hv.2.2.2.1.1 hv.2.2.2.1.2.1 (r_add hst hv.2.2.2.1 hD (by omega)) (fun μ1 h1 => ?_)
            refine VW.aload_n dX6_findRuns_99 rfl ?_
            refine VW.getR dX6_findRuns_100 fa_X6_27 hv.1 hv.2.1 rfl ?_
            refine VW.aload_n dX6_findRuns_103 rfl ?_
            refine VW.iload_n dX6_findRuns_104 rfl ?_
            refine VW.pV1 cv_X6_findRuns_X3_lengthTo dX6_findRuns_105 (Nat.le_of_ble_eq_true rfl) hp.1 hp.2.1 (s_X3_lengthTo hst hp ((hP.keep hf (by omega)).keep h1.2 (by omega)).wf ⟨by omega, by omega⟩) ?_
            rw [((hP.keep hf (by omega)).keep h1.2 (by omega)).1.2, ((hP.keep hf (by omega)).keep h1.2 (by omega)).2.1.2]
            refine VW.fvV1 cv_X6_findRuns_X4_add dX6_findRuns_108 (Nat.le_of_ble_eq_true rfl) hv.2.2.2.2.1.1 hv.2.2.2.2.1.2.1 (r_add hst hv.2.2.2.2.1 (hL.keep h1.2 (by omega)) (by omega)) (fun μ3 h3 => ?_)
            refine VW.iinc (lv' := [(0, _), (1, _), (2, _), (3, _), (4, _)]) dX6_findRuns_111 rfl (by decide) rfl ?_
            refine VW.goto 16 dX6_findRuns_114 (by decide) ?_
            refine VW.sub ?_ [0, 1, 2] rfl
            first
            | (exfalso; omega; done)
            | (have e : extR (rq xs ys i) (sDir xs ys i) (sLen xs ys i) = _ := if_pos ⟨c43, c56⟩
               rw [← rq_succ xs ys (by omega)] at e
               refine ih (i + 1) (by omega) (by omega) μ1 ?_ ?_ (hf.tr (h1.2.wid (by omega) (by omega)))
               · rw [e]; exact hD.keep h1.2 (by omega)
               · rw [e]; exact h1.1)
            | (have e : extR (rq xs ys i) (sDir xs ys i) (sLen xs ys i) = _ := (if_neg (by omega)).trans (if_pos c88)
               rw [← rq_succ xs ys (by omega)] at e
               refine ih (i + 1) (by omega) (by omega) μ3 ?_ ?_ ((hf.tr (h1.2.wid (by omega) (by omega))).tr (h3.2.wid (by omega) (by omega)))
               · rw [e]; exact h1.1.keep h3.2 (by omega)
               · rw [e]; exact h3.1)
            | (have e : extR (rq xs ys i) (sDir xs ys i) (sLen xs ys i) = _ := (if_neg (by omega)).trans (if_neg (by omega))
               rw [← rq_succ xs ys (by omega)] at e
               refine ih (i + 1) (by omega) (by omega) μ2 ?_ ?_ hf
               · rw [e]; exact hD
               · rw [e]; exact hL)
        · have hpos : 0 < (rq xs ys i).1.length := by
            rcases Nat.eq_zero_or_pos (rq xs ys i).1.length with e | e
            · exfalso
              rw [rat_out (by omega)] at c56
              omega
            · exact e
          refine VW.aload_n dX6_findRuns_59 rfl ?_
          refine VW.getR dX6_findRuns_60 fa_X6_27 hv.1 hv.2.1 rfl ?_
          refine VW.iload dX6_findRuns_63 rfl ?_
          refine VW.aload_n dX6_findRuns_65 rfl ?_
          refine VW.getR dX6_findRuns_66 fa_X6_27 hv.1 hv.2.1 rfl ?_
          refine VW.iload dX6_findRuns_69 rfl ?_
          refine VW.pV1 cv_X6_findRuns_X4_at dX6_findRuns_71 (Nat.le_of_ble_eq_true rfl) hv.2.2.2.2.1.1 hv.2.2.2.2.1.2.1 (r_at hst hv.2.2.2.2.1 hL ⟨by omega, by omega⟩) ?_
          refine VW.aload_n dX6_findRuns_74 rfl ?_
          refine VW.iload_n dX6_findRuns_75 rfl ?_
          refine VW.pV1 cv_X6_findRuns_X3_lengthTo dX6_findRuns_76 (Nat.le_of_ble_eq_true rfl) hp.1 hp.2.1 (s_X3_lengthTo hst hp (hP.keep hf (by omega)).wf ⟨by omega, by omega⟩) ?_
          rw [(hP.keep hf (by omega)).1.2, (hP.keep hf (by omega)).2.1.2]
          refine VW.iadd dX6_findRuns_79 ?_
          refine VW.fvV2 cv_X6_findRuns_X4_put dX6_findRuns_80 (Nat.le_of_ble_eq_true rfl) hv.2.2.2.2.1.1 hv.2.2.2.2.1.2.1 (r_put hst hv.2.2.2.2.1 hL ⟨by omega, by omega⟩ (by omega)) (fun μ1 h1 => ?_)
          refine VW.goto 111 dX6_findRuns_83 (by decide) ?_
          refine VW.iinc (lv' := [(0, _), (1, _), (2, _), (3, _), (4, _)]) dX6_findRuns_111 rfl (by decide) rfl ?_
          refine VW.goto 16 dX6_findRuns_114 (by decide) ?_
          refine VW.sub ?_ [0, 1, 2] rfl
          first
          | (exfalso; omega; done)
          | (have e : extR (rq xs ys i) (sDir xs ys i) (sLen xs ys i) = _ := if_pos ⟨c43, c56⟩
             rw [← rq_succ xs ys (by omega)] at e
             refine ih (i + 1) (by omega) (by omega) μ1 ?_ ?_ (hf.tr (h1.2.wid (by omega) (by omega)))
             · rw [e]; exact hD.keep h1.2 (by omega)
             · rw [e]; exact h1.1)
          | (have e : extR (rq xs ys i) (sDir xs ys i) (sLen xs ys i) = _ := (if_neg (by omega)).trans (if_pos c88)
             rw [← rq_succ xs ys (by omega)] at e
             refine ih (i + 1) (by omega) (by omega) μ3 ?_ ?_ ((hf.tr (h1.2.wid (by omega) (by omega))).tr (h3.2.wid (by omega) (by omega)))
             · rw [e]; exact h1.1.keep h3.2 (by omega)
             · rw [e]; exact h3.1)
          | (have e : extR (rq xs ys i) (sDir xs ys i) (sLen xs ys i) = _ := (if_neg (by omega)).trans (if_neg (by omega))
             rw [← rq_succ xs ys (by omega)] at e
             refine ih (i + 1) (by omega) (by omega) μ2 ?_ ?_ hf
             · rw [e]; exact hD
             · rw [e]; exact hL)
theorem v_findRuns (hst : l.stackTraces = false) (hv : isView N sh v) (hp : isPath N sh p) (hP : hasP μ p xs ys) (hvp : p + 5 ≤ v ∨ v + 16 ≤ p) : Zv G l N sh M_X6_findRuns [.ref (gB G + v), .ref (gB G + p)] μ (fun μ' => hasRow μ' (v + 4) 40 (rnD xs ys) ∧ hasRow μ' (v + 6) 40 (rnL xs ys) ∧ frm μ μ' v (v + 16)) := by
  refine Fx.of hst rfl (by decide +kernel) (Nat.le_of_ble_eq_true rfl) rfl ?_
  refine VW.aload_n dX6_findRuns_0 rfl ?_
  refine VW.getR dX6_findRuns_1 fa_X6_23 hv.1 hv.2.1 rfl ?_
  refine VW.fvV0 cv_X6_findRuns_X4_clear dX6_findRuns_4 (Nat.le_of_ble_eq_true rfl) hv.2.2.2.1.1 hv.2.2.2.1.2.1 (r_clear hst hv.2.2.2.1) (fun μ1 h1 => ?_)
  refine VW.aload_n dX6_findRuns_7 rfl ?_
  refine VW.getR dX6_findRuns_8 fa_X6_27 hv.1 hv.2.1 rfl ?_
  refine VW.fvV0 cv_X6_findRuns_X4_clear dX6_findRuns_11 (Nat.le_of_ble_eq_true rfl) hv.2.2.2.2.1.1 hv.2.2.2.2.1.2.1 (r_clear hst hv.2.2.2.2.1) (fun μ2 h2 => ?_)
  refine VW.iconst dX6_findRuns_14 ?_
  refine VW.istore_n (lv' := [(0, _), (1, _), (2, _)]) dX6_findRuns_15 (by decide) rfl ?_
  exact lp_X6_findRuns hst hv hp hP hvp (xs.length + 2) 1 (by omega) (by omega) μ2 (h1.1.keep h2.2 (by omega)) h2.1 ((h1.2.wid (by omega) (by omega)).tr (h2.2.wid (by omega) (by omega)))
theorem lp_X6_first (hst : l.stackTraces = false) (hv : isView N sh v) (hK : hasRow μ (v + 8) 40 K) (hLn : hasRow μ (v + 10) 40 Ln) (hok : okF K Ln) (hrs : isRow N sh s 5) (hS : hasRow μ s 5 S) (hw : wfS S) : ∀ (n : Nat) (i : Int), 0 ≤ i → i + n = K.length → VW G l none M_X6_firstToDrop 2 [(0, .ref (gB G + v)), (1, .ref (gB G + s)), (2, vI i)] [] (N, sh, μ) 0 0 (fxP N sh (oN (vN_i (fun r μ' => r = fdF K Ln (rat S 0) (rat S 1) n i ∧ μ' = μ)))) := by
  obtain ⟨ok1, ok2, ok3, ok4, ok5⟩ := id hok
  obtain ⟨hw5, hw0, hw1, hw2, hw3, hw4⟩ := id hw
  intro n
  induction n with
  | zero =>
    intro i h1 h2
    refine VW.iload_n dX6_firstToDrop_2 rfl ?_
    refine VW.aload_n dX6_firstToDrop_3 rfl ?_
    refine VW.getR dX6_firstToDrop_4 fa_X6_30 hv.1 hv.2.1 rfl ?_
    refine VW.pV0 cv_X6_firstToDrop_X4_held dX6_firstToDrop_7 (Nat.le_of_ble_eq_true rfl) hv.2.2.2.2.2.1.1 hv.2.2.2.2.2.1.2.1 (r_held hst hv.2.2.2.2.2.1 hK) ?_
    refine VW.icmp_ge 57 ⟨by omega, by omega⟩ ⟨by omega, by omega⟩ dX6_firstToDrop_10 (by decide) (fun c10 => ?_) (fun c10 => by omega)
    refine VW.iconst dX6_firstToDrop_57 ?_
    refine VW.ireturn dX6_firstToDrop_58 rfl rfl ?_
    exact fxP.ii ⟨rfl, rfl⟩
  | succ n ih =>
    intro i h1 h2
    refine VW.iload_n dX6_firstToDrop_2 rfl ?_
    refine VW.aload_n dX6_firstToDrop_3 rfl ?_
    refine VW.getR dX6_firstToDrop_4 fa_X6_30 hv.1 hv.2.1 rfl ?_
    refine VW.pV0 cv_X6_firstToDrop_X4_held dX6_firstToDrop_7 (Nat.le_of_ble_eq_true rfl) hv.2.2.2.2.2.1.1 hv.2.2.2.2.2.1.2.1 (r_held hst hv.2.2.2.2.2.1 hK) ?_
    refine VW.icmp_ge 57 ⟨by omega, by omega⟩ ⟨by omega, by omega⟩ dX6_firstToDrop_10 (by decide) (fun c10 => by omega) (fun c10 => ?_)
    refine VW.aload_n dX6_firstToDrop_13 rfl ?_
    refine VW.getR dX6_firstToDrop_14 fa_X6_33 hv.1 hv.2.1 rfl ?_
    refine VW.iload_n dX6_firstToDrop_17 rfl ?_
    refine VW.pV1 cv_X6_firstToDrop_X4_at dX6_firstToDrop_18 (Nat.le_of_ble_eq_true rfl) hv.2.2.2.2.2.2.1.1 hv.2.2.2.2.2.2.1.2.1 (r_at hst hv.2.2.2.2.2.2.1 hLn ⟨by omega, by omega⟩) ?_
    refine VW.aload_n dX6_firstToDrop_21 rfl ?_
    refine VW.iconst dX6_firstToDrop_22 ?_
    refine VW.pV1 cv_X6_firstToDrop_X4_at dX6_firstToDrop_23 (Nat.le_of_ble_eq_true rfl) hrs.1 hrs.2.1 (r_at hst hrs hS ⟨by omega, by omega⟩) ?_
    have hr0 := nng_rat ok4 i
    have hr1 := sum_rat ok4 i
    refine VW.icmp_lt 49 ⟨by omega, by omega⟩ ⟨by omega, by omega⟩ dX6_firstToDrop_26 (by decide) (fun c26 => ?_) (fun c26 => ?_)
    · refine VW.iload_n dX6_firstToDrop_49 rfl ?_
      refine VW.ireturn dX6_firstToDrop_50 rfl rfl ?_
      refine fxP.ii ⟨?_, rfl⟩
      first
      | exact (if_pos (Or.inl c26)).symm
      | (have hcut : isCut K Ln i (rat S 1) = true := by
           cases hq : isCut K Ln i (rat S 1) with
           | true => rfl
           | false => rw [hq] at c46; exact absurd rfl c46
         exact (if_pos (Or.inr hcut)).symm)
    · refine VW.aload_n dX6_firstToDrop_29 rfl ?_
      refine VW.getR dX6_firstToDrop_30 fa_X6_30 hv.1 hv.2.1 rfl ?_
      refine VW.aload_n dX6_firstToDrop_33 rfl ?_
      refine VW.getR dX6_firstToDrop_34 fa_X6_33 hv.1 hv.2.1 rfl ?_
      refine VW.iload_n dX6_firstToDrop_37 rfl ?_
      refine VW.aload_n dX6_firstToDrop_38 rfl ?_
      refine VW.iconst dX6_firstToDrop_39 ?_
      refine VW.pV1 cv_X6_firstToDrop_X4_at dX6_firstToDrop_40 (Nat.le_of_ble_eq_true rfl) hrs.1 hrs.2.1 (r_at hst hrs hS ⟨by omega, by omega⟩) ?_
      refine VW.pN4 cn_X6_firstToDrop_X7_isCutCorner dX6_firstToDrop_43 (Nat.le_of_ble_eq_true rfl) (s_X7_isCutCorner hst hv.2.2.2.2.2.1 hK.1 hv.2.2.2.2.2.2.1 hLn.1 (by rw [hK.2]; exact ok3) (by rw [hLn.2]; exact fun x hx => ⟨ok4 x hx, by have := mem_sum ok4 x hx; omega⟩) (p := i) ⟨by omega, by omega⟩ ⟨by omega, by omega⟩) ?_
      rw [hK.2, hLn.2]
      refine VW.if_eq 51 (by unfold bI; split <;> exact ⟨by omega, by omega⟩) dX6_firstToDrop_46 (by decide) (fun c46 => ?_) (fun c46 => ?_)
      · refine VW.iinc (lv' := [(0, _), (1, _), (2, _)]) dX6_firstToDrop_51 rfl (by decide) rfl ?_
        refine VW.goto 2 dX6_firstToDrop_54 (by decide) ?_
        have hcut : ¬ isCut K Ln i (rat S 1) = true := by
          intro q
          rw [q] at c46
          exact absurd c46 (by decide)
        rw [show fdF K Ln (rat S 0) (rat S 1) (n + 1) i = fdF K Ln (rat S 0) (rat S 1) n (i + 1) from if_neg (by rintro (q | q); { omega }; { exact hcut q })]
        exact ih (i + 1) (by omega) (by omega)
      · refine VW.iload_n dX6_firstToDrop_49 rfl ?_
        refine VW.ireturn dX6_firstToDrop_50 rfl rfl ?_
        refine fxP.ii ⟨?_, rfl⟩
        first
        | exact (if_pos (Or.inl c26)).symm
        | (have hcut : isCut K Ln i (rat S 1) = true := by
             cases hq : isCut K Ln i (rat S 1) with
             | true => rfl
             | false => rw [hq] at c46; exact absurd rfl c46
           exact (if_pos (Or.inr hcut)).symm)
theorem v_first (hst : l.stackTraces = false) (hv : isView N sh v) (hK : hasRow μ (v + 8) 40 K) (hLn : hasRow μ (v + 10) 40 Ln) (hok : okF K Ln) (hrs : isRow N sh s 5) (hS : hasRow μ s 5 S) (hw : wfS S) : Zi G l N sh M_X6_firstToDrop [.ref (gB G + v), .ref (gB G + s)] μ (fun r μ' => r = fdrop K Ln (rat S 0) (rat S 1) ∧ μ' = μ) := by
  refine Fx.of hst rfl (by decide +kernel) (Nat.le_of_ble_eq_true rfl) rfl ?_
  refine VW.iconst dX6_firstToDrop_0 ?_
  refine VW.istore_n (lv' := [(0, _), (1, _), (2, _)]) dX6_firstToDrop_1 (by decide) rfl ?_
  exact lp_X6_first hst hv hK hLn hok hrs hS hw K.length 0 (by omega) (by omega)
def frv (μ μ' : Mem) (v : Nat) : Prop := ∀ i, i ≠ v → (i < v + 8 ∨ v + 12 ≤ i) → μ' i = μ i
theorem hasRow.same {μ μ' : Mem} {a cap : Nat} {L : List Int} (h : hasRow μ a cap L) (h1 : μ' a = μ a) (h2 : μ' (a + 1) = μ (a + 1)) : hasRow μ' a cap L :=
  ⟨⟨by rw [h1]; exact h.1.1, by rw [h1]; exact h.1.2⟩, by rw [rowOf_same h1 h2]; exact h.2⟩
theorem v_drop (hst : l.stackTraces = false) (hv : isView N sh v) (hK : hasRow μ (v + 8) 40 K) (hLn : hasRow μ (v + 10) 40 Ln) (hok : okF K Ln) {q : Int} (hq : 0 ≤ q ∧ q < K.length) : Zv G l N sh M_X6_drop [.ref (gB G + v), vI q] μ (fun μ' => hasRow μ' (v + 8) 40 (dropA K Ln q).1 ∧ hasRow μ' (v + 10) 40 (dropA K Ln q).2 ∧ μ' v 7 = μ v 7 + 1 ∧ frv μ μ' v) := by
  refine Fx.of hst rfl (by decide +kernel) (Nat.le_of_ble_eq_true rfl) rfl ?_
  have hok1 := hok.1
  have hok2 := hok.2.1
  refine VW.aload_n dX6_drop_0 rfl ?_
  refine VW.getR dX6_drop_1 fa_X6_30 hv.1 hv.2.1 rfl ?_
  refine VW.iload_n dX6_drop_4 rfl ?_
  refine VW.fvV1 cv_X6_drop_X4_remove dX6_drop_5 (Nat.le_of_ble_eq_true rfl) hv.2.2.2.2.2.1.1 hv.2.2.2.2.2.1.2.1 (r_remove hst hv.2.2.2.2.2.1 hK hq) (fun μ1 h1 => ?_)
  refine VW.aload_n dX6_drop_8 rfl ?_
  refine VW.getR dX6_drop_9 fa_X6_33 hv.1 hv.2.1 rfl ?_
  refine VW.iload_n dX6_drop_12 rfl ?_
  refine VW.fvV1 cv_X6_drop_X4_remove dX6_drop_13 (Nat.le_of_ble_eq_true rfl) hv.2.2.2.2.2.2.1.1 hv.2.2.2.2.2.2.1.2.1 (r_remove hst hv.2.2.2.2.2.2.1 (hLn.keep h1.2 (by omega)) (p := q) (by omega)) (fun μ2 h2 => ?_)
  refine VW.aload_n dX6_drop_16 rfl ?_
  refine VW.dup dX6_drop_17 rfl ?_
  refine VW.getI dX6_drop_18 fa_X6_42 hv.1 hv.2.1 rfl ?_
  refine VW.iconst dX6_drop_21 ?_
  refine VW.iadd dX6_drop_22 ?_
  refine VW.putI dX6_drop_23 fp_X6_42 hv.1 hv.2.1 rfl ?_
  have hK2 := (h1.1.keep h2.2 (by omega)).keep (frm_mup (μ := μ2) (a := v) (k := 7) (lo := v) (hi := v + 1) (z := μ2 v 7 + 1) (by omega)) (by omega)
  have hL2 := h2.1.keep (frm_mup (μ := μ2) (a := v) (k := 7) (lo := v) (hi := v + 1) (z := μ2 v 7 + 1) (by omega)) (by omega)
  have hle := h1.1.cap
  have g0 := okF_erase (i := q.toNat) hok (by omega)
  obtain ⟨g1, g2, g3, g4, g5⟩ := id g0
  have hq7 : μ2 v 7 = μ v 7 := by rw [h2.2 v (by omega), h1.2 v (by omega)]
  refine VW.iload_n dX6_drop_26 rfl ?_
  refine VW.iconst dX6_drop_27 ?_
  refine VW.icmp_lt 108 ⟨by omega, by omega⟩ ⟨by omega, by omega⟩ dX6_drop_28 (by decide) (fun c28 => ?_) (fun c28 => ?_)
  · refine VW.vreturn dX6_drop_108 rfl ?_
    refine fxP.vv ?_
    have hfm : ∀ i, i ≠ v → mup μ2 v 7 (μ2 v 7 + 1) i = μ2 i := fun i hi => mup_n hi
    first
    | (rw [show dropA K Ln q = ((K.eraseIdx q.toNat).eraseIdx q.toNat, ((Ln.eraseIdx q.toNat).set (q - 1).toNat (rat (Ln.eraseIdx q.toNat) (q - 1) + rat (Ln.eraseIdx q.toNat) q)).eraseIdx q.toNat) from if_pos ⟨by omega, by omega, c60⟩]
       refine ⟨h5.1.keep h6.2 (by omega), h6.1, ?_, fun i hi hi2 => ?_⟩
       · rw [h6.2 v (by omega), h5.2 v (by omega), h4.2 v (by omega), mup_s, hq7]
       · rw [h6.2 i (by omega), h5.2 i (by omega), h4.2 i (by omega), hfm i hi, h2.2 i (by omega), h1.2 i (by omega)])
    | (rw [show dropA K Ln q = (K.eraseIdx q.toNat, Ln.eraseIdx q.toNat) from if_neg (by omega)]
       refine ⟨hK2, hL2, ?_, fun i hi hi2 => ?_⟩
       · rw [mup_s, hq7]
       · rw [hfm i hi, h2.2 i (by omega), h1.2 i (by omega)])
  · refine VW.iload_n dX6_drop_31 rfl ?_
    refine VW.aload_n dX6_drop_32 rfl ?_
    refine VW.getR dX6_drop_33 fa_X6_30 hv.1 hv.2.1 rfl ?_
    refine VW.pV0 cv_X6_drop_X4_held dX6_drop_36 (Nat.le_of_ble_eq_true rfl) hv.2.2.2.2.2.1.1 hv.2.2.2.2.2.1.2.1 (r_held hst hv.2.2.2.2.2.1 hK2) ?_
    refine VW.icmp_ge 108 ⟨by omega, by omega⟩ ⟨by omega, by omega⟩ dX6_drop_39 (by decide) (fun c39 => ?_) (fun c39 => ?_)
    · refine VW.vreturn dX6_drop_108 rfl ?_
      refine fxP.vv ?_
      have hfm : ∀ i, i ≠ v → mup μ2 v 7 (μ2 v 7 + 1) i = μ2 i := fun i hi => mup_n hi
      first
      | (rw [show dropA K Ln q = ((K.eraseIdx q.toNat).eraseIdx q.toNat, ((Ln.eraseIdx q.toNat).set (q - 1).toNat (rat (Ln.eraseIdx q.toNat) (q - 1) + rat (Ln.eraseIdx q.toNat) q)).eraseIdx q.toNat) from if_pos ⟨by omega, by omega, c60⟩]
         refine ⟨h5.1.keep h6.2 (by omega), h6.1, ?_, fun i hi hi2 => ?_⟩
         · rw [h6.2 v (by omega), h5.2 v (by omega), h4.2 v (by omega), mup_s, hq7]
         · rw [h6.2 i (by omega), h5.2 i (by omega), h4.2 i (by omega), hfm i hi, h2.2 i (by omega), h1.2 i (by omega)])
      | (rw [show dropA K Ln q = (K.eraseIdx q.toNat, Ln.eraseIdx q.toNat) from if_neg (by omega)]
         refine ⟨hK2, hL2, ?_, fun i hi hi2 => ?_⟩
         · rw [mup_s, hq7]
         · rw [hfm i hi, h2.2 i (by omega), h1.2 i (by omega)])
    · refine VW.aload_n dX6_drop_42 rfl ?_
      refine VW.getR dX6_drop_43 fa_X6_30 hv.1 hv.2.1 rfl ?_
      refine VW.iload_n dX6_drop_46 rfl ?_
      refine VW.iconst dX6_drop_47 ?_
      refine VW.isub dX6_drop_48 ?_
      refine VW.pV1 cv_X6_drop_X4_at dX6_drop_49 (Nat.le_of_ble_eq_true rfl) hv.2.2.2.2.2.1.1 hv.2.2.2.2.2.1.2.1 (r_at hst hv.2.2.2.2.2.1 hK2 ⟨by omega, by omega⟩) ?_
      have hb1 := rat_b1 g3 (i := q - 1) (by omega) (by omega)
      have hb2 := rat_b1 g3 (i := q) (by omega) (by omega)
      refine VW.aload_n dX6_drop_52 rfl ?_
      refine VW.getR dX6_drop_53 fa_X6_30 hv.1 hv.2.1 rfl ?_
      refine VW.iload_n dX6_drop_56 rfl ?_
      refine VW.pV1 cv_X6_drop_X4_at dX6_drop_57 (Nat.le_of_ble_eq_true rfl) hv.2.2.2.2.2.1.1 hv.2.2.2.2.2.1.2.1 (r_at hst hv.2.2.2.2.2.1 hK2 ⟨by omega, by omega⟩) ?_
      refine VW.icmp_ne 108 ⟨by omega, by omega⟩ ⟨by omega, by omega⟩ dX6_drop_60 (by decide) (fun c60 => ?_) (fun c60 => ?_)
      · refine VW.vreturn dX6_drop_108 rfl ?_
        refine fxP.vv ?_
        have hfm : ∀ i, i ≠ v → mup μ2 v 7 (μ2 v 7 + 1) i = μ2 i := fun i hi => mup_n hi
        first
        | (rw [show dropA K Ln q = ((K.eraseIdx q.toNat).eraseIdx q.toNat, ((Ln.eraseIdx q.toNat).set (q - 1).toNat (rat (Ln.eraseIdx q.toNat) (q - 1) + rat (Ln.eraseIdx q.toNat) q)).eraseIdx q.toNat) from if_pos ⟨by omega, by omega, c60⟩]
           refine ⟨h5.1.keep h6.2 (by omega), h6.1, ?_, fun i hi hi2 => ?_⟩
           · rw [h6.2 v (by omega), h5.2 v (by omega), h4.2 v (by omega), mup_s, hq7]
           · rw [h6.2 i (by omega), h5.2 i (by omega), h4.2 i (by omega), hfm i hi, h2.2 i (by omega), h1.2 i (by omega)])
        | (rw [show dropA K Ln q = (K.eraseIdx q.toNat, Ln.eraseIdx q.toNat) from if_neg (by omega)]
           refine ⟨hK2, hL2, ?_, fun i hi hi2 => ?_⟩
           · rw [mup_s, hq7]
           · rw [hfm i hi, h2.2 i (by omega), h1.2 i (by omega)])
      · refine VW.aload_n dX6_drop_63 rfl ?_
        refine VW.getR dX6_drop_64 fa_X6_33 hv.1 hv.2.1 rfl ?_
        refine VW.iload_n dX6_drop_67 rfl ?_
        refine VW.iconst dX6_drop_68 ?_
        refine VW.isub dX6_drop_69 ?_
        refine VW.aload_n dX6_drop_70 rfl ?_
        refine VW.getR dX6_drop_71 fa_X6_33 hv.1 hv.2.1 rfl ?_
        refine VW.iload_n dX6_drop_74 rfl ?_
        refine VW.iconst dX6_drop_75 ?_
        refine VW.isub dX6_drop_76 ?_
        refine VW.pV1 cv_X6_drop_X4_at dX6_drop_77 (Nat.le_of_ble_eq_true rfl) hv.2.2.2.2.2.2.1.1 hv.2.2.2.2.2.2.1.2.1 (r_at hst hv.2.2.2.2.2.2.1 hL2 ⟨by omega, by omega⟩) ?_
        refine VW.aload_n dX6_drop_80 rfl ?_
        refine VW.getR dX6_drop_81 fa_X6_33 hv.1 hv.2.1 rfl ?_
        refine VW.iload_n dX6_drop_84 rfl ?_
        refine VW.pV1 cv_X6_drop_X4_at dX6_drop_85 (Nat.le_of_ble_eq_true rfl) hv.2.2.2.2.2.2.1.1 hv.2.2.2.2.2.2.1.2.1 (r_at hst hv.2.2.2.2.2.2.1 hL2 ⟨by omega, by omega⟩) ?_
        refine VW.iadd dX6_drop_88 ?_
        refine VW.fvV2 cv_X6_drop_X4_put dX6_drop_89 (Nat.le_of_ble_eq_true rfl) hv.2.2.2.2.2.2.1.1 hv.2.2.2.2.2.2.1.2.1 (r_put hst hv.2.2.2.2.2.2.1 hL2 ⟨by omega, by omega⟩ (by omega)) (fun μ4 h4 => ?_)
        refine VW.aload_n dX6_drop_92 rfl ?_
        refine VW.getR dX6_drop_93 fa_X6_30 hv.1 hv.2.1 rfl ?_
        refine VW.iload_n dX6_drop_96 rfl ?_
        refine VW.fvV1 cv_X6_drop_X4_remove dX6_drop_97 (Nat.le_of_ble_eq_true rfl) hv.2.2.2.2.2.1.1 hv.2.2.2.2.2.1.2.1 (r_remove hst hv.2.2.2.2.2.1 (hK2.keep h4.2 (by omega)) (p := q) (by omega)) (fun μ5 h5 => ?_)
        refine VW.aload_n dX6_drop_100 rfl ?_
        refine VW.getR dX6_drop_101 fa_X6_33 hv.1 hv.2.1 rfl ?_
        refine VW.iload_n dX6_drop_104 rfl ?_
        refine VW.fvV1 cv_X6_drop_X4_remove dX6_drop_105 (Nat.le_of_ble_eq_true rfl) hv.2.2.2.2.2.2.1.1 hv.2.2.2.2.2.2.1.2.1 (r_remove hst hv.2.2.2.2.2.2.1 (h4.1.keep h5.2 (by omega)) (p := q) (by rw [List.length_set]; omega)) (fun μ6 h6 => ?_)
        refine VW.vreturn dX6_drop_108 rfl ?_
        refine fxP.vv ?_
        have hfm : ∀ i, i ≠ v → mup μ2 v 7 (μ2 v 7 + 1) i = μ2 i := fun i hi => mup_n hi
        first
        | (rw [show dropA K Ln q = ((K.eraseIdx q.toNat).eraseIdx q.toNat, ((Ln.eraseIdx q.toNat).set (q - 1).toNat (rat (Ln.eraseIdx q.toNat) (q - 1) + rat (Ln.eraseIdx q.toNat) q)).eraseIdx q.toNat) from if_pos ⟨by omega, by omega, c60⟩]
           refine ⟨h5.1.keep h6.2 (by omega), h6.1, ?_, fun i hi hi2 => ?_⟩
           · rw [h6.2 v (by omega), h5.2 v (by omega), h4.2 v (by omega), mup_s, hq7]
           · rw [h6.2 i (by omega), h5.2 i (by omega), h4.2 i (by omega), hfm i hi, h2.2 i (by omega), h1.2 i (by omega)])
        | (rw [show dropA K Ln q = (K.eraseIdx q.toNat, Ln.eraseIdx q.toNat) from if_neg (by omega)]
           refine ⟨hK2, hL2, ?_, fun i hi hi2 => ?_⟩
           · rw [mup_s, hq7]
           · rw [hfm i hi, h2.2 i (by omega), h1.2 i (by omega)])
theorem frv.tr {μ μ1 μ2 : Mem} (h1 : frv μ μ1 v) (h2 : frv μ1 μ2 v) : frv μ μ2 v := fun i a b => (h2 i a b).trans (h1 i a b)
theorem frv.row {μ μ1 : Mem} {L : List Int} (h1 : frv μ μ1 v) (h : hasRow μ a cap L) (hd : a + 2 ≤ v ∨ (v < a ∧ a + 2 ≤ v + 8) ∨ v + 12 ≤ a) : hasRow μ1 a cap L := h.same (h1 a (by omega) (by omega)) (h1 (a + 1) (by omega) (by omega))
theorem lp_X6_forgive (hst : l.stackTraces = false) (hv : isView N sh v) (hrs : isRow N sh s 5) (hS : hasRow μ s 5 S) (hw : wfS S) (hsv : s + 2 ≤ v ∨ v + 16 ≤ s) : ∀ (n : Nat) (i : Int), 0 ≤ i → i + n = 40 → ∀ (μ2 : Mem) (K Ln : List Int) (x : Int), hasRow μ2 (v + 8) 40 K → hasRow μ2 (v + 10) 40 Ln → μ2 v 7 = x → okF K Ln → frv μ μ2 v → VW G l none M_X6_forgive 29 [(0, .ref (gB G + v)), (1, .ref (gB G + s)), (2, vI i)] [] (N, sh, μ2) 0 0 (fxP N sh (oN (vN_v (fun μ' => hasRow μ' (v + 8) 40 (fgv (rat S 0) (rat S 1) n ((K, Ln), x)).1.1 ∧ hasRow μ' (v + 10) 40 (fgv (rat S 0) (rat S 1) n ((K, Ln), x)).1.2 ∧ μ' v 7 = (fgv (rat S 0) (rat S 1) n ((K, Ln), x)).2 ∧ frv μ μ' v))))  := by
  intro n
  induction n with
  | zero =>
    intro i h1 h2 μ2 K Ln x hK hLn hx hok hf
    refine VW.iload_n dX6_forgive_29 rfl ?_
    refine VW.bipush dX6_forgive_30 rfl ?_
    refine VW.icmp_ge 69 ⟨by omega, by omega⟩ ⟨by omega, by omega⟩ dX6_forgive_32 (by decide) (fun c32 => ?_) (fun c32 => by omega)
    refine VW.vreturn dX6_forgive_69 rfl ?_
    refine fxP.vv ?_
    exact ⟨hK, hLn, hx, hf⟩
  | succ n ih =>
    intro i h1 h2 μ2 K Ln x hK hLn hx hok hf
    have hok2 := hok.2.1
    refine VW.iload_n dX6_forgive_29 rfl ?_
    refine VW.bipush dX6_forgive_30 rfl ?_
    refine VW.icmp_ge 69 ⟨by omega, by omega⟩ ⟨by omega, by omega⟩ dX6_forgive_32 (by decide) (fun c32 => by omega) (fun c32 => ?_)
    refine VW.aload_n dX6_forgive_35 rfl ?_
    refine VW.getR dX6_forgive_36 fa_X6_30 hv.1 hv.2.1 rfl ?_
    refine VW.pV0 cv_X6_forgive_X4_held dX6_forgive_39 (Nat.le_of_ble_eq_true rfl) hv.2.2.2.2.2.1.1 hv.2.2.2.2.2.1.2.1 (r_held hst hv.2.2.2.2.2.1 hK) ?_
    refine VW.iconst dX6_forgive_42 ?_
    refine VW.icmp_le 69 ⟨by omega, by omega⟩ ⟨by omega, by omega⟩ dX6_forgive_43 (by decide) (fun c43 => ?_) (fun c43 => ?_)
    · refine VW.vreturn dX6_forgive_69 rfl ?_
      refine fxP.vv ?_
      first
      | (rw [show fgv (rat S 0) (rat S 1) (n + 1) ((K, Ln), x) = ((K, Ln), x) from if_pos (by show K.length ≤ 1; omega)]
         exact ⟨hK, hLn, hx, hf⟩)
      | (rw [show fgv (rat S 0) (rat S 1) (n + 1) ((K, Ln), x) = ((K, Ln), x) from (if_neg (by show ¬ K.length ≤ 1; omega)).trans (if_pos c54)]
         exact ⟨hK, hLn, hx, hf⟩)
    · refine VW.aload_n dX6_forgive_46 rfl ?_
      refine VW.aload_n dX6_forgive_47 rfl ?_
      refine VW.pV1 cv_X6_forgive_X6_firstToDrop dX6_forgive_48 (Nat.le_of_ble_eq_true rfl) hv.1 hv.2.1 (v_first hst hv hK hLn hok hrs (hf.row hS (by omega)) hw) ?_
      have hfd := fdrop_b K Ln (rat S 0) (rat S 1)
      refine VW.istore_n (lv' := [(0, _), (1, _), (2, _), (3, _)]) dX6_forgive_51 (by decide) rfl ?_
      refine VW.iload_n dX6_forgive_52 rfl ?_
      refine VW.iconst dX6_forgive_53 ?_
      refine VW.icmp_ne 58 ⟨by omega, by omega⟩ ⟨by omega, by omega⟩ dX6_forgive_54 (by decide) (fun c54 => ?_) (fun c54 => ?_)
      · refine VW.aload_n dX6_forgive_58 rfl ?_
        refine VW.iload_n dX6_forgive_59 rfl ?_
        refine VW.fvV1 cv_X6_forgive_X6_drop dX6_forgive_60 (Nat.le_of_ble_eq_true rfl) hv.1 hv.2.1 (v_drop hst hv hK hLn hok (q := fdrop K Ln (rat S 0) (rat S 1)) (by omega)) (fun μ1 h1 => ?_)
        refine VW.iinc (lv' := [(0, _), (1, _), (2, _), (3, _)]) dX6_forgive_63 rfl (by decide) rfl ?_
        refine VW.goto 29 dX6_forgive_66 (by decide) ?_
        refine VW.sub ?_ [0, 1, 2] rfl
        rw [show fgv (rat S 0) (rat S 1) (n + 1) ((K, Ln), x) = fgv (rat S 0) (rat S 1) n (dropA K Ln (fdrop K Ln (rat S 0) (rat S 1)), x + 1) from (if_neg (by show ¬ K.length ≤ 1; omega)).trans (if_neg c54)]
        exact ih (i + 1) (by omega) (by omega) μ1 _ _ _ h1.1 h1.2.1 (by rw [h1.2.2.1, hx]) (dropA_ok hok (by omega)) (hf.tr h1.2.2.2)
      · refine VW.vreturn dX6_forgive_57 rfl ?_
        refine fxP.vv ?_
        first
        | (rw [show fgv (rat S 0) (rat S 1) (n + 1) ((K, Ln), x) = ((K, Ln), x) from if_pos (by show K.length ≤ 1; omega)]
           exact ⟨hK, hLn, hx, hf⟩)
        | (rw [show fgv (rat S 0) (rat S 1) (n + 1) ((K, Ln), x) = ((K, Ln), x) from (if_neg (by show ¬ K.length ≤ 1; omega)).trans (if_pos c54)]
           exact ⟨hK, hLn, hx, hf⟩)
theorem v_forgive (hst : l.stackTraces = false) (hv : isView N sh v) (hrs : isRow N sh s 5) (hS : hasRow μ s 5 S) (hw : wfS S) (hsv : s + 2 ≤ v ∨ v + 16 ≤ s) (hD : hasRow μ (v + 4) 40 K) (hL : hasRow μ (v + 6) 40 Ln) (hok : okF K Ln) : Zv G l N sh M_X6_forgive [.ref (gB G + v), .ref (gB G + s)] μ (fun μ' => hasRow μ' (v + 8) 40 (fgv (rat S 0) (rat S 1) 40 ((K, Ln), 0)).1.1 ∧ hasRow μ' (v + 10) 40 (fgv (rat S 0) (rat S 1) 40 ((K, Ln), 0)).1.2 ∧ μ' v 7 = (fgv (rat S 0) (rat S 1) 40 ((K, Ln), 0)).2 ∧ frv μ μ' v) := by
  refine Fx.of hst rfl (by decide +kernel) (Nat.le_of_ble_eq_true rfl) rfl ?_
  refine VW.aload_n dX6_forgive_0 rfl ?_
  refine VW.getR dX6_forgive_1 fa_X6_30 hv.1 hv.2.1 rfl ?_
  refine VW.aload_n dX6_forgive_4 rfl ?_
  refine VW.getR dX6_forgive_5 fa_X6_23 hv.1 hv.2.1 rfl ?_
  refine VW.fvV1 cv_X6_forgive_X4_copy dX6_forgive_8 (Nat.le_of_ble_eq_true rfl) hv.2.2.2.2.2.1.1 hv.2.2.2.2.2.1.2.1 (r_copy hst hv.2.2.2.2.2.1 hv.2.2.2.1 hD hD.cap ⟨by omega, by omega, by omega⟩) (fun μ1 h1 => ?_)
  refine VW.aload_n dX6_forgive_11 rfl ?_
  refine VW.getR dX6_forgive_12 fa_X6_33 hv.1 hv.2.1 rfl ?_
  refine VW.aload_n dX6_forgive_15 rfl ?_
  refine VW.getR dX6_forgive_16 fa_X6_27 hv.1 hv.2.1 rfl ?_
  refine VW.fvV1 cv_X6_forgive_X4_copy dX6_forgive_19 (Nat.le_of_ble_eq_true rfl) hv.2.2.2.2.2.2.1.1 hv.2.2.2.2.2.2.1.2.1 (r_copy hst hv.2.2.2.2.2.2.1 hv.2.2.2.2.1 (hL.keep h1.2 (by omega)) hL.cap ⟨by omega, by omega, by omega⟩) (fun μ2 h2 => ?_)
  refine VW.aload_n dX6_forgive_22 rfl ?_
  refine VW.iconst dX6_forgive_23 ?_
  refine VW.putI dX6_forgive_24 fp_X6_42 hv.1 hv.2.1 rfl ?_
  refine VW.iconst dX6_forgive_27 ?_
  refine VW.istore_n (lv' := [(0, _), (1, _), (2, _)]) dX6_forgive_28 (by decide) rfl ?_
  have f2 : frv μ (mup μ2 v 7 0) v := fun i a b => by rw [mup_n a, h2.2 i (by omega), h1.2 i (by omega)]
  exact lp_X6_forgive hst hv hrs hS hw hsv 40 0 (by omega) (by omega) _ K Ln 0 ((h1.1.keep h2.2 (by omega)).keep (frm_mup (a := v) (k := 7) (z := 0) (lo := v) (hi := v + 1) (by omega)) (by omega)) (h2.1.keep (frm_mup (a := v) (k := 7) (z := 0) (lo := v) (hi := v + 1) (by omega)) (by omega)) (mup_s _ _ _ _) hok f2
theorem getD_mem (C : List (List Int)) {i : Nat} (h : i < C.length) : C.getD i [] ∈ C := by simp [List.getD, h]
theorem takeC_snoc {α : Type} (f : List Int → α) (C : List (List Int)) {i : Int} (h : 0 ≤ i ∧ i.toNat < C.length) : (C.take (i + 1).toNat).map f = (C.take i.toNat).map f ++ [f (C.getD i.toNat [])] := by
  rw [show (i + 1).toNat = i.toNat + 1 by omega, List.take_add_one, List.getElem?_eq_getElem h.2, List.map_append]
  simp [List.getD, h.2]
theorem lp_X6_look (hst : l.stackTraces = false) (hv : isView N sh v) (hp : isPath N sh p) (hs : isState N sh s) (hP : hasP μ p xs ys) (hC : hasC μ (s + 6) C) (hS : hasRow μ (s + 30) 5 S) (hw : wfS S) (hCb : ∀ L ∈ C, bnd L 0 7) (hvp : p + 5 ≤ v ∨ v + 16 ≤ p) (hsv : s + 32 ≤ v ∨ v + 16 ≤ s) : ∀ (n : Nat) (i : Int), 0 ≤ i ∧ i ≤ C.length → C.length - i < n → ∀ μ2 : Mem, (hasRow μ2 (v + 4) 40 (rnD xs ys) ∧ hasRow μ2 (v + 6) 40 (rnL xs ys) ∧ hasRow μ2 (v + 8) 40 (stk xs ys S) ∧ hasRow μ2 (v + 10) 40 (fgvOf xs ys S).1.2 ∧ μ2 v 7 = (fgvOf xs ys S).2 ∧ hasRow μ2 (v + 12) 10 ((C.take i.toNat).map (dstOf S (stk xs ys S))) ∧ hasRow μ2 (v + 14) 10 ((C.take i.toNat).map (rstOf S (stk xs ys S))) ∧ frm μ μ2 v (v + 16)) → VW G l none M_X6_look 29 [(0, .ref (gB G + v)), (1, .ref (gB G + p)), (2, .ref (gB G + s)), (3, vI i)] [] (N, sh, μ2) 0 0 (fxP N sh (oN (vN_v (fun μ' => hasV μ' v xs ys C S ∧ frm μ μ' v (v + 16))))) := by
  have hC10 := hC.2.2.1
  have sok := stk_ok (S := S) hP.2.2.2.1 hP.2.2.2.2 hP.1.cap
  obtain ⟨hw5, hw0, hw1, hw2, hw3, hw4⟩ := id hw
  intro n
  induction n with
  | zero => intro i h1i h2 μ2 ⟨i1, i2, i3, i4, i5, i6, i7, hf⟩; omega
  | succ n ih =>
    intro i h1i h2 μ2 ⟨i1, i2, i3, i4, i5, i6, i7, hf⟩
    refine VW.iload_n dX6_look_29 rfl ?_
    refine VW.aload_n dX6_look_30 rfl ?_
    refine VW.getR dX6_look_31 fa_X6_62 hs.1 hs.2.1 rfl ?_
    refine VW.pV0 cv_X6_look_X0_held dX6_look_34 (Nat.le_of_ble_eq_true rfl) hs.2.2.2.1.1 hs.2.2.2.1.2.1 (c_held hst hs.2.2.2.1 (hC.keep hf (by omega))) ?_
    refine VW.icmp_ge 105 ⟨by omega, by omega⟩ ⟨by omega, by omega⟩ dX6_look_37 (by decide) (fun c37 => ?_) (fun c37 => ?_)
    · refine VW.vreturn dX6_look_105 rfl ?_
      refine fxP.vv ?_
      rw [List.take_of_length_le (by omega)] at i6 i7
      exact ⟨⟨i1, i2, i3, i4, i5, i6, i7⟩, hf⟩
    · have hl8 : (C.getD i.toNat []).length ≤ 8 := hC.len8 (by omega)
      have hLb : bnd (C.getD i.toNat []) 0 7 := hCb _ (getD_mem C (by omega))
      refine VW.aload_n dX6_look_40 rfl ?_
      refine VW.getR dX6_look_41 fa_X6_12 hv.1 hv.2.1 rfl ?_
      refine VW.aload_n dX6_look_44 rfl ?_
      refine VW.getR dX6_look_45 fa_X6_30 hv.1 hv.2.1 rfl ?_
      refine VW.aload_n dX6_look_48 rfl ?_
      refine VW.getR dX6_look_49 fa_X6_62 hs.1 hs.2.1 rfl ?_
      refine VW.iload_n dX6_look_52 rfl ?_
      refine VW.oV1 cv_X6_look_X0_directions dX6_look_53 (Nat.le_of_ble_eq_true rfl) hs.2.2.2.1.1 hs.2.2.2.1.2.1 (c_directions hst hs.2.2.2.1 ⟨by omega, by omega⟩) ?_
      refine VW.aload_n dX6_look_56 rfl ?_
      refine VW.getR dX6_look_57 fa_X6_50 hs.1 hs.2.1 rfl ?_
      refine VW.fvV3 cv_X6_look_X2_measure dX6_look_60 (Nat.le_of_ble_eq_true rfl) hv.2.2.1.1 hv.2.2.1.2.1 (m_measure hst hv.2.2.1 hv.2.2.2.2.2.1 i3 sok.1 sok.2 (hs.2.2.2.1.2.2.2.2.1 i.toNat (by omega)) ((hC.keep hf (by omega)).row (i := i.toNat) (by omega)) hl8 hLb hs.2.2.2.2 (hS.keep hf (by omega)) hw (by omega) (by omega) (by omega)) (fun μ1 h1 => ?_)
      refine VW.aload_n dX6_look_63 rfl ?_
      refine VW.getR dX6_look_64 fa_X6_36 hv.1 hv.2.1 rfl ?_
      refine VW.aload_n dX6_look_67 rfl ?_
      refine VW.getR dX6_look_68 fa_X6_12 hv.1 hv.2.1 rfl ?_
      refine VW.pV0 cv_X6_look_X2_whole dX6_look_71 (Nat.le_of_ble_eq_true rfl) hv.2.2.1.1 hv.2.2.1.2.1 (m_whole hst hv.2.2.1 h1.1) ?_
      refine VW.fvV1 cv_X6_look_X4_add dX6_look_74 (Nat.le_of_ble_eq_true rfl) hv.2.2.2.2.2.2.2.1.1 hv.2.2.2.2.2.2.2.1.2.1 (r_add hst hv.2.2.2.2.2.2.2.1 (i6.keep h1.2 (by omega)) (by simp; omega)) (fun μ3 h3 => ?_)
      refine VW.aload_n dX6_look_77 rfl ?_
      refine VW.getR dX6_look_78 fa_X6_39 hv.1 hv.2.1 rfl ?_
      refine VW.aload_n dX6_look_81 rfl ?_
      refine VW.getR dX6_look_82 fa_X6_12 hv.1 hv.2.1 rfl ?_
      refine VW.aload_n dX6_look_85 rfl ?_
      refine VW.getR dX6_look_86 fa_X6_50 hs.1 hs.2.1 rfl ?_
      refine VW.iconst dX6_look_89 ?_
      refine VW.pV1 cv_X6_look_X4_at dX6_look_90 (Nat.le_of_ble_eq_true rfl) hs.2.2.2.2.1 hs.2.2.2.2.2.1 (r_at hst hs.2.2.2.2 (((hS.keep hf (by omega)).keep h1.2 (by omega)).keep h3.2 (by omega)) ⟨by omega, by omega⟩) ?_
      refine VW.pV1 cv_X6_look_X2_leastRest dX6_look_93 (Nat.le_of_ble_eq_true rfl) hv.2.2.1.1 hv.2.2.1.2.1 (m_leastRest hst hv.2.2.1 (h1.1.keep h3.2 (by omega)) (fun j hj => by have := costF_b (gap := rat S 3) (turn := rat S 2) (K := KL (C.getD i.toNat [])) ⟨by omega, by omega⟩ ⟨by omega, by omega⟩ (stk xs ys S) j; omega) ⟨by omega, by omega⟩) ?_
      refine VW.fvV1 cv_X6_look_X4_add dX6_look_96 (Nat.le_of_ble_eq_true rfl) hv.2.2.2.2.2.2.2.2.1 hv.2.2.2.2.2.2.2.2.2.1 (r_add hst hv.2.2.2.2.2.2.2.2 ((i7.keep h1.2 (by omega)).keep h3.2 (by omega)) (by simp; omega)) (fun μ4 h4 => ?_)
      refine VW.iinc (lv' := [(0, _), (1, _), (2, _), (3, _)]) dX6_look_99 rfl (by decide) rfl ?_
      refine VW.goto 29 dX6_look_102 (by decide) ?_
      have f4 : frm μ μ4 v (v + 16) := ((hf.tr (h1.2.wid (by omega) (by omega))).tr (h3.2.wid (by omega) (by omega))).tr (h4.2.wid (by omega) (by omega))
      refine ih (i + 1) (by omega) (by omega) μ4 ⟨((i1.keep h1.2 (by omega)).keep h3.2 (by omega)).keep h4.2 (by omega), ((i2.keep h1.2 (by omega)).keep h3.2 (by omega)).keep h4.2 (by omega), ((i3.keep h1.2 (by omega)).keep h3.2 (by omega)).keep h4.2 (by omega), ((i4.keep h1.2 (by omega)).keep h3.2 (by omega)).keep h4.2 (by omega), by rw [h4.2 v (by omega), h3.2 v (by omega), h1.2 v (by omega)]; exact i5, ?_, ?_, f4⟩
      · rw [takeC_snoc _ C (by omega)]
        exact h3.1.keep h4.2 (by omega)
      · rw [takeC_snoc _ C (by omega)]
        exact h4.1
theorem v_look (hst : l.stackTraces = false) (hv : isView N sh v) (hp : isPath N sh p) (hs : isState N sh s) (hP : hasP μ p xs ys) (hC : hasC μ (s + 6) C) (hS : hasRow μ (s + 30) 5 S) (hw : wfS S) (hCb : ∀ L ∈ C, bnd L 0 7) (hvp : p + 5 ≤ v ∨ v + 16 ≤ p) (hsv : s + 32 ≤ v ∨ v + 16 ≤ s) : Zv G l N sh M_X6_look [.ref (gB G + v), .ref (gB G + p), .ref (gB G + s)] μ (fun μ' => hasV μ' v xs ys C S ∧ frm μ μ' v (v + 16)) := by
  refine Fx.of hst rfl (by decide +kernel) (Nat.le_of_ble_eq_true rfl) rfl ?_
  refine VW.aload_n dX6_look_0 rfl ?_
  refine VW.aload_n dX6_look_1 rfl ?_
  refine VW.fvV1 cv_X6_look_X6_findRuns dX6_look_2 (Nat.le_of_ble_eq_true rfl) hv.1 hv.2.1 (v_findRuns hst hv hp hP hvp) (fun μ1 h1 => ?_)
  refine VW.aload_n dX6_look_5 rfl ?_
  refine VW.aload_n dX6_look_6 rfl ?_
  refine VW.getR dX6_look_7 fa_X6_50 hs.1 hs.2.1 rfl ?_
  refine VW.fvV1 cv_X6_look_X6_forgive dX6_look_10 (Nat.le_of_ble_eq_true rfl) hv.1 hv.2.1 (v_forgive hst hv hs.2.2.2.2 (hS.keep h1.2.2 (by omega)) hw (by omega) h1.1 h1.2.1 (rn_ok hP.2.2.2.1 hP.2.2.2.2 hP.1.cap)) (fun μ2 h2 => ?_)
  refine VW.aload_n dX6_look_13 rfl ?_
  refine VW.getR dX6_look_14 fa_X6_36 hv.1 hv.2.1 rfl ?_
  refine VW.fvV0 cv_X6_look_X4_clear dX6_look_17 (Nat.le_of_ble_eq_true rfl) hv.2.2.2.2.2.2.2.1.1 hv.2.2.2.2.2.2.2.1.2.1 (r_clear hst hv.2.2.2.2.2.2.2.1) (fun μ3 h3 => ?_)
  refine VW.aload_n dX6_look_20 rfl ?_
  refine VW.getR dX6_look_21 fa_X6_39 hv.1 hv.2.1 rfl ?_
  refine VW.fvV0 cv_X6_look_X4_clear dX6_look_24 (Nat.le_of_ble_eq_true rfl) hv.2.2.2.2.2.2.2.2.1 hv.2.2.2.2.2.2.2.2.2.1 (r_clear hst hv.2.2.2.2.2.2.2.2) (fun μ4 h4 => ?_)
  refine VW.iconst dX6_look_27 ?_
  refine VW.istore_n (lv' := [(0, _), (1, _), (2, _), (3, _)]) dX6_look_28 (by decide) rfl ?_
  obtain ⟨g1, g2, g3, g4⟩ := h2
  refine lp_X6_look hst hv hp hs hP hC hS hw hCb hvp hsv (C.length + 1) 0 (by omega) (by omega) μ4 ⟨((g4.row h1.1 (by omega)).keep h3.2 (by omega)).keep h4.2 (by omega), ((g4.row h1.2.1 (by omega)).keep h3.2 (by omega)).keep h4.2 (by omega), (g1.keep h3.2 (by omega)).keep h4.2 (by omega), (g2.keep h3.2 (by omega)).keep h4.2 (by omega), by rw [h4.2 v (by omega), h3.2 v (by omega)]; exact g3, h3.1.keep h4.2 (by omega), h4.1, fun i hi => ?_⟩
  rw [h4.2 i (by omega), h3.2 i (by omega), g4 i (by omega) (by omega), h1.2.2 i (by omega)]
end PF
