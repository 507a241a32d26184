/-! ===== the model: forgiving, stroke, distances ===== -/
section PM
variable {G : GT} {l : Launch} {N : Nat} {sh : Nat → ShT} {μ μ' : Mem} {xs ys S D Ln : List Int} {C : List (List Int)} {v lo hi : Int}
theorem hasR.mk (h1 : μ 273 11 = (D.length : Int)) (h2 : Ln.length = D.length) (h3 : arr μ 279 D) (h4 : arr μ 280 Ln) : hasR μ (D, Ln) := ⟨h1, h2, h3, h4⟩
theorem hasR.d (h : hasR μ (D, Ln)) : arr μ 279 D := h.2.2.1
theorem hasR.ln (h : hasR μ (D, Ln)) : arr μ 280 Ln := h.2.2.2
theorem lp_X8_rem (hst : l.stackTraces = false) (hm : isM N sh) (hq : hasR μ (D, Ln)) (hlen : Ln.length = D.length) (h40 : D.length ≤ 40) {p : Int} (hp : 0 ≤ p ∧ p < D.length) : ∀ (n : Nat) (k : Int), p ≤ k → k + 1 + n = D.length → ∀ μ2 : Mem, (μ2 273 11 = (D.length : Int) - 1) → (∀ j : Int, 0 ≤ j ∧ j + 1 < D.length → (j < k → μ2 279 j.toNat = rat (D.eraseIdx p.toNat) j ∧ μ2 280 j.toNat = rat (Ln.eraseIdx p.toNat) j)) → (∀ j : Int, k ≤ j → μ2 279 j.toNat = μ 279 j.toNat ∧ μ2 280 j.toNat = μ 280 j.toNat) → frK [279, 280] [11] μ μ2 → VW G l none M_X8_removeRun 12 [(0, .ref (gB G + 273)), (1, vI p), (2, vI k)] [] (N, sh, μ2) 0 0 (fxP N sh (oN (vN_v (fun μ' => hasR μ' (D.eraseIdx p.toNat, Ln.eraseIdx p.toNat) ∧ frK [279, 280] [11] μ μ')))) := by
  intro n
  induction n with
  | zero =>
    intro k h1 h2 μ2 h8 h9 h10 hf
    refine VW.iload_n dX8_removeRun_12 rfl ?_
    refine VW.aload_n dX8_removeRun_13 rfl ?_
    refine VW.getI dX8_removeRun_14 fa_X8_74 (by have := hm.1; omega) hm.2.1 rfl ?_
    refine VW.icmp_ge 54 ⟨by omega, by omega⟩ ⟨by omega, by omega⟩ dX8_removeRun_17 (by decide) (fun c17 => ?_) (fun c17 => by omega)
    refine VW.vreturn dX8_removeRun_54 rfl ?_
    refine fxP.vv ?_
    have e1 : (D.eraseIdx p.toNat).length = D.length - 1 := by rw [List.length_eraseIdx, if_pos (by omega)]
    have e2 : (Ln.eraseIdx p.toNat).length = Ln.length - 1 := by rw [List.length_eraseIdx, if_pos (by omega)]
    exact ⟨hasR.mk (by rw [e1, h8]; omega) (by omega) (fun j hj => (h9 j (by omega) (by omega)).1) (fun j hj => (h9 j (by omega) (by omega)).2), hf⟩
  | succ n ih =>
    intro k h1 h2 μ2 h8 h9 h10 hf
    refine VW.iload_n dX8_removeRun_12 rfl ?_
    refine VW.aload_n dX8_removeRun_13 rfl ?_
    refine VW.getI dX8_removeRun_14 fa_X8_74 (by have := hm.1; omega) hm.2.1 rfl ?_
    refine VW.icmp_ge 54 ⟨by omega, by omega⟩ ⟨by omega, by omega⟩ dX8_removeRun_17 (by decide) (fun c17 => by omega) (fun c17 => ?_)
    have a1 := (h10 (k + 1) (by omega)).1.trans (hq.d (k + 1) ⟨by omega, by omega⟩)
    have a2 := (h10 (k + 1) (by omega)).2.trans (hq.ln (k + 1) ⟨by omega, by omega⟩)
    refine VW.aload_n dX8_removeRun_20 rfl ?_
    refine VW.getR dX8_removeRun_21 fa_X8_25 (by have := hm.1; omega) hm.2.1 rfl ?_
    refine VW.iload_n dX8_removeRun_24 rfl ?_
    refine VW.aload_n dX8_removeRun_25 rfl ?_
    refine VW.getR dX8_removeRun_26 fa_X8_25 (by have := hm.1; omega) hm.2.1 rfl ?_
    refine VW.iload_n dX8_removeRun_29 rfl ?_
    refine VW.iconst dX8_removeRun_30 ?_
    refine VW.iadd dX8_removeRun_31 ?_
    refine VW.iaload dX8_removeRun_32 (by have := hm.1; omega) hm.2.2.2.2.2.2.2.1 (by omega) (by omega) (by decide) ?_
    refine VW.iastore dX8_removeRun_33 (by have := hm.1; omega) hm.2.2.2.2.2.2.2.1 (by omega) (by omega) (by decide) ?_
    rw [a1]
    refine VW.aload_n dX8_removeRun_34 rfl ?_
    refine VW.getR dX8_removeRun_35 fa_X8_28 (by have := hm.1; omega) hm.2.1 rfl ?_
    refine VW.iload_n dX8_removeRun_38 rfl ?_
    refine VW.aload_n dX8_removeRun_39 rfl ?_
    refine VW.getR dX8_removeRun_40 fa_X8_28 (by have := hm.1; omega) hm.2.1 rfl ?_
    refine VW.iload_n dX8_removeRun_43 rfl ?_
    refine VW.iconst dX8_removeRun_44 ?_
    refine VW.iadd dX8_removeRun_45 ?_
    refine VW.iaload dX8_removeRun_46 (by have := hm.1; omega) hm.2.2.2.2.2.2.2.2.1 (by omega) (by omega) (by decide) ?_
    refine VW.iastore dX8_removeRun_47 (by have := hm.1; omega) hm.2.2.2.2.2.2.2.2.1 (by omega) (by omega) (by decide) ?_
    rw [mup_n (show (280 : Nat) ≠ 279 by decide), a2]
    refine VW.iinc (lv' := [(0, _), (1, _), (2, _)]) dX8_removeRun_48 rfl (by decide) rfl ?_
    refine VW.goto 12 dX8_removeRun_51 (by decide) ?_
    have g1 : frK [279, 280] [] μ2 (mup (mup μ2 279 k.toNat (rat D (k + 1))) 280 k.toNat (rat Ln (k + 1))) := ((frK_a (by decide)).wid (by decide) (by decide)).tr ((frK_a (by decide)).wid (by decide) (by decide))
    refine ih (k + 1) (by omega) (by omega) _ (by rw [g1.2 11 (by decide)]; exact h8) (fun j hj hjk => ?_) (fun j hj => ?_) (hf.tr (g1.wid (by decide) (by decide)))
    · by_cases e : j = k
      · subst e
        have e1 : rat (D.eraseIdx p.toNat) j = rat D (j + 1) := by rw [rat_erase hp hj, if_neg (by omega)]
        have e2 : rat (Ln.eraseIdx p.toNat) j = rat Ln (j + 1) := by rw [rat_erase (by omega) (by omega), if_neg (by omega)]
        exact ⟨by rw [mup_n (by decide), mup_s, e1], by rw [mup_s, e2]⟩
      · rw [mup_n (show (279 : Nat) ≠ 280 by decide), mup_k (by omega), mup_k (by omega), mup_n (show (280 : Nat) ≠ 279 by decide)]
        exact h9 j hj (by omega)
    · rw [mup_n (show (279 : Nat) ≠ 280 by decide), mup_k (by omega), mup_k (by omega), mup_n (show (280 : Nat) ≠ 279 by decide)]
      exact h10 j (by omega)
theorem t_removeRun (hst : l.stackTraces = false) (hm : isM N sh) (hq : hasR μ (D, Ln)) (hlen : Ln.length = D.length) (h40 : D.length ≤ 40) {p : Int} (hp : 0 ≤ p ∧ p < D.length) : Zv G l N sh M_X8_removeRun [.ref (gB G + 273), vI p] μ (fun μ' => hasR μ' (D.eraseIdx p.toNat, Ln.eraseIdx p.toNat) ∧ frK [279, 280] [11] μ μ') := by
  refine Fx.of hst rfl (by decide +kernel) (Nat.le_of_ble_eq_true rfl) rfl ?_
  refine VW.aload_n dX8_removeRun_0 rfl ?_
  refine VW.dup dX8_removeRun_1 rfl ?_
  refine VW.getI dX8_removeRun_2 fa_X8_74 (by have := hm.1; omega) hm.2.1 rfl ?_
  rw [show μ 273 11 = (D.length : Int) from hq.1]
  refine VW.iconst dX8_removeRun_5 ?_
  refine VW.isub dX8_removeRun_6 ?_
  refine VW.putI dX8_removeRun_7 fp_X8_74 (by have := hm.1; omega) hm.2.1 rfl ?_
  refine VW.iload_n dX8_removeRun_10 rfl ?_
  refine VW.istore_n (lv' := [(0, _), (1, _), (2, _)]) dX8_removeRun_11 (by decide) rfl ?_
  have g : frK [] [11] μ (mup μ 273 11 ((D.length : Int) - 1)) := frK_f
  refine lp_X8_rem hst hm hq hlen h40 hp (D.length - 1 - p.toNat) p (by omega) (by omega) _ (mup_s _ _ _ _) (fun j hj hjk => ?_) (fun j hj => ?_) (g.wid (by decide) (by decide))
  · have e1 : rat (D.eraseIdx p.toNat) j = rat D j := by rw [rat_erase hp hj, if_pos (by omega)]
    have e2 : rat (Ln.eraseIdx p.toNat) j = rat Ln j := by rw [rat_erase (by omega) (by omega), if_pos (by omega)]
    rw [g.1 279 (by decide) (by decide), g.1 280 (by decide) (by decide), e1, e2]
    exact ⟨hq.d j ⟨by omega, by omega⟩, hq.ln j ⟨by omega, by omega⟩⟩
  · rw [g.1 279 (by decide) (by decide), g.1 280 (by decide) (by decide)]
    exact ⟨rfl, rfl⟩
theorem dropA_len {K L : List Int} {p : Int} (h : 0 ≤ p ∧ p < K.length) : (dropA K L p).1.length + 1 ≤ K.length := by
  unfold dropA
  split
  · show ((K.eraseIdx p.toNat).eraseIdx p.toNat).length + 1 ≤ K.length
    rw [List.length_eraseIdx]
    have : (K.eraseIdx p.toNat).length = K.length - 1 := by rw [List.length_eraseIdx, if_pos (by omega)]
    split <;> omega
  · show (K.eraseIdx p.toNat).length + 1 ≤ K.length
    rw [List.length_eraseIdx, if_pos (by omega)]
    omega
theorem fg_next (hst : l.stackTraces = false) (hm : isM N sh) (hz : zR (μ 274) xs ys C S) (hw : wfS S) {x : Int} {Φ : RT → Prop} {μ2 : Mem} (hq : hasR μ2 (D, Ln)) (okd : okF D Ln) (hf : frK [279, 280] [11] μ μ2) (kk : VW G l none M_X8_forgive 7 [(0, .ref (gB G + 273)), (1, vI x), (2, vI (if D.length ≤ 1 then -1 else fdrop D Ln (rat S 0) (rat S 1)))] [] (N, sh, μ2) 0 0 Φ) : VW G l none M_X8_forgive 71 [(0, .ref (gB G + 273)), (1, vI x)] [] (N, sh, μ2) 0 0 Φ := by
  refine VW.aload_n dX8_forgive_71 rfl ?_
  refine VW.pV0 cv_X8_forgive_X8_firstForgiven dX8_forgive_72 (Nat.le_of_ble_eq_true rfl) (by have := hm.1; omega) hm.2.1 (t_firstForgiven hst hm (hz.keep hf (by decide)) hw hq okd) ?_
  refine VW.istore_n (lv' := [(0, _), (1, _), (2, _)]) dX8_forgive_75 (by decide) rfl ?_
  refine VW.goto 7 dX8_forgive_76 (by decide) ?_
  exact kk
theorem lp_X8_forg (hst : l.stackTraces = false) (hm : isM N sh) (hz : zR (μ 274) xs ys C S) (hw : wfS S) : ∀ (n : Nat) (D Ln : List Int) (x : Int), D.length ≤ n + 1 → ∀ μ2 : Mem, hasR μ2 (D, Ln) → okF D Ln → frK [279, 280] [11] μ μ2 → VW G l none M_X8_forgive 7 [(0, .ref (gB G + 273)), (1, vI x), (2, vI (if D.length ≤ 1 then -1 else fdrop D Ln (rat S 0) (rat S 1)))] [] (N, sh, μ2) 0 0 (fxP N sh (oN (vN_i (fun r μ' => r = (fgv (rat S 0) (rat S 1) n ((D, Ln), x)).2 ∧ hasR μ' (fgv (rat S 0) (rat S 1) n ((D, Ln), x)).1 ∧ frK [279, 280] [11] μ μ')))) := by
  intro n
  induction n with
  | zero =>
    intro D Ln x h1 μ2 hq okd hf
    obtain ⟨ok1, ok2, ok3, ok4, ok5⟩ := id okd
    rw [if_pos h1]
    refine VW.iload_n dX8_forgive_7 rfl ?_
    refine VW.iconst dX8_forgive_8 ?_
    refine VW.icmp_eq 79 ⟨by omega, by omega⟩ ⟨by omega, by omega⟩ dX8_forgive_9 (by decide) (fun c9 => ?_) (fun c9 => by omega)
    refine VW.iload_n dX8_forgive_79 rfl ?_
    refine VW.ireturn dX8_forgive_80 rfl rfl ?_
    exact fxP.ii ⟨rfl, hq, hf⟩
  | succ n ih =>
    intro D Ln x h1 μ2 hq okd hf
    obtain ⟨ok1, ok2, ok3, ok4, ok5⟩ := id okd
    by_cases hl1 : D.length ≤ 1
    · rw [if_pos hl1]
      refine VW.iload_n dX8_forgive_7 rfl ?_
      refine VW.iconst dX8_forgive_8 ?_
      refine VW.icmp_eq 79 ⟨by omega, by omega⟩ ⟨by omega, by omega⟩ dX8_forgive_9 (by decide) (fun c9 => ?_) (fun c9 => by omega)
      refine VW.iload_n dX8_forgive_79 rfl ?_
      refine VW.ireturn dX8_forgive_80 rfl rfl ?_
      rw [show fgv (rat S 0) (rat S 1) (n + 1) ((D, Ln), x) = ((D, Ln), x) from if_pos hl1]
      exact fxP.ii ⟨rfl, hq, hf⟩
    · rw [if_neg hl1]
      have hfb := fdrop_b D Ln (rat S 0) (rat S 1)
      obtain ⟨f, hfe⟩ : ∃ f, fdrop D Ln (rat S 0) (rat S 1) = f := ⟨_, rfl⟩
      rw [hfe] at hfb ⊢
      refine VW.iload_n dX8_forgive_7 rfl ?_
      refine VW.iconst dX8_forgive_8 ?_
      refine VW.icmp_eq 79 ⟨by omega, by omega⟩ ⟨by omega, by omega⟩ dX8_forgive_9 (by decide) (fun c9 => ?_) (fun c9 => ?_)
      · refine VW.iload_n dX8_forgive_79 rfl ?_
        refine VW.ireturn dX8_forgive_80 rfl rfl ?_
        rw [show fgv (rat S 0) (rat S 1) (n + 1) ((D, Ln), x) = ((D, Ln), x) from (if_neg hl1).trans (if_pos (by show fdrop D Ln (rat S 0) (rat S 1) = -1; omega))]
        exact fxP.ii ⟨rfl, hq, hf⟩
      · refine VW.aload_n dX8_forgive_12 rfl ?_
        refine VW.iload_n dX8_forgive_13 rfl ?_
        refine VW.fvV1 cv_X8_forgive_X8_removeRun dX8_forgive_14 (Nat.le_of_ble_eq_true rfl) (by have := hm.1; omega) hm.2.1 (t_removeRun hst hm hq ok1.symm ok2 (p := f) ⟨by omega, by omega⟩) (fun μ3 h3 => ?_)
        obtain ⟨h3, h3f⟩ := h3
        have f3 := hf.tr h3f
        have g0 := okF_erase (i := f.toNat) okd (by omega)
        obtain ⟨g1, g2, g3, g4, g5⟩ := id g0
        have q1 : μ3 273 11 = ((D.eraseIdx f.toNat).length : Int) := h3.1
        have qD : arr μ3 279 (D.eraseIdx f.toNat) := h3.2.2.1
        have qL : arr μ3 280 (Ln.eraseIdx f.toNat) := h3.2.2.2
        refine VW.iinc (lv' := [(0, _), (1, _), (2, _)]) dX8_forgive_17 rfl (by decide) rfl ?_
        refine VW.iload_n dX8_forgive_20 rfl ?_
        refine VW.if_le 71 ⟨by omega, by omega⟩ dX8_forgive_21 (by decide) (fun c21 => ?_) (fun c21 => ?_)
        · refine VW.sub ?_ [0, 1] rfl
          have e1 : dropA D Ln f = (D.eraseIdx f.toNat, Ln.eraseIdx f.toNat) ∨ dropA D Ln f = ((D.eraseIdx f.toNat).eraseIdx f.toNat, ((Ln.eraseIdx f.toNat).set (f - 1).toNat (rat (Ln.eraseIdx f.toNat) (f - 1) + rat (Ln.eraseIdx f.toNat) f)).eraseIdx f.toNat) := by
            unfold dropA
            split
            · exact Or.inr rfl
            · exact Or.inl rfl
          have e2 : fgv (rat S 0) (rat S 1) (n + 1) ((D, Ln), x) = fgv (rat S 0) (rat S 1) n (dropA D Ln f, x + 1) := by
            rw [← hfe]
            exact (if_neg (by show ¬ D.length ≤ 1; omega)).trans (if_neg (by show ¬ fdrop D Ln (rat S 0) (rat S 1) = -1; omega))
          have hdl := dropA_len (K := D) (L := Ln) (p := f) ⟨by omega, by omega⟩
          have dok := dropA_ok okd (p := f) ⟨by omega, by omega⟩
          rw [e2]
          first
          | (have e3 : dropA D Ln f = (D.eraseIdx f.toNat, Ln.eraseIdx f.toNat) := if_neg (by omega)
             rw [e3] at hdl dok ⊢
             exact fg_next hst hm hz hw h3 dok f3 (ih _ _ _ (by simp only [] at hdl; omega) μ3 h3 dok f3))
          | (have e3 : dropA D Ln f = ((D.eraseIdx f.toNat).eraseIdx f.toNat, ((Ln.eraseIdx f.toNat).set (f - 1).toNat (rat (Ln.eraseIdx f.toNat) (f - 1) + rat (Ln.eraseIdx f.toNat) f)).eraseIdx f.toNat) := if_pos ⟨by omega, by omega, c46⟩
             rw [e3] at hdl dok ⊢
             exact fg_next hst hm hz hw h6.1 dok ((f3.tr (g6.wid (by decide) (by decide))).tr h6.2) (ih _ _ _ (by simp only [] at hdl; omega) μ6 h6.1 dok ((f3.tr (g6.wid (by decide) (by decide))).tr h6.2)))
        · refine VW.iload_n dX8_forgive_24 rfl ?_
          refine VW.aload_n dX8_forgive_25 rfl ?_
          refine VW.getI dX8_forgive_26 fa_X8_74 (by have := hm.1; omega) hm.2.1 rfl ?_
          refine VW.icmp_ge 71 ⟨by omega, by omega⟩ ⟨by omega, by omega⟩ dX8_forgive_29 (by decide) (fun c29 => ?_) (fun c29 => ?_)
          · refine VW.sub ?_ [0, 1] rfl
            have e1 : dropA D Ln f = (D.eraseIdx f.toNat, Ln.eraseIdx f.toNat) ∨ dropA D Ln f = ((D.eraseIdx f.toNat).eraseIdx f.toNat, ((Ln.eraseIdx f.toNat).set (f - 1).toNat (rat (Ln.eraseIdx f.toNat) (f - 1) + rat (Ln.eraseIdx f.toNat) f)).eraseIdx f.toNat) := by
              unfold dropA
              split
              · exact Or.inr rfl
              · exact Or.inl rfl
            have e2 : fgv (rat S 0) (rat S 1) (n + 1) ((D, Ln), x) = fgv (rat S 0) (rat S 1) n (dropA D Ln f, x + 1) := by
              rw [← hfe]
              exact (if_neg (by show ¬ D.length ≤ 1; omega)).trans (if_neg (by show ¬ fdrop D Ln (rat S 0) (rat S 1) = -1; omega))
            have hdl := dropA_len (K := D) (L := Ln) (p := f) ⟨by omega, by omega⟩
            have dok := dropA_ok okd (p := f) ⟨by omega, by omega⟩
            rw [e2]
            first
            | (have e3 : dropA D Ln f = (D.eraseIdx f.toNat, Ln.eraseIdx f.toNat) := if_neg (by omega)
               rw [e3] at hdl dok ⊢
               exact fg_next hst hm hz hw h3 dok f3 (ih _ _ _ (by simp only [] at hdl; omega) μ3 h3 dok f3))
            | (have e3 : dropA D Ln f = ((D.eraseIdx f.toNat).eraseIdx f.toNat, ((Ln.eraseIdx f.toNat).set (f - 1).toNat (rat (Ln.eraseIdx f.toNat) (f - 1) + rat (Ln.eraseIdx f.toNat) f)).eraseIdx f.toNat) := if_pos ⟨by omega, by omega, c46⟩
               rw [e3] at hdl dok ⊢
               exact fg_next hst hm hz hw h6.1 dok ((f3.tr (g6.wid (by decide) (by decide))).tr h6.2) (ih _ _ _ (by simp only [] at hdl; omega) μ6 h6.1 dok ((f3.tr (g6.wid (by decide) (by decide))).tr h6.2)))
          · have a1 := qD (f - 1) ⟨by omega, by omega⟩
            have a2 := qD f ⟨by omega, by omega⟩
            have a3 := qL (f - 1) ⟨by omega, by omega⟩
            have a4 := qL f ⟨by omega, by omega⟩
            have b1 := rat_b g3 (i := f - 1) (by omega) (by omega)
            have b2 := rat_b g3 (i := f) (by omega) (by omega)
            refine VW.aload_n dX8_forgive_32 rfl ?_
            refine VW.getR dX8_forgive_33 fa_X8_25 (by have := hm.1; omega) hm.2.1 rfl ?_
            refine VW.iload_n dX8_forgive_36 rfl ?_
            refine VW.iconst dX8_forgive_37 ?_
            refine VW.isub dX8_forgive_38 ?_
            refine VW.iaload dX8_forgive_39 (by have := hm.1; omega) hm.2.2.2.2.2.2.2.1 (by omega) (by omega) (by decide) ?_
            rw [a1]
            refine VW.aload_n dX8_forgive_40 rfl ?_
            refine VW.getR dX8_forgive_41 fa_X8_25 (by have := hm.1; omega) hm.2.1 rfl ?_
            refine VW.iload_n dX8_forgive_44 rfl ?_
            refine VW.iaload dX8_forgive_45 (by have := hm.1; omega) hm.2.2.2.2.2.2.2.1 (by omega) (by omega) (by decide) ?_
            rw [a2]
            refine VW.icmp_ne 71 ⟨by omega, by omega⟩ ⟨by omega, by omega⟩ dX8_forgive_46 (by decide) (fun c46 => ?_) (fun c46 => ?_)
            · refine VW.sub ?_ [0, 1] rfl
              have e1 : dropA D Ln f = (D.eraseIdx f.toNat, Ln.eraseIdx f.toNat) ∨ dropA D Ln f = ((D.eraseIdx f.toNat).eraseIdx f.toNat, ((Ln.eraseIdx f.toNat).set (f - 1).toNat (rat (Ln.eraseIdx f.toNat) (f - 1) + rat (Ln.eraseIdx f.toNat) f)).eraseIdx f.toNat) := by
                unfold dropA
                split
                · exact Or.inr rfl
                · exact Or.inl rfl
              have e2 : fgv (rat S 0) (rat S 1) (n + 1) ((D, Ln), x) = fgv (rat S 0) (rat S 1) n (dropA D Ln f, x + 1) := by
                rw [← hfe]
                exact (if_neg (by show ¬ D.length ≤ 1; omega)).trans (if_neg (by show ¬ fdrop D Ln (rat S 0) (rat S 1) = -1; omega))
              have hdl := dropA_len (K := D) (L := Ln) (p := f) ⟨by omega, by omega⟩
              have dok := dropA_ok okd (p := f) ⟨by omega, by omega⟩
              rw [e2]
              first
              | (have e3 : dropA D Ln f = (D.eraseIdx f.toNat, Ln.eraseIdx f.toNat) := if_neg (by omega)
                 rw [e3] at hdl dok ⊢
                 exact fg_next hst hm hz hw h3 dok f3 (ih _ _ _ (by simp only [] at hdl; omega) μ3 h3 dok f3))
              | (have e3 : dropA D Ln f = ((D.eraseIdx f.toNat).eraseIdx f.toNat, ((Ln.eraseIdx f.toNat).set (f - 1).toNat (rat (Ln.eraseIdx f.toNat) (f - 1) + rat (Ln.eraseIdx f.toNat) f)).eraseIdx f.toNat) := if_pos ⟨by omega, by omega, c46⟩
                 rw [e3] at hdl dok ⊢
                 exact fg_next hst hm hz hw h6.1 dok ((f3.tr (g6.wid (by decide) (by decide))).tr h6.2) (ih _ _ _ (by simp only [] at hdl; omega) μ6 h6.1 dok ((f3.tr (g6.wid (by decide) (by decide))).tr h6.2)))
            · refine VW.aload_n dX8_forgive_49 rfl ?_
              refine VW.getR dX8_forgive_50 fa_X8_28 (by have := hm.1; omega) hm.2.1 rfl ?_
              refine VW.iload_n dX8_forgive_53 rfl ?_
              refine VW.iconst dX8_forgive_54 ?_
              refine VW.isub dX8_forgive_55 ?_
              refine VW.dup2 dX8_forgive_56 rfl rfl ?_
              refine VW.iaload dX8_forgive_57 (by have := hm.1; omega) hm.2.2.2.2.2.2.2.2.1 (by omega) (by omega) (by decide) ?_
              refine VW.aload_n dX8_forgive_58 rfl ?_
              refine VW.getR dX8_forgive_59 fa_X8_28 (by have := hm.1; omega) hm.2.1 rfl ?_
              refine VW.iload_n dX8_forgive_62 rfl ?_
              refine VW.iaload dX8_forgive_63 (by have := hm.1; omega) hm.2.2.2.2.2.2.2.2.1 (by omega) (by omega) (by decide) ?_
              refine VW.iadd dX8_forgive_64 ?_
              refine VW.iastore dX8_forgive_65 (by have := hm.1; omega) hm.2.2.2.2.2.2.2.2.1 (by omega) (by omega) (by decide) ?_
              rw [a3, a4]
              have g6 : frK [280] [] μ3 (mup μ3 280 (f - 1).toNat (rat (Ln.eraseIdx f.toNat) (f - 1) + rat (Ln.eraseIdx f.toNat) f)) := frK_a (by decide)
              have h5 : hasR (mup μ3 280 (f - 1).toNat (rat (Ln.eraseIdx f.toNat) (f - 1) + rat (Ln.eraseIdx f.toNat) f)) (D.eraseIdx f.toNat, (Ln.eraseIdx f.toNat).set (f - 1).toNat (rat (Ln.eraseIdx f.toNat) (f - 1) + rat (Ln.eraseIdx f.toNat) f)) :=
                hasR.mk (by rw [g6.2 11 (by decide)]; exact q1) (by rw [List.length_set]; exact g1.symm) (qD.keep g6 (by decide) (by decide)) (qL.set ⟨by omega, by omega⟩)
              refine VW.aload_n dX8_forgive_66 rfl ?_
              refine VW.iload_n dX8_forgive_67 rfl ?_
              refine VW.fvV1 cv_X8_forgive_X8_removeRun dX8_forgive_68 (Nat.le_of_ble_eq_true rfl) (by have := hm.1; omega) hm.2.1 (t_removeRun (D := D.eraseIdx f.toNat) (Ln := (Ln.eraseIdx f.toNat).set (f - 1).toNat (rat (Ln.eraseIdx f.toNat) (f - 1) + rat (Ln.eraseIdx f.toNat) f)) hst hm h5 (by rw [List.length_set]; exact g1.symm) g2 (p := f) ⟨by omega, by omega⟩) (fun μ6 h6 => ?_)
              refine VW.sub ?_ [0, 1] rfl
              have e1 : dropA D Ln f = (D.eraseIdx f.toNat, Ln.eraseIdx f.toNat) ∨ dropA D Ln f = ((D.eraseIdx f.toNat).eraseIdx f.toNat, ((Ln.eraseIdx f.toNat).set (f - 1).toNat (rat (Ln.eraseIdx f.toNat) (f - 1) + rat (Ln.eraseIdx f.toNat) f)).eraseIdx f.toNat) := by
                unfold dropA
                split
                · exact Or.inr rfl
                · exact Or.inl rfl
              have e2 : fgv (rat S 0) (rat S 1) (n + 1) ((D, Ln), x) = fgv (rat S 0) (rat S 1) n (dropA D Ln f, x + 1) := by
                rw [← hfe]
                exact (if_neg (by show ¬ D.length ≤ 1; omega)).trans (if_neg (by show ¬ fdrop D Ln (rat S 0) (rat S 1) = -1; omega))
              have hdl := dropA_len (K := D) (L := Ln) (p := f) ⟨by omega, by omega⟩
              have dok := dropA_ok okd (p := f) ⟨by omega, by omega⟩
              rw [e2]
              first
              | (have e3 : dropA D Ln f = (D.eraseIdx f.toNat, Ln.eraseIdx f.toNat) := if_neg (by omega)
                 rw [e3] at hdl dok ⊢
                 exact fg_next hst hm hz hw h3 dok f3 (ih _ _ _ (by simp only [] at hdl; omega) μ3 h3 dok f3))
              | (have e3 : dropA D Ln f = ((D.eraseIdx f.toNat).eraseIdx f.toNat, ((Ln.eraseIdx f.toNat).set (f - 1).toNat (rat (Ln.eraseIdx f.toNat) (f - 1) + rat (Ln.eraseIdx f.toNat) f)).eraseIdx f.toNat) := if_pos ⟨by omega, by omega, c46⟩
                 rw [e3] at hdl dok ⊢
                 exact fg_next hst hm hz hw h6.1 dok ((f3.tr (g6.wid (by decide) (by decide))).tr h6.2) (ih _ _ _ (by simp only [] at hdl; omega) μ6 h6.1 dok ((f3.tr (g6.wid (by decide) (by decide))).tr h6.2)))
theorem t_forgive (hst : l.stackTraces = false) (hm : isM N sh) (hz : zR (μ 274) xs ys C S) (hw : wfS S) (hq : hasR μ (D, Ln)) (okd : okF D Ln) : Zi G l N sh M_X8_forgive [.ref (gB G + 273)] μ (fun r μ' => r = (fgv (rat S 0) (rat S 1) 40 ((D, Ln), 0)).2 ∧ hasR μ' (fgv (rat S 0) (rat S 1) 40 ((D, Ln), 0)).1 ∧ frK [279, 280] [11] μ μ') := by
  refine Fx.of hst rfl (by decide +kernel) (Nat.le_of_ble_eq_true rfl) rfl ?_
  refine VW.iconst dX8_forgive_0 ?_
  refine VW.istore_n (lv' := [(0, _), (1, _)]) dX8_forgive_1 (by decide) rfl ?_
  refine VW.aload_n dX8_forgive_2 rfl ?_
  refine VW.pV0 cv_X8_forgive_X8_firstForgiven dX8_forgive_3 (Nat.le_of_ble_eq_true rfl) (by have := hm.1; omega) hm.2.1 (t_firstForgiven hst hm hz hw hq okd) ?_
  refine VW.istore_n (lv' := [(0, _), (1, _), (2, _)]) dX8_forgive_6 (by decide) rfl ?_
  exact lp_X8_forg hst hm hz hw 40 D Ln 0 (by have := okd.2.1; omega) μ hq okd frK.rf
variable {px py : List Int}
theorem lp_X8_layS (hst : l.stackTraces = false) (hm : isM N sh) (hl40 : (stk px py S).length ≤ 40) : ∀ (n : Nat) (i : Int), 0 ≤ i → i + n = (stk px py S).length → ∀ μ2 : Mem, hasR μ2 (fgvOf px py S).1 → μ2 273 13 = ((stk px py S).length : Int) → (∀ j : Int, 0 ≤ j ∧ j < i → μ2 281 j.toNat = rat (stk px py S) j) → frK [279, 280, 281] [11, 13] μ μ2 → VW G l none M_X8_layStroke 19 [(0, .ref (gB G + 273)), (2, vI i)] [] (N, sh, μ2) 0 0 (fxP N sh (oN (vN_v (fun μ' => hasR μ' (fgvOf px py S).1 ∧ hasK μ' (stk px py S) ∧ frK [279, 280, 281] [11, 13] μ μ')))) := by
  intro n
  induction n with
  | zero =>
    intro i h1 h2 μ2 hq h8 h9 hf
    refine VW.iload_n dX8_layStroke_19 rfl ?_
    have q1 : μ2 273 11 = ((stk px py S).length : Int) := hq.1
    refine VW.aload_n dX8_layStroke_20 rfl ?_
    refine VW.getI dX8_layStroke_21 fa_X8_74 (by have := hm.1; omega) hm.2.1 rfl ?_
    refine VW.icmp_ge 45 ⟨by omega, by omega⟩ ⟨by omega, by omega⟩ dX8_layStroke_24 (by decide) (fun c24 => ?_) (fun c24 => by omega)
    refine VW.vreturn dX8_layStroke_45 rfl ?_
    refine fxP.vv ?_
    exact ⟨hq, ⟨h8, fun j hj => h9 j (by omega)⟩, hf⟩
  | succ n ih =>
    intro i h1 h2 μ2 hq h8 h9 hf
    refine VW.iload_n dX8_layStroke_19 rfl ?_
    have q1 : μ2 273 11 = ((stk px py S).length : Int) := hq.1
    have qd : arr μ2 279 (stk px py S) := hq.2.2.1
    refine VW.aload_n dX8_layStroke_20 rfl ?_
    refine VW.getI dX8_layStroke_21 fa_X8_74 (by have := hm.1; omega) hm.2.1 rfl ?_
    refine VW.icmp_ge 45 ⟨by omega, by omega⟩ ⟨by omega, by omega⟩ dX8_layStroke_24 (by decide) (fun c24 => by omega) (fun c24 => ?_)
    refine VW.aload_n dX8_layStroke_27 rfl ?_
    refine VW.getR dX8_layStroke_28 fa_X8_31 (by have := hm.1; omega) hm.2.1 rfl ?_
    refine VW.iload_n dX8_layStroke_31 rfl ?_
    refine VW.aload_n dX8_layStroke_32 rfl ?_
    refine VW.getR dX8_layStroke_33 fa_X8_25 (by have := hm.1; omega) hm.2.1 rfl ?_
    refine VW.iload_n dX8_layStroke_36 rfl ?_
    refine VW.iaload dX8_layStroke_37 (by have := hm.1; omega) hm.2.2.2.2.2.2.2.1 (by omega) (by omega) (by decide) ?_
    refine VW.iastore dX8_layStroke_38 (by have := hm.1; omega) hm.2.2.2.2.2.2.2.2.2.1 (by omega) (by omega) (by decide) ?_
    rw [qd i ⟨by omega, by omega⟩]
    refine VW.iinc (lv' := [(0, _), (2, _)]) dX8_layStroke_39 rfl (by decide) rfl ?_
    refine VW.goto 19 dX8_layStroke_42 (by decide) ?_
    refine VW.sub ?_ [0, 1] rfl
    have g1 : frK [281] [] μ2 (mup μ2 281 i.toNat (rat (stk px py S) i)) := frK_a (by decide)
    refine ih (i + 1) (by omega) (by omega) _ (hq.keep g1 (by decide) (by decide) (by decide)) (by rw [g1.2 13 (by decide)]; exact h8) (fun j hj => ?_) (hf.tr (g1.wid (by decide) (by decide)))
    by_cases e : j = i
    · subst e
      exact mup_s _ _ _ _
    · rw [mup_k (by omega)]
      exact h9 j (by omega)
theorem t_layStroke (hst : l.stackTraces = false) (hm : isM N sh) (hz : zR (μ 274) xs ys C S) (hw : wfS S) (hP : hasMP μ px py) (hbx : bnd px 0 31) (hby : bnd py 0 31) (hl : px.length ≤ 41) : Zv G l N sh M_X8_layStroke [.ref (gB G + 273)] μ (fun μ' => hasR μ' (fgvOf px py S).1 ∧ hasK μ' (stk px py S) ∧ frK [279, 280, 281] [11, 13] μ μ') := by
  refine Fx.of hst rfl (by decide +kernel) (Nat.le_of_ble_eq_true rfl) rfl ?_
  refine VW.aload_n dX8_layStroke_0 rfl ?_
  refine VW.fvV0 cv_X8_layStroke_X8_layRuns dX8_layStroke_1 (Nat.le_of_ble_eq_true rfl) (by have := hm.1; omega) hm.2.1 (t_layRuns hst hm hP hbx hby hl) (fun μ1 h1 => ?_)
  have rok := rn_ok hbx hby hl
  refine VW.aload_n dX8_layStroke_4 rfl ?_
  refine VW.fiV0 cv_X8_layStroke_X8_forgive dX8_layStroke_5 (Nat.le_of_ble_eq_true rfl) (by have := hm.1; omega) hm.2.1 (t_forgive hst hm (hz.keep h1.2 (by decide)) hw h1.1 rok) (fun r2 μ2 h2 => ?_)
  obtain ⟨h2r, h2q, h2f⟩ := h2
  have q1 : μ2 273 11 = ((stk px py S).length : Int) := h2q.1
  refine VW.istore_n (lv' := [(0, _), (1, _)]) dX8_layStroke_8 (by decide) rfl ?_
  refine VW.aload_n dX8_layStroke_9 rfl ?_
  refine VW.aload_n dX8_layStroke_10 rfl ?_
  refine VW.getI dX8_layStroke_11 fa_X8_74 (by have := hm.1; omega) hm.2.1 rfl ?_
  rw [q1]
  refine VW.putI dX8_layStroke_14 fp_X8_107 (by have := hm.1; omega) hm.2.1 rfl ?_
  refine VW.iconst dX8_layStroke_17 ?_
  refine VW.istore_n (lv' := [(0, _), (1, _), (2, _)]) dX8_layStroke_18 (by decide) rfl ?_
  refine VW.sub ?_ [0, 2] rfl
  have g1 : frK [] [13] μ2 (mup μ2 273 13 ((stk px py S).length : Int)) := frK_f
  exact lp_X8_layS hst hm (stk_ok hbx hby hl).1 (stk px py S).length 0 (by omega) (by omega) _ (h2q.keep g1 (by decide) (by decide) (by decide)) (mup_s _ _ _ _) (fun j hj => by omega) (((h1.2.wid (by decide) (by decide)).tr (h2f.wid (by decide) (by decide))).tr (g1.wid (by decide) (by decide)))
theorem okS.un (h : okS ((xs, ys), C, S)) : (ys.length = xs.length ∧ xs.length ≤ 40 ∧ bnd xs 0 31 ∧ bnd ys 0 31) ∧ (C.length ≤ 10 ∧ (∀ L ∈ C, L.length ≤ 8 ∧ bnd L 0 7) ∧ C.Nodup) ∧ wfS S := h
theorem t_pathStroke (hst : l.stackTraces = false) (hm : isM N sh) (hz : zR (μ 274) xs ys C S) (ok : okS ((xs, ys), C, S)) : Zv G l N sh M_X8_pathStroke [.ref (gB G + 273)] μ (fun μ' => hasR μ' (fgvOf xs ys S).1 ∧ hasK μ' (stk xs ys S) ∧ frK [277, 278, 279, 280, 281] [8, 11, 13] μ μ') := by
  refine Fx.of hst rfl (by decide +kernel) (Nat.le_of_ble_eq_true rfl) rfl ?_
  obtain ⟨⟨ok1, ok2, ok3, ok4⟩, ⟨ok5, ok6, ok7⟩, ok8⟩ := okS.un ok
  refine VW.aload_n dX8_pathStroke_0 rfl ?_
  refine VW.fvV0 cv_X8_pathStroke_X8_takePath dX8_pathStroke_1 (Nat.le_of_ble_eq_true rfl) (by have := hm.1; omega) hm.2.1 (t_takePath hst hm hz ⟨ok1, ok2⟩) (fun μ1 h1 => ?_)
  refine VW.aload_n dX8_pathStroke_4 rfl ?_
  refine VW.fvV0 cv_X8_pathStroke_X8_layStroke dX8_pathStroke_5 (Nat.le_of_ble_eq_true rfl) (by have := hm.1; omega) hm.2.1 (t_layStroke hst hm (hz.keep h1.2 (by decide)) ok8 h1.1 ok3 ok4 (by omega)) (fun μ2 h2 => ?_)
  refine VW.vreturn dX8_pathStroke_8 rfl ?_
  refine fxP.vv ?_
  exact ⟨h2.1, h2.2.1, (h1.2.wid (by decide) (by decide)).tr (h2.2.2.wid (by decide) (by decide))⟩
theorem t_directionsOf (hst : l.stackTraces = false) (hm : isM N sh) (hz : zR (μ 274) xs ys C S) (ok : okS ((xs, ys), C, S)) {c : Int} (hc : 0 ≤ c ∧ c < C.length) : Zi G l N sh M_X8_directionsOf [.ref (gB G + 273), vI c] μ (fun r μ' => r = ((C.getD c.toNat []).length : Int) ∧ μ' = μ) := by
  refine Fx.of hst rfl (by decide +kernel) (Nat.le_of_ble_eq_true rfl) rfl ?_
  obtain ⟨⟨ok1, ok2, ok3, ok4⟩, ⟨ok5, ok6, ok7⟩, ok8⟩ := okS.un ok
  have zc := hz.2.2.2.2 c hc
  have l8 := ok6 _ (getD_mem C (i := c.toNat) (by omega))
  refine VW.aload_n dX8_directionsOf_0 rfl ?_
  refine VW.getR dX8_directionsOf_1 fa_X8_7 (by have := hm.1; omega) hm.2.1 rfl ?_
  refine VW.bipush dX8_directionsOf_4 rfl ?_
  refine VW.bipush dX8_directionsOf_6 rfl ?_
  refine VW.iload_n dX8_directionsOf_8 rfl ?_
  refine VW.imul dX8_directionsOf_9 ?_
  refine VW.iadd dX8_directionsOf_10 ?_
  refine VW.iaload dX8_directionsOf_11 (by have := hm.1; omega) hm.2.2.1 (by omega) (by omega) (by decide) ?_
  refine VW.ireturn dX8_directionsOf_12 rfl rfl ?_
  refine fxP.ii ⟨?_, rfl⟩
  exact zc.1
theorem t_directionOf (hst : l.stackTraces = false) (hm : isM N sh) (hz : zR (μ 274) xs ys C S) (ok : okS ((xs, ys), C, S)) {c : Int} (hc : 0 ≤ c ∧ c < C.length) {j : Int} (hj : 0 ≤ j ∧ j < (C.getD c.toNat []).length) : Zi G l N sh M_X8_directionOf [.ref (gB G + 273), vI c, vI j] μ (fun r μ' => r = rat (C.getD c.toNat []) j ∧ μ' = μ) := by
  refine Fx.of hst rfl (by decide +kernel) (Nat.le_of_ble_eq_true rfl) rfl ?_
  obtain ⟨⟨ok1, ok2, ok3, ok4⟩, ⟨ok5, ok6, ok7⟩, ok8⟩ := okS.un ok
  have zc := hz.2.2.2.2 c hc
  have l8 := ok6 _ (getD_mem C (i := c.toNat) (by omega))
  refine VW.aload_n dX8_directionOf_0 rfl ?_
  refine VW.getR dX8_directionOf_1 fa_X8_7 (by have := hm.1; omega) hm.2.1 rfl ?_
  refine VW.bipush dX8_directionOf_4 rfl ?_
  refine VW.bipush dX8_directionOf_6 rfl ?_
  refine VW.iload_n dX8_directionOf_8 rfl ?_
  refine VW.imul dX8_directionOf_9 ?_
  refine VW.iadd dX8_directionOf_10 ?_
  refine VW.iconst dX8_directionOf_11 ?_
  refine VW.iadd dX8_directionOf_12 ?_
  refine VW.iload_n dX8_directionOf_13 rfl ?_
  refine VW.iadd dX8_directionOf_14 ?_
  refine VW.iaload dX8_directionOf_15 (by have := hm.1; omega) hm.2.2.1 (by omega) (by omega) (by decide) ?_
  refine VW.ireturn dX8_directionOf_16 rfl rfl ?_
  refine fxP.ii ⟨?_, rfl⟩
  exact zc.2 j hj
theorem t_isCommand (hst : l.stackTraces = false) (hm : isM N sh) (hz : zR (μ 274) xs ys C S) (ok : okS ((xs, ys), C, S)) {c : Int} (hc : R32 c) : Zi G l N sh M_X8_isCommand [.ref (gB G + 273), vI c] μ (fun r μ' => r = bI (decide (0 ≤ c ∧ c < C.length)) ∧ μ' = μ) := by
  refine Fx.of hst rfl (by decide +kernel) (Nat.le_of_ble_eq_true rfl) rfl ?_
  obtain ⟨⟨ok1, ok2, ok3, ok4⟩, ⟨ok5, ok6, ok7⟩, ok8⟩ := okS.un ok
  have z6 : μ 274 6 = (C.length : Int) := hz.2.2.1
  refine VW.iload_n dX8_isCommand_0 rfl ?_
  refine VW.iconst dX8_isCommand_1 ?_
  refine VW.aload_n dX8_isCommand_2 rfl ?_
  refine VW.getR dX8_isCommand_3 fa_X8_7 (by have := hm.1; omega) hm.2.1 rfl ?_
  refine VW.bipush dX8_isCommand_6 rfl ?_
  refine VW.iaload dX8_isCommand_8 (by have := hm.1; omega) hm.2.2.1 (by omega) (by omega) (by decide) ?_
  refine VW.iconst dX8_isCommand_9 ?_
  refine VW.isub dX8_isCommand_10 ?_
  rw [show (6 : Int).toNat = 6 from rfl, z6]
  refine VW.pS3 cs_X8_isCommand_X8_within dX8_isCommand_11 (Nat.le_of_ble_eq_true rfl) (t_within hst hc ⟨by omega, by omega⟩ ⟨by omega, by omega⟩) ?_
  refine VW.ireturn dX8_isCommand_14 rfl (nb _ (by have := bI_b (decide (0 ≤ c ∧ c ≤ (C.length : Int) - 1)); omega)) ?_
  refine fxP.ii ⟨?_, rfl⟩
  congr 1
  exact decide_eq_decide.mpr (by omega)
theorem lp_X8_cs (hst : l.stackTraces = false) (hm : isM N sh) (hz : zR (μ 274) xs ys C S) (ok : okS ((xs, ys), C, S)) {c : Int} (hc : 0 ≤ c ∧ c < C.length) : ∀ (n : Nat) (i : Int), 0 ≤ i → i + n = (C.getD c.toNat []).length → ∀ μ2 : Mem, μ2 273 13 = ((C.getD c.toNat []).length : Int) → (∀ j : Int, 0 ≤ j ∧ j < i → μ2 281 j.toNat = rat (C.getD c.toNat []) j) → frK [281] [13] μ μ2 → VW G l none M_X8_commandStroke 11 [(0, .ref (gB G + 273)), (1, vI c), (2, vI i)] [] (N, sh, μ2) 0 0 (fxP N sh (oN (vN_v (fun μ' => hasK μ' (C.getD c.toNat []) ∧ frK [281] [13] μ μ')))) := by
  obtain ⟨⟨ok1, ok2, ok3, ok4⟩, ⟨ok5, ok6, ok7⟩, ok8⟩ := okS.un ok
  have zc := hz.2.2.2.2 c hc
  have l8 := ok6 _ (getD_mem C (i := c.toNat) (by omega))
  intro n
  induction n with
  | zero =>
    intro i h1 h2 μ2 h8 h9 hf
    refine VW.iload_n dX8_commandStroke_11 rfl ?_
    refine VW.aload_n dX8_commandStroke_12 rfl ?_
    refine VW.getI dX8_commandStroke_13 fa_X8_107 (by have := hm.1; omega) hm.2.1 rfl ?_
    refine VW.icmp_ge 37 ⟨by omega, by omega⟩ ⟨by omega, by omega⟩ dX8_commandStroke_16 (by decide) (fun c16 => ?_) (fun c16 => by omega)
    refine VW.vreturn dX8_commandStroke_37 rfl ?_
    refine fxP.vv ?_
    exact ⟨⟨h8, fun j hj => h9 j (by omega)⟩, hf⟩
  | succ n ih =>
    intro i h1 h2 μ2 h8 h9 hf
    refine VW.iload_n dX8_commandStroke_11 rfl ?_
    refine VW.aload_n dX8_commandStroke_12 rfl ?_
    refine VW.getI dX8_commandStroke_13 fa_X8_107 (by have := hm.1; omega) hm.2.1 rfl ?_
    refine VW.icmp_ge 37 ⟨by omega, by omega⟩ ⟨by omega, by omega⟩ dX8_commandStroke_16 (by decide) (fun c16 => by omega) (fun c16 => ?_)
    refine VW.aload_n dX8_commandStroke_19 rfl ?_
    refine VW.getR dX8_commandStroke_20 fa_X8_31 (by have := hm.1; omega) hm.2.1 rfl ?_
    refine VW.iload_n dX8_commandStroke_23 rfl ?_
    refine VW.aload_n dX8_commandStroke_24 rfl ?_
    refine VW.iload_n dX8_commandStroke_25 rfl ?_
    refine VW.iload_n dX8_commandStroke_26 rfl ?_
    refine VW.pV2 cv_X8_commandStroke_X8_directionOf dX8_commandStroke_27 (Nat.le_of_ble_eq_true rfl) (by have := hm.1; omega) hm.2.1 (t_directionOf hst hm (hz.keep hf (by decide)) ok hc (j := i) ⟨by omega, by omega⟩) ?_
    refine VW.iastore dX8_commandStroke_30 (by have := hm.1; omega) hm.2.2.2.2.2.2.2.2.2.1 (by omega) (by omega) (by decide) ?_
    refine VW.iinc (lv' := [(0, _), (1, _), (2, _)]) dX8_commandStroke_31 rfl (by decide) rfl ?_
    refine VW.goto 11 dX8_commandStroke_34 (by decide) ?_
    refine VW.sub ?_ [0, 1, 2] rfl
    have g1 : frK [281] [] μ2 (mup μ2 281 i.toNat (rat (C.getD c.toNat []) i)) := frK_a (by decide)
    refine ih (i + 1) (by omega) (by omega) _ (by rw [g1.2 13 (by decide)]; exact h8) (fun j hj => ?_) (hf.tr (g1.wid (by decide) (by decide)))
    by_cases e : j = i
    · subst e
      exact mup_s _ _ _ _
    · rw [mup_k (by omega)]
      exact h9 j (by omega)
theorem t_commandStroke (hst : l.stackTraces = false) (hm : isM N sh) (hz : zR (μ 274) xs ys C S) (ok : okS ((xs, ys), C, S)) {c : Int} (hc : 0 ≤ c ∧ c < C.length) : Zv G l N sh M_X8_commandStroke [.ref (gB G + 273), vI c] μ (fun μ' => hasK μ' (C.getD c.toNat []) ∧ frK [281] [13] μ μ') := by
  refine Fx.of hst rfl (by decide +kernel) (Nat.le_of_ble_eq_true rfl) rfl ?_
  obtain ⟨⟨ok1, ok2, ok3, ok4⟩, ⟨ok5, ok6, ok7⟩, ok8⟩ := okS.un ok
  have zc := hz.2.2.2.2 c hc
  have l8 := ok6 _ (getD_mem C (i := c.toNat) (by omega))
  refine VW.aload_n dX8_commandStroke_0 rfl ?_
  refine VW.aload_n dX8_commandStroke_1 rfl ?_
  refine VW.iload_n dX8_commandStroke_2 rfl ?_
  refine VW.pV1 cv_X8_commandStroke_X8_directionsOf dX8_commandStroke_3 (Nat.le_of_ble_eq_true rfl) (by have := hm.1; omega) hm.2.1 (t_directionsOf hst hm hz ok hc) ?_
  refine VW.putI dX8_commandStroke_6 fp_X8_107 (by have := hm.1; omega) hm.2.1 rfl ?_
  refine VW.iconst dX8_commandStroke_9 ?_
  refine VW.istore_n (lv' := [(0, _), (1, _), (2, _)]) dX8_commandStroke_10 (by decide) rfl ?_
  exact lp_X8_cs hst hm hz ok hc (C.getD c.toNat []).length 0 (by omega) (by omega) _ (mup_s _ _ _ _) (fun j hj => by omega) (frK_f.wid (by decide) (by decide))
end PM
