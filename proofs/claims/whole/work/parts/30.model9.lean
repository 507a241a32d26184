/-! ===== the model: forget, set, go, turn ===== -/
section PU
variable {G : GT} {l : Launch} {N : Nat} {sh : Nat → ShT} {μ μ' : Mem} {xs ys S D Ln : List Int} {C : List (List Int)} {v lo hi : Int}
variable {Z : List St} {B : List Int} {q : QS}
theorem getC_erase {C : List (List Int)} {c j : Nat} : (C.eraseIdx c).getD j [] = if j < c then C.getD j [] else C.getD (j + 1) [] := by
  unfold List.getD
  rw [List.getElem?_eraseIdx]
  split <;> rfl
theorem zR_forget {f g : Nat → Int} {c : Int} (hz : zR f xs ys C S) (hx : xs.length ≤ 40) (h8 : ∀ L ∈ C, L.length ≤ 8) (hc : 0 ≤ c ∧ c < C.length) (h6 : g 6 = (C.length : Int) - 1) (e : ∀ i, i ≠ 6 → i < 87 + 9 * c.toNat → g i = f i) (e2 : ∀ i, 87 + 9 * c.toNat ≤ i → i + 9 < 87 + 9 * C.length → g i = f (i + 9)) : zR g xs ys (C.eraseIdx c.toNat) S := by
  obtain ⟨h1, h2, h3, h4, hcc⟩ := hz
  have el : (C.eraseIdx c.toNat).length = C.length - 1 := by rw [List.length_eraseIdx, if_pos (by omega)]
  refine ⟨fun s hs => by rw [e _ (by omega) (by omega)]; exact h1 s hs, by rw [e 5 (by omega) (by omega)]; exact h2, by rw [h6, el]; omega, fun k hk => by rw [e _ (by omega) (by omega), e _ (by omega) (by omega)]; exact h4 k hk, fun d hd => ?_⟩
  rw [el] at hd
  rw [getC_erase]
  by_cases hdc : d < c
  · rw [if_pos (by omega)]
    have l8 := h8 _ (getD_mem C (i := d.toNat) (by omega))
    rw [e _ (by omega) (by omega)]
    exact ⟨(hcc d (by omega)).1, fun j hj => by rw [e _ (by omega) (by omega)]; exact (hcc d (by omega)).2 j hj⟩
  · rw [if_neg (by omega)]
    have l8 := h8 _ (getD_mem C (i := d.toNat + 1) (by omega))
    have hn := hcc (d + 1) (by omega)
    rw [show (d + 1).toNat = d.toNat + 1 by omega] at hn
    rw [e2 _ (by omega) (by omega), show (87 + 9 * d).toNat + 9 = (87 + 9 * (d + 1)).toNat by omega]
    refine ⟨hn.1, fun j hj => ?_⟩
    rw [e2 _ (by omega) (by omega), show (87 + 9 * d + 1 + j).toNat + 9 = (87 + 9 * (d + 1) + 1 + j).toNat by omega]
    exact hn.2 j hj
theorem lp_X8_fo (hst : l.stackTraces = false) (hm : isM N sh) {c : Int} (hc : 0 ≤ c ∧ c < C.length) (h10 : C.length ≤ 10) {Φ : RT → Prop} (kk : ∀ μ3 : Mem, μ3 274 6 = (C.length : Int) - 1 → (∀ j : Nat, j ≠ 6 → j < 87 + 9 * c.toNat → μ3 274 j = μ 274 j) → (∀ j : Nat, 87 + 9 * c.toNat ≤ j → j + 9 < 87 + 9 * C.length → μ3 274 j = μ 274 (j + 9)) → frK [274] [] μ μ3 → VW G l none M_X8_forget 87 [(0, .ref (gB G + 273))] [] (N, sh, μ3) 0 0 Φ) : ∀ (n : Nat) (i : Int), 87 + 9 * c ≤ i → i + n = 87 + 9 * ((C.length : Int) - 1) → ∀ μ2 : Mem, μ2 274 6 = (C.length : Int) - 1 → (∀ j : Nat, j ≠ 6 → j < 87 + 9 * c.toNat → μ2 274 j = μ 274 j) → (∀ j : Nat, 87 + 9 * c.toNat ≤ j → (j : Int) < i → μ2 274 j = μ 274 (j + 9)) → (∀ j : Nat, 87 ≤ j → i ≤ (j : Int) → μ2 274 j = μ 274 j) → frK [274] [] μ μ2 → VW G l none M_X8_forget 49 [(0, .ref (gB G + 273)), (1, vI c), (2, vI i)] [] (N, sh, μ2) 0 0 Φ := by
  intro n
  induction n with
  | zero =>
    intro i h1 h2 μ2 h6 h3 h5 h4 hf
    have e6 : μ2 274 6 = (C.length : Int) - 1 := h6
    refine VW.iload_n dX8_forget_49 rfl ?_
    refine VW.bipush dX8_forget_50 rfl ?_
    refine VW.bipush dX8_forget_52 rfl ?_
    refine VW.aload_n dX8_forget_54 rfl ?_
    refine VW.getR dX8_forget_55 fa_X8_7 (by have := hm.1; omega) hm.2.1 rfl ?_
    refine VW.bipush dX8_forget_58 rfl ?_
    refine VW.iaload dX8_forget_60 (by have := hm.1; omega) hm.2.2.1 (by omega) (by omega) (by decide) ?_
    rw [show (6 : Int).toNat = 6 from rfl, e6]
    refine VW.imul dX8_forget_61 ?_
    refine VW.iadd dX8_forget_62 ?_
    refine VW.icmp_ge 87 ⟨by omega, by omega⟩ ⟨by omega, by omega⟩ dX8_forget_63 (by decide) (fun c63 => ?_) (fun c63 => by omega)
    refine VW.sub ?_ [0] rfl
    exact kk μ2 h6 h3 (fun j a b => h5 j a (by omega)) hf
  | succ n ih =>
    intro i h1 h2 μ2 h6 h3 h5 h4 hf
    have e6 : μ2 274 6 = (C.length : Int) - 1 := h6
    refine VW.iload_n dX8_forget_49 rfl ?_
    refine VW.bipush dX8_forget_50 rfl ?_
    refine VW.bipush dX8_forget_52 rfl ?_
    refine VW.aload_n dX8_forget_54 rfl ?_
    refine VW.getR dX8_forget_55 fa_X8_7 (by have := hm.1; omega) hm.2.1 rfl ?_
    refine VW.bipush dX8_forget_58 rfl ?_
    refine VW.iaload dX8_forget_60 (by have := hm.1; omega) hm.2.2.1 (by omega) (by omega) (by decide) ?_
    rw [show (6 : Int).toNat = 6 from rfl, e6]
    refine VW.imul dX8_forget_61 ?_
    refine VW.iadd dX8_forget_62 ?_
    refine VW.icmp_ge 87 ⟨by omega, by omega⟩ ⟨by omega, by omega⟩ dX8_forget_63 (by decide) (fun c63 => by omega) (fun c63 => ?_)
    refine VW.aload_n dX8_forget_66 rfl ?_
    refine VW.getR dX8_forget_67 fa_X8_7 (by have := hm.1; omega) hm.2.1 rfl ?_
    refine VW.iload_n dX8_forget_70 rfl ?_
    refine VW.aload_n dX8_forget_71 rfl ?_
    refine VW.getR dX8_forget_72 fa_X8_7 (by have := hm.1; omega) hm.2.1 rfl ?_
    refine VW.iload_n dX8_forget_75 rfl ?_
    refine VW.bipush dX8_forget_76 rfl ?_
    refine VW.iadd dX8_forget_78 ?_
    refine VW.iaload dX8_forget_79 (by have := hm.1; omega) hm.2.2.1 (by omega) (by omega) (by decide) ?_
    rw [h4 (i + 9).toNat (by omega) (by omega)]
    refine VW.iastore dX8_forget_80 (by have := hm.1; omega) hm.2.2.1 (by omega) (by omega) (by decide) ?_
    refine VW.iinc (lv' := [(0, _), (1, _), (2, _)]) dX8_forget_81 rfl (by decide) rfl ?_
    refine VW.goto 49 dX8_forget_84 (by decide) ?_
    refine ih (i + 1) (by omega) (by omega) _ (by rw [mup_k (by omega)]; exact h6) (fun j a b => by rw [mup_k (by omega)]; exact h3 j a b) (fun j a b => ?_) (fun j a b => by rw [mup_k (by omega)]; exact h4 j a (by omega)) (hf.tr (frK_a (by decide)))
    by_cases e : j = i.toNat
    · rw [e, mup_s]
      congr 1
      omega
    · rw [mup_k (by omega)]; exact h5 j a (by omega)
theorem t_forget (hst : l.stackTraces = false) (hm : isM N sh) (h : hasM μ xs ys C S Z B) (ok : okA (mk xs ys C S Z B)) {c : Int} (hc : R32 c) : Zi G l N sh M_X8_forget [.ref (gB G + 273), vI c] μ (tP (opForget xs ys C S Z B c) μ) := by
  refine Fx.of hst rfl (by decide +kernel) (Nat.le_of_ble_eq_true rfl) rfl ?_
  obtain ⟨⟨⟨ok1, ok2, ok3, ok4⟩, ⟨ok5, ok6, ok7⟩, ok8⟩, ⟨ok9, ok10⟩, ok11, ok12⟩ := okA.un ok
  have okσ : okS ((xs, ys), C, S) := ok.1
  obtain ⟨hz, hn, hh, hb, hB⟩ := id h
  have z5 : μ 274 5 = (xs.length : Int) := hz.2.1
  have z6 : μ 274 6 = (C.length : Int) := hz.2.2.1
  refine VW.aload_n dX8_forget_0 rfl ?_
  refine VW.aload_n dX8_forget_1 rfl ?_
  refine VW.iload_n dX8_forget_2 rfl ?_
  refine VW.pV1 cv_X8_forget_X8_isCommand dX8_forget_3 (Nat.le_of_ble_eq_true rfl) (by have := hm.1; omega) hm.2.1 (t_isCommand hst hm hz okσ hc) ?_
  refine VW.if_eq 13 (bR2 _) dX8_forget_6 (by decide) (fun c6 => ?_) (fun c6 => ?_)
  · rw [bI0d] at c6
    refine VW.iconst dX8_forget_13 ?_
    refine VW.putI dX8_forget_14 fp_X8_43 (by have := hm.1; omega) hm.2.1 rfl ?_
    have gt : frK aM bM μ (mup μ 273 5 1) := frK_f.wid (by decide) (by decide)
    have ht : hasM (mup μ 273 5 1) xs ys C S Z B := h.keep (frK_f : frK [] [5] μ _) (by decide) (by decide) (by decide) (by decide) (by decide)
    refine VW.aload_n dX8_forget_17 rfl ?_
    refine VW.getI dX8_forget_18 fa_X8_43 (by have := hm.1; omega) hm.2.1 rfl ?_
    rw [mup_s]
    refine VW.if_le 26 (by decide) dX8_forget_21 (by decide) (fun c21 => absurd c21 (by decide)) (fun _ => ?_)
    refine VW.iconst dX8_forget_24 ?_
    refine VW.ireturn dX8_forget_25 rfl rfl ?_
    exact fxP.ii (tP_x (if_pos c6) ht gt (by decide) (mup_s _ _ _ _))
  · rw [bI0d] at c6
    refine VW.iconst dX8_forget_9 ?_
    refine VW.goto 14 dX8_forget_10 (by decide) ?_
    refine VW.putI dX8_forget_14 fp_X8_43 (by have := hm.1; omega) hm.2.1 rfl ?_
    have gt : frK aM bM μ (mup μ 273 5 0) := frK_f.wid (by decide) (by decide)
    have ht : hasM (mup μ 273 5 0) xs ys C S Z B := h.keep (frK_f : frK [] [5] μ _) (by decide) (by decide) (by decide) (by decide) (by decide)
    refine VW.aload_n dX8_forget_17 rfl ?_
    refine VW.getI dX8_forget_18 fa_X8_43 (by have := hm.1; omega) hm.2.1 rfl ?_
    rw [mup_s]
    refine VW.if_le 26 (by decide) dX8_forget_21 (by decide) (fun _ => ?_) (fun c21 => absurd c21 (by decide))
    refine VW.aload_n dX8_forget_26 rfl ?_
    refine VW.fvV0 cv_X8_forget_X8_save dX8_forget_27 (Nat.le_of_ble_eq_true rfl) (by have := hm.1; omega) hm.2.1 (t_save hst hm ht okσ ok10 ok9) (fun μ2 h2 => ?_)
    refine VW.aload_n dX8_forget_30 rfl ?_
    refine VW.getR dX8_forget_31 fa_X8_7 (by have := hm.1; omega) hm.2.1 rfl ?_
    refine VW.bipush dX8_forget_34 rfl ?_
    refine VW.dup2 dX8_forget_36 rfl rfl ?_
    refine VW.iaload dX8_forget_37 (by have := hm.1; omega) hm.2.2.1 (by omega) (by omega) (by decide) ?_
    have e26 : μ2 274 6 = (C.length : Int) := h2.1.1.2.2.1
    rw [show (6 : Int).toNat = 6 from rfl, e26]
    refine VW.iconst dX8_forget_38 ?_
    refine VW.isub dX8_forget_39 ?_
    refine VW.iastore dX8_forget_40 (by have := hm.1; omega) hm.2.2.1 (by omega) (by omega) (by decide) ?_
    refine VW.bipush dX8_forget_41 rfl ?_
    refine VW.bipush dX8_forget_43 rfl ?_
    refine VW.iload_n dX8_forget_45 rfl ?_
    refine VW.imul dX8_forget_46 ?_
    refine VW.iadd dX8_forget_47 ?_
    refine VW.istore_n (lv' := [(0, _), (1, _), (2, _)]) dX8_forget_48 (by decide) rfl ?_
    have cc : 0 ≤ c ∧ c < C.length := Classical.not_not.mp c6
    have gg : frK [274] [] μ2 (mup μ2 274 6 ((C.length : Int) - 1)) := frK_a (by decide)
    refine lp_X8_fo hst hm cc ok5 (fun μ3 h6 h3 h5 hf => ?_) (9 * (C.length - 1 - c.toNat)) (87 + 9 * c) (by omega) (by omega) _ (mup_s _ _ _ _) (fun j a b => rfl) (fun j a b => by omega) (fun j a b => rfl) frK.rf
    have hz3 : zR (μ3 274) xs ys (C.eraseIdx c.toNat) S := by
      refine zR_forget h2.1.1 ok2 (fun L hL => (ok6 L hL).1) cc h6 (fun i a b => ?_) (fun i a b => ?_)
      · rw [h3 i a b]
        exact mup_k a
      · rw [h5 i a b]
        exact mup_k (show i + 9 ≠ 6 by omega)
    have g3 : frK [274] [] μ2 μ3 := gg.tr hf
    have h9 : hasM μ3 xs ys (C.eraseIdx c.toNat) S (kp Z ((xs, ys), C, S)) B := h2.1.z g3 hz3 (by decide) (by decide) (by decide) (by decide)
    have hq : opForget xs ys C S Z B c = ((0, (C.length : Int) - 1), mk xs ys (C.eraseIdx c.toNat) S (kp Z ((xs, ys), C, S)) B) := if_neg (fun w => w cc)
    refine VW.aload_n dX8_forget_87 rfl ?_
    refine VW.getR dX8_forget_88 fa_X8_7 (by have := hm.1; omega) hm.2.1 rfl ?_
    refine VW.bipush dX8_forget_91 rfl ?_
    refine VW.iaload dX8_forget_93 (by have := hm.1; omega) hm.2.2.1 (by omega) (by omega) (by decide) ?_
    refine VW.ireturn dX8_forget_94 rfl rfl ?_
    rw [show (6 : Int).toNat = 6 from rfl, h6]
    exact fxP.ii (tP_r hq h9 ((gt.tr (h2.2.wid (by decide) (by decide))).tr (g3.wid (by decide) (by decide))) (by rw [g3.2 5 (by decide), h2.2.2 5 (by decide), mup_s]))
theorem zR_set {f g : Nat → Int} {s v : Int} (hz : zR f xs ys C S) (hs : 0 ≤ s ∧ s < 5) (h5 : S.length = 5) (e1 : g s.toNat = v) (e : ∀ i, i ≠ s.toNat → g i = f i) : zR g xs ys C (S.set s.toNat v) := by
  obtain ⟨h1, h2, h3, h4, hc⟩ := hz
  refine ⟨fun j hj => ?_, by rw [e _ (by omega)]; exact h2, by rw [e _ (by omega)]; exact h3, fun k hk => by rw [e _ (by omega), e _ (by omega)]; exact h4 k hk, fun c hc2 => by rw [e _ (by omega)]; exact ⟨(hc c hc2).1, fun j hj => by rw [e _ (by omega)]; exact (hc c hc2).2 j hj⟩⟩
  rw [rat_set (by omega) (by omega)]
  by_cases ej : j = s
  · rw [if_pos ej, ej, e1]
  · rw [if_neg ej, e _ (by omega)]; exact h1 j hj
theorem okS_set {s v : Int} (ok : okS ((xs, ys), C, S)) (hs : 0 ≤ s ∧ s < 5) (hv : tbo 1 s ≤ v ∧ v ≤ tbo 2 s) : okS ((xs, ys), C, S.set s.toNat v) := ⟨ok.1, ok.2.1, wfS_set ok.2.2 hs hv⟩
theorem tb_val {s : Int} (hs : 0 ≤ s ∧ s < 5) : tbo 1 s = (if s = 4 ∨ s = 1 then 0 else 1) ∧ tbo 2 s = (if s = 4 then 20 else 9) := by
  rcases (by omega : s = 0 ∨ s = 1 ∨ s = 2 ∨ s = 3 ∨ s = 4) with rfl | rfl | rfl | rfl | rfl <;> decide
variable {s : Int}
theorem t_isValue (hst : l.stackTraces = false) (hs : 0 ≤ s ∧ s < 5) (hv : R32 v) : Zi G l N sh M_X8_isValue [vI s, vI v] μ (fun r μ' => r = bI (decide (tbo 1 s ≤ v ∧ v ≤ tbo 2 s)) ∧ μ' = μ) := by
  refine Fx.of hst rfl (by decide +kernel) (Nat.le_of_ble_eq_true rfl) rfl ?_
  refine VW.iload_n dX8_isValue_0 rfl ?_
  refine VW.iconst dX8_isValue_1 ?_
  refine VW.icmp_ne 15 ⟨by omega, by omega⟩ ⟨by omega, by omega⟩ dX8_isValue_2 (by decide) (fun c2 => ?_) (fun c2 => ?_)
  · refine VW.iload_n dX8_isValue_15 rfl ?_
    refine VW.iload_n dX8_isValue_16 rfl ?_
    refine VW.iconst dX8_isValue_17 ?_
    refine VW.icmp_ne 25 ⟨by omega, by omega⟩ ⟨by omega, by omega⟩ dX8_isValue_18 (by decide) (fun c18 => ?_) (fun c18 => ?_)
    · refine VW.iconst dX8_isValue_25 ?_
      refine VW.bipush dX8_isValue_26 rfl ?_
      refine VW.pS3 cs_X8_isValue_X8_within dX8_isValue_28 (Nat.le_of_ble_eq_true rfl) (t_within hst hv ⟨by omega, by omega⟩ ⟨by omega, by omega⟩) ?_
      refine VW.ireturn dX8_isValue_31 rfl (nb _ (by first | (have := bI_b (decide ((0 : Int) ≤ v ∧ v ≤ 20)); omega) | (have := bI_b (decide ((0 : Int) ≤ v ∧ v ≤ 9)); omega) | (have := bI_b (decide ((1 : Int) ≤ v ∧ v ≤ 9)); omega))) ?_
      refine fxP.ii ⟨?_, rfl⟩
      congr 1
      have tv := tb_val hs
      have t1 : tbo 1 s = 0 ∧ (s = 4 ∨ s = 1) ∨ tbo 1 s = 1 ∧ ¬ (s = 4 ∨ s = 1) := by rw [tv.1]; split <;> omega
      have t2 : tbo 2 s = 20 ∧ s = 4 ∨ tbo 2 s = 9 ∧ ¬ s = 4 := by rw [tv.2]; split <;> omega
      exact decide_eq_decide.mpr (by omega)
    · refine VW.iconst dX8_isValue_21 ?_
      refine VW.goto 26 dX8_isValue_22 (by decide) ?_
      refine VW.bipush dX8_isValue_26 rfl ?_
      refine VW.pS3 cs_X8_isValue_X8_within dX8_isValue_28 (Nat.le_of_ble_eq_true rfl) (t_within hst hv ⟨by omega, by omega⟩ ⟨by omega, by omega⟩) ?_
      refine VW.ireturn dX8_isValue_31 rfl (nb _ (by first | (have := bI_b (decide ((0 : Int) ≤ v ∧ v ≤ 20)); omega) | (have := bI_b (decide ((0 : Int) ≤ v ∧ v ≤ 9)); omega) | (have := bI_b (decide ((1 : Int) ≤ v ∧ v ≤ 9)); omega))) ?_
      refine fxP.ii ⟨?_, rfl⟩
      congr 1
      have tv := tb_val hs
      have t1 : tbo 1 s = 0 ∧ (s = 4 ∨ s = 1) ∨ tbo 1 s = 1 ∧ ¬ (s = 4 ∨ s = 1) := by rw [tv.1]; split <;> omega
      have t2 : tbo 2 s = 20 ∧ s = 4 ∨ tbo 2 s = 9 ∧ ¬ s = 4 := by rw [tv.2]; split <;> omega
      exact decide_eq_decide.mpr (by omega)
  · refine VW.iload_n dX8_isValue_5 rfl ?_
    refine VW.iconst dX8_isValue_6 ?_
    refine VW.bipush dX8_isValue_7 rfl ?_
    refine VW.pS3 cs_X8_isValue_X8_within dX8_isValue_9 (Nat.le_of_ble_eq_true rfl) (t_within hst hv ⟨by omega, by omega⟩ ⟨by omega, by omega⟩) ?_
    refine VW.goto 31 dX8_isValue_12 (by decide) ?_
    refine VW.ireturn dX8_isValue_31 rfl (nb _ (by first | (have := bI_b (decide ((0 : Int) ≤ v ∧ v ≤ 20)); omega) | (have := bI_b (decide ((0 : Int) ≤ v ∧ v ≤ 9)); omega) | (have := bI_b (decide ((1 : Int) ≤ v ∧ v ≤ 9)); omega))) ?_
    refine fxP.ii ⟨?_, rfl⟩
    congr 1
    have tv := tb_val hs
    have t1 : tbo 1 s = 0 ∧ (s = 4 ∨ s = 1) ∨ tbo 1 s = 1 ∧ ¬ (s = 4 ∨ s = 1) := by rw [tv.1]; split <;> omega
    have t2 : tbo 2 s = 20 ∧ s = 4 ∨ tbo 2 s = 9 ∧ ¬ s = 4 := by rw [tv.2]; split <;> omega
    exact decide_eq_decide.mpr (by omega)
theorem tm_set (hst : l.stackTraces = false) (hm : isM N sh) (h : hasM μ xs ys C S Z B) (ok : okA (mk xs ys C S Z B)) (hs : R32 s) (hv : R32 v) : Zi G l N sh M_X8_set [.ref (gB G + 273), vI s, vI v] μ (tP (opSet xs ys C S Z B s v) μ) := by
  refine Fx.of hst rfl (by decide +kernel) (Nat.le_of_ble_eq_true rfl) rfl ?_
  obtain ⟨⟨⟨ok1, ok2, ok3, ok4⟩, ⟨ok5, ok6, ok7⟩, ok8⟩, ⟨ok9, ok10⟩, ok11, ok12⟩ := okA.un ok
  have okσ : okS ((xs, ys), C, S) := ok.1
  obtain ⟨hz, hn, hh, hb, hB⟩ := id h
  have z5 : μ 274 5 = (xs.length : Int) := hz.2.1
  have z6 : μ 274 6 = (C.length : Int) := hz.2.2.1
  refine VW.aload_n dX8_set_0 rfl ?_
  refine VW.iload_n dX8_set_1 rfl ?_
  refine VW.pS1 cs_X8_set_X8_isSetting dX8_set_2 (Nat.le_of_ble_eq_true rfl) (t_isSetting hst hs) ?_
  refine VW.if_ne 12 (bR2 _) dX8_set_5 (by decide) (fun c5 => ?_) (fun c5 => ?_)
  · rw [bI0d] at c5
    have c5 := Classical.not_not.mp c5
    have h5s := ok8.1
    refine VW.iload_n dX8_set_12 rfl ?_
    refine VW.iload_n dX8_set_13 rfl ?_
    refine VW.pS2 cs_X8_set_X8_isValue dX8_set_14 (Nat.le_of_ble_eq_true rfl) (t_isValue hst (s := s) (by omega) hv) ?_
    refine VW.if_eq 24 (bR2 _) dX8_set_17 (by decide) (fun c17 => ?_) (fun c17 => ?_)
    · rw [bI0d] at c17
      refine VW.iconst dX8_set_24 ?_
      refine VW.putI dX8_set_25 fp_X8_43 (by have := hm.1; omega) hm.2.1 rfl ?_
      have gt : frK aM bM μ (mup μ 273 5 2) := frK_f.wid (by decide) (by decide)
      have ht : hasM (mup μ 273 5 2) xs ys C S Z B := h.keep (frK_f : frK [] [5] μ _) (by decide) (by decide) (by decide) (by decide) (by decide)
      refine VW.aload_n dX8_set_28 rfl ?_
      refine VW.getI dX8_set_29 fa_X8_43 (by have := hm.1; omega) hm.2.1 rfl ?_
      rw [mup_s]
      refine VW.if_le 37 (by decide) dX8_set_32 (by decide) (fun c32 => absurd c32 (by decide)) (fun _ => ?_)
      refine VW.iconst dX8_set_35 ?_
      refine VW.ireturn dX8_set_36 rfl rfl ?_
      exact fxP.ii (tP_x ((if_neg (by omega)).trans (if_pos c17)) ht gt (by decide) (mup_s _ _ _ _))
    · rw [bI0d] at c17
      refine VW.iconst dX8_set_20 ?_
      refine VW.goto 25 dX8_set_21 (by decide) ?_
      refine VW.putI dX8_set_25 fp_X8_43 (by have := hm.1; omega) hm.2.1 rfl ?_
      have gt : frK aM bM μ (mup μ 273 5 0) := frK_f.wid (by decide) (by decide)
      have ht : hasM (mup μ 273 5 0) xs ys C S Z B := h.keep (frK_f : frK [] [5] μ _) (by decide) (by decide) (by decide) (by decide) (by decide)
      refine VW.aload_n dX8_set_28 rfl ?_
      refine VW.getI dX8_set_29 fa_X8_43 (by have := hm.1; omega) hm.2.1 rfl ?_
      rw [mup_s]
      refine VW.if_le 37 (by decide) dX8_set_32 (by decide) (fun _ => ?_) (fun c32 => absurd c32 (by decide))
      refine VW.aload_n dX8_set_37 rfl ?_
      refine VW.getR dX8_set_38 fa_X8_7 (by have := hm.1; omega) hm.2.1 rfl ?_
      refine VW.iload_n dX8_set_41 rfl ?_
      refine VW.iaload dX8_set_42 (by have := hm.1; omega) hm.2.2.1 (by omega) (by omega) (by decide) ?_
      rw [show (mup μ 273 5 0) 274 s.toNat = rat S s from (congrFun (mup_n (by decide)) _).trans (hz.1 s (by omega))]
      refine VW.istore_n (lv' := [(0, _), (1, _), (2, _), (3, _)]) dX8_set_43 (by decide) rfl ?_
      refine VW.aload_n dX8_set_44 rfl ?_
      refine VW.getR dX8_set_45 fa_X8_7 (by have := hm.1; omega) hm.2.1 rfl ?_
      refine VW.iload_n dX8_set_48 rfl ?_
      refine VW.iload_n dX8_set_49 rfl ?_
      refine VW.iastore dX8_set_50 (by have := hm.1; omega) hm.2.2.1 (by omega) (by omega) (by decide) ?_
      have c17 := Classical.not_not.mp c17
      have g3 : frK [274] [] (mup μ 273 5 0) (mup (mup μ 273 5 0) 274 s.toNat v) := frK_a (by decide)
      have hz3 : zR ((mup (mup μ 273 5 0) 274 s.toNat v) 274) xs ys C (S.set s.toNat v) := zR_set ht.1 (by omega) h5s (mup_s _ _ _ _) (fun i hi => mup_k hi)
      have okS3 := okS_set okσ (s := s) (v := v) (by omega) c17
      refine VW.aload_n dX8_set_51 rfl ?_
      refine VW.fiV0 cv_X8_set_X8_areApart dX8_set_52 (Nat.le_of_ble_eq_true rfl) (by have := hm.1; omega) hm.2.1 (t_areApart hst hm hz3 okS3) (fun r4 μ4 h4 => ?_)
      obtain ⟨rfl, h4f⟩ := h4
      refine VW.istore (lv' := [(0, _), (1, _), (2, _), (3, _), (4, _)]) dX8_set_55 (by decide) rfl ?_
      refine VW.aload_n dX8_set_57 rfl ?_
      refine VW.getR dX8_set_58 fa_X8_7 (by have := hm.1; omega) hm.2.1 rfl ?_
      refine VW.iload_n dX8_set_61 rfl ?_
      refine VW.iload_n dX8_set_62 rfl ?_
      refine VW.iastore dX8_set_63 (by have := hm.1; omega) hm.2.2.1 (by omega) (by omega) (by decide) ?_
      have e274 : (mup μ4 274 s.toNat (rat S s)) 274 = μ 274 := by
        rw [mup_f, h4f.1 274 (by decide) (by decide), mup_f, fup_fup, mup_n (show (274 : Nat) ≠ 273 by decide), ← hz.1 s (by omega), fup_id]
      have f4 : frK aM bM μ (mup μ4 274 s.toNat (rat S s)) := ((gt.tr (g3.wid (by decide) (by decide))).tr (h4f.wid (by decide) (by decide))).tr ((frK_a (by decide) : frK [274] [] μ4 _).wid (by decide) (by decide))
      have f49 : frK [281, 282, 274] [5, 13] μ (mup μ4 274 s.toNat (rat S s)) := (((frK_f.wid (by decide) (by decide) : frK [281, 282, 274] [5, 13] μ _).tr (g3.wid (by decide) (by decide))).tr (h4f.wid (by decide) (by decide))).tr ((frK_a (by decide) : frK [274] [] μ4 _).wid (by decide) (by decide))
      have hm4 : hasM (mup μ4 274 s.toNat (rat S s)) xs ys C S Z B := h.z f49 (by rw [e274]; exact hz) (by decide) (by decide) (by decide) (by decide)
      refine VW.aload_n dX8_set_64 rfl ?_
      refine VW.iload dX8_set_65 rfl ?_
      refine VW.if_eq 74 (bR2 _) dX8_set_67 (by decide) (fun c67 => ?_) (fun c67 => ?_)
      · rw [bI0d] at c67
        refine VW.iconst dX8_set_74 ?_
        refine VW.putI dX8_set_75 fp_X8_43 (by have := hm.1; omega) hm.2.1 rfl ?_
        have gt : frK aM bM μ (mup (mup μ4 274 s.toNat (rat S s)) 273 5 3) := f4.tr (frK_f.wid (by decide) (by decide))
        have ht : hasM (mup (mup μ4 274 s.toNat (rat S s)) 273 5 3) xs ys C S Z B := hm4.keep (frK_f : frK [] [5] _ _) (by decide) (by decide) (by decide) (by decide) (by decide)
        refine VW.aload_n dX8_set_78 rfl ?_
        refine VW.getI dX8_set_79 fa_X8_43 (by have := hm.1; omega) hm.2.1 rfl ?_
        rw [mup_s]
        refine VW.if_le 87 (by decide) dX8_set_82 (by decide) (fun c82 => absurd c82 (by decide)) (fun _ => ?_)
        refine VW.iconst dX8_set_85 ?_
        refine VW.ireturn dX8_set_86 rfl rfl ?_
        exact fxP.ii (tP_x ((if_neg (by omega)).trans ((if_neg (fun w => w c17)).trans (if_pos c67))) ht gt (by decide) (mup_s _ _ _ _))
      · rw [bI0d] at c67
        have c67 := Classical.not_not.mp c67
        refine VW.iconst dX8_set_70 ?_
        refine VW.goto 75 dX8_set_71 (by decide) ?_
        refine VW.putI dX8_set_75 fp_X8_43 (by have := hm.1; omega) hm.2.1 rfl ?_
        have gt : frK aM bM μ (mup (mup μ4 274 s.toNat (rat S s)) 273 5 0) := f4.tr (frK_f.wid (by decide) (by decide))
        have ht : hasM (mup (mup μ4 274 s.toNat (rat S s)) 273 5 0) xs ys C S Z B := hm4.keep (frK_f : frK [] [5] _ _) (by decide) (by decide) (by decide) (by decide) (by decide)
        refine VW.aload_n dX8_set_78 rfl ?_
        refine VW.getI dX8_set_79 fa_X8_43 (by have := hm.1; omega) hm.2.1 rfl ?_
        rw [mup_s]
        refine VW.if_le 87 (by decide) dX8_set_82 (by decide) (fun _ => ?_) (fun c82 => absurd c82 (by decide))
        refine VW.aload_n dX8_set_87 rfl ?_
        refine VW.fvV0 cv_X8_set_X8_save dX8_set_88 (Nat.le_of_ble_eq_true rfl) (by have := hm.1; omega) hm.2.1 (t_save hst hm ht okσ ok10 ok9) (fun μ2 h2 => ?_)
        refine VW.aload_n dX8_set_91 rfl ?_
        refine VW.getR dX8_set_92 fa_X8_7 (by have := hm.1; omega) hm.2.1 rfl ?_
        refine VW.iload_n dX8_set_95 rfl ?_
        refine VW.iload_n dX8_set_96 rfl ?_
        refine VW.iastore dX8_set_97 (by have := hm.1; omega) hm.2.2.1 (by omega) (by omega) (by decide) ?_
        have g9 : frK [274] [] μ2 (mup μ2 274 s.toNat v) := frK_a (by decide)
        have h9 : hasM (mup μ2 274 s.toNat v) xs ys C (S.set s.toNat v) (kp Z ((xs, ys), C, S)) B := h2.1.z g9 (zR_set h2.1.1 (by omega) h5s (mup_s _ _ _ _) (fun i hi => mup_k hi)) (by decide) (by decide) (by decide) (by decide)
        refine VW.iload_n dX8_set_98 rfl ?_
        refine VW.ireturn dX8_set_99 rfl rfl ?_
        have hq : opSet xs ys C S Z B s v = ((0, rat S s), mk xs ys C (S.set s.toNat v) (kp Z ((xs, ys), C, S)) B) := (if_neg (by omega)).trans ((if_neg (fun w => w c17)).trans (if_neg (fun w => w c67)))
        exact fxP.ii (tP_r hq h9 ((gt.tr (h2.2.wid (by decide) (by decide))).tr (g9.wid (by decide) (by decide))) (by rw [g9.2 5 (by decide), h2.2.2 5 (by decide), mup_s]))
  · rw [bI0d] at c5
    refine VW.iconst dX8_set_8 ?_
    refine VW.goto 25 dX8_set_9 (by decide) ?_
    refine VW.putI dX8_set_25 fp_X8_43 (by have := hm.1; omega) hm.2.1 rfl ?_
    have gt : frK aM bM μ (mup μ 273 5 1) := frK_f.wid (by decide) (by decide)
    have ht : hasM (mup μ 273 5 1) xs ys C S Z B := h.keep (frK_f : frK [] [5] μ _) (by decide) (by decide) (by decide) (by decide) (by decide)
    refine VW.aload_n dX8_set_28 rfl ?_
    refine VW.getI dX8_set_29 fa_X8_43 (by have := hm.1; omega) hm.2.1 rfl ?_
    rw [mup_s]
    refine VW.if_le 37 (by decide) dX8_set_32 (by decide) (fun c32 => absurd c32 (by decide)) (fun _ => ?_)
    refine VW.iconst dX8_set_35 ?_
    refine VW.ireturn dX8_set_36 rfl rfl ?_
    exact fxP.ii (tP_x (if_pos (by omega)) ht gt (by decide) (mup_s _ _ _ _))
theorem t_lastPart0 (hst : l.stackTraces = false) (hm : isM N sh) (hz : zR (μ 274) xs ys C S) (hl : ys.length = xs.length ∧ xs.length ≤ 40) (hbx : bnd xs 0 31) (hby : bnd ys 0 31) : Zi G l N sh M_X8_lastPart [.ref (gB G + 273), vI 0] μ (fun r μ' => r = lastOf xs ∧ μ' = μ) := by
  refine Fx.of hst rfl (by decide +kernel) (Nat.le_of_ble_eq_true rfl) rfl ?_
  have z5 : μ 274 5 = (xs.length : Int) := hz.2.1
  refine VW.aload_n dX8_lastPart_0 rfl ?_
  refine VW.getR dX8_lastPart_1 fa_X8_7 (by have := hm.1; omega) hm.2.1 rfl ?_
  refine VW.iconst dX8_lastPart_4 ?_
  refine VW.iaload dX8_lastPart_5 (by have := hm.1; omega) hm.2.2.1 (by omega) (by omega) (by decide) ?_
  rw [show (5 : Int).toNat = 5 from rfl, z5]
  refine VW.if_ne 13 ⟨by omega, by omega⟩ dX8_lastPart_6 (by decide) (fun c6 => ?_) (fun c6 => ?_)
  · refine VW.aload_n dX8_lastPart_13 rfl ?_
    refine VW.getR dX8_lastPart_14 fa_X8_7 (by have := hm.1; omega) hm.2.1 rfl ?_
    refine VW.bipush dX8_lastPart_17 rfl ?_
    refine VW.iconst dX8_lastPart_19 ?_
    refine VW.aload_n dX8_lastPart_20 rfl ?_
    refine VW.getR dX8_lastPart_21 fa_X8_7 (by have := hm.1; omega) hm.2.1 rfl ?_
    refine VW.iconst dX8_lastPart_24 ?_
    refine VW.iaload dX8_lastPart_25 (by have := hm.1; omega) hm.2.2.1 (by omega) (by omega) (by decide) ?_
    rw [show (5 : Int).toNat = 5 from rfl, z5]
    refine VW.iconst dX8_lastPart_26 ?_
    refine VW.isub dX8_lastPart_27 ?_
    refine VW.imul dX8_lastPart_28 ?_
    refine VW.iadd dX8_lastPart_29 ?_
    refine VW.iload_n dX8_lastPart_30 rfl ?_
    refine VW.iadd dX8_lastPart_31 ?_
    refine VW.iaload dX8_lastPart_32 (by have := hm.1; omega) hm.2.2.1 (by omega) (by omega) (by decide) ?_
    refine VW.ireturn dX8_lastPart_33 rfl rfl ?_
    refine fxP.ii ⟨?_, rfl⟩
    unfold lastOf
    first
    | (rw [if_pos (by omega)]; done)
    | (rw [if_neg (by omega), show (7 + 2 * ((xs.length : Int) - 1) + 0) = 7 + 2 * ((xs.length : Int) - 1) by omega]; exact (hz.2.2.2.1 ((xs.length : Int) - 1) (by omega)).1)
  · refine VW.iconst dX8_lastPart_9 ?_
    refine VW.goto 33 dX8_lastPart_10 (by decide) ?_
    refine VW.ireturn dX8_lastPart_33 rfl rfl ?_
    refine fxP.ii ⟨?_, rfl⟩
    unfold lastOf
    first
    | (rw [if_pos (by omega)]; done)
    | (rw [if_neg (by omega), show (7 + 2 * ((xs.length : Int) - 1) + 0) = 7 + 2 * ((xs.length : Int) - 1) by omega]; exact (hz.2.2.2.1 ((xs.length : Int) - 1) (by omega)).1)
theorem t_lastPart1 (hst : l.stackTraces = false) (hm : isM N sh) (hz : zR (μ 274) xs ys C S) (hl : ys.length = xs.length ∧ xs.length ≤ 40) (hbx : bnd xs 0 31) (hby : bnd ys 0 31) : Zi G l N sh M_X8_lastPart [.ref (gB G + 273), vI 1] μ (fun r μ' => r = lastOf ys ∧ μ' = μ) := by
  refine Fx.of hst rfl (by decide +kernel) (Nat.le_of_ble_eq_true rfl) rfl ?_
  have z5 : μ 274 5 = (xs.length : Int) := hz.2.1
  refine VW.aload_n dX8_lastPart_0 rfl ?_
  refine VW.getR dX8_lastPart_1 fa_X8_7 (by have := hm.1; omega) hm.2.1 rfl ?_
  refine VW.iconst dX8_lastPart_4 ?_
  refine VW.iaload dX8_lastPart_5 (by have := hm.1; omega) hm.2.2.1 (by omega) (by omega) (by decide) ?_
  rw [show (5 : Int).toNat = 5 from rfl, z5]
  refine VW.if_ne 13 ⟨by omega, by omega⟩ dX8_lastPart_6 (by decide) (fun c6 => ?_) (fun c6 => ?_)
  · refine VW.aload_n dX8_lastPart_13 rfl ?_
    refine VW.getR dX8_lastPart_14 fa_X8_7 (by have := hm.1; omega) hm.2.1 rfl ?_
    refine VW.bipush dX8_lastPart_17 rfl ?_
    refine VW.iconst dX8_lastPart_19 ?_
    refine VW.aload_n dX8_lastPart_20 rfl ?_
    refine VW.getR dX8_lastPart_21 fa_X8_7 (by have := hm.1; omega) hm.2.1 rfl ?_
    refine VW.iconst dX8_lastPart_24 ?_
    refine VW.iaload dX8_lastPart_25 (by have := hm.1; omega) hm.2.2.1 (by omega) (by omega) (by decide) ?_
    rw [show (5 : Int).toNat = 5 from rfl, z5]
    refine VW.iconst dX8_lastPart_26 ?_
    refine VW.isub dX8_lastPart_27 ?_
    refine VW.imul dX8_lastPart_28 ?_
    refine VW.iadd dX8_lastPart_29 ?_
    refine VW.iload_n dX8_lastPart_30 rfl ?_
    refine VW.iadd dX8_lastPart_31 ?_
    refine VW.iaload dX8_lastPart_32 (by have := hm.1; omega) hm.2.2.1 (by omega) (by omega) (by decide) ?_
    refine VW.ireturn dX8_lastPart_33 rfl rfl ?_
    refine fxP.ii ⟨?_, rfl⟩
    unfold lastOf
    first
    | (rw [if_pos (by omega)]; done)
    | (rw [if_neg (by omega), show ((ys.length : Int) - 1) = (xs.length : Int) - 1 by omega]; exact (hz.2.2.2.1 ((xs.length : Int) - 1) (by omega)).2)
  · refine VW.iconst dX8_lastPart_9 ?_
    refine VW.goto 33 dX8_lastPart_10 (by decide) ?_
    refine VW.ireturn dX8_lastPart_33 rfl rfl ?_
    refine fxP.ii ⟨?_, rfl⟩
    unfold lastOf
    first
    | (rw [if_pos (by omega)]; done)
    | (rw [if_neg (by omega), show ((ys.length : Int) - 1) = (xs.length : Int) - 1 by omega]; exact (hz.2.2.2.1 ((xs.length : Int) - 1) (by omega)).2)
theorem step_iff {x dx j : Int} (hx : 0 ≤ x ∧ x ≤ 31) (hd : -1 ≤ dx ∧ dx ≤ 1) (hj : 0 ≤ j ∧ j ≤ 31) : (0 ≤ x + dx * j ∧ x + dx * j ≤ 31) ↔ j ≤ stepsW x dx := by
  unfold stepsW
  rcases (by omega : dx = -1 ∨ dx = 0 ∨ dx = 1) with rfl | rfl | rfl
  · rw [if_neg (by decide), if_neg (by decide)]; omega
  · rw [if_pos rfl]; omega
  · rw [if_neg (by decide), if_pos (by decide)]; omega
theorem mulj {a j : Int} (ha : -1 ≤ a ∧ a ≤ 1) (hj : 0 ≤ j ∧ j ≤ 32) : -32 ≤ a * j ∧ a * j ≤ 32 := by
  rcases (by omega : a = -1 ∨ a = 0 ∨ a = 1) with rfl | rfl | rfl <;> omega
variable {d m : Int}
theorem lp_X8_sf (hst : l.stackTraces = false) (hm : isM N sh) (hz : zR (μ 274) xs ys C S) (hl : ys.length = xs.length ∧ xs.length ≤ 40) (hbx : bnd xs 0 31) (hby : bnd ys 0 31) (hd : 0 ≤ d ∧ d < 8) (hmm : 1 ≤ m ∧ m ≤ 31) : ∀ (n : Nat) (i : Int), 0 ≤ i ∧ i ≤ goN xs ys d m → goN xs ys d m - i < n → VW G l none M_X8_stepsFor 2 [(0, .ref (gB G + 273)), (1, vI d), (2, vI m), (3, vI i)] [] (N, sh, μ) 0 0 (fxP N sh (oN (vN_i (fun r μ' => r = goN xs ys d m ∧ μ' = μ)))) := by
  have ed : d % 8 = d := by omega
  have t3 := tbo_b 3 (by decide) d
  have t4 := tbo_b 4 (by decide) d
  have lx := last_b hbx
  have ly := last_b hby
  have bx := stepW_b (dx := tbo 3 d) lx
  have by_ := stepW_b (dx := tbo 4 d) ly
  have hg : goN xs ys d m = min m (min (stepsW (lastOf xs) (tbo 3 d)) (stepsW (lastOf ys) (tbo 4 d))) := rfl
  intro n
  induction n with
  | zero => intro i h1 h2; omega
  | succ n ih =>
    intro i h1 h2
    refine VW.iload_n dX8_stepsFor_2 rfl ?_
    refine VW.iload_n dX8_stepsFor_3 rfl ?_
    refine VW.icmp_ge 47 ⟨by omega, by omega⟩ ⟨by omega, by omega⟩ dX8_stepsFor_4 (by decide) (fun c4 => ?_) (fun c4 => ?_)
    · refine VW.iload_n dX8_stepsFor_47 rfl ?_
      refine VW.ireturn dX8_stepsFor_48 rfl rfl ?_
      refine fxP.ii ⟨?_, rfl⟩
      first
      | omega
      | (have hon : ¬ onLat (lastOf xs + tbo 3 d * (i + 1)) (lastOf ys + tbo 4 d * (i + 1)) = true := bI0.mp c38
         unfold onLat at hon
         rw [decide_eq_true_eq] at hon
         omega)
    · have i3 := step_iff (j := i + 1) lx t3 (by omega)
      have i4 := step_iff (j := i + 1) ly t4 (by omega)
      have m3 := mulj (j := i + 1) t3 (by omega)
      have m4 := mulj (j := i + 1) t4 (by omega)
      refine VW.aload_n dX8_stepsFor_7 rfl ?_
      refine VW.iconst dX8_stepsFor_8 ?_
      refine VW.pV1 cv_X8_stepsFor_X8_lastPart dX8_stepsFor_9 (Nat.le_of_ble_eq_true rfl) (by have := hm.1; omega) hm.2.1 (t_lastPart0 hst hm hz hl hbx hby) ?_
      refine VW.iload_n dX8_stepsFor_12 rfl ?_
      refine VW.pS1 cs_X8_stepsFor_X8_across dX8_stepsFor_13 (Nat.le_of_ble_eq_true rfl) (t_across hst (v := d) (by omega)) ?_
      rw [ed]
      refine VW.iload_n dX8_stepsFor_16 rfl ?_
      refine VW.iconst dX8_stepsFor_17 ?_
      refine VW.iadd dX8_stepsFor_18 ?_
      refine VW.imul dX8_stepsFor_19 ?_
      refine VW.iadd dX8_stepsFor_20 ?_
      refine VW.aload_n dX8_stepsFor_21 rfl ?_
      refine VW.iconst dX8_stepsFor_22 ?_
      refine VW.pV1 cv_X8_stepsFor_X8_lastPart dX8_stepsFor_23 (Nat.le_of_ble_eq_true rfl) (by have := hm.1; omega) hm.2.1 (t_lastPart1 hst hm hz hl hbx hby) ?_
      refine VW.iload_n dX8_stepsFor_26 rfl ?_
      refine VW.pS1 cs_X8_stepsFor_X8_down dX8_stepsFor_27 (Nat.le_of_ble_eq_true rfl) (t_down hst (v := d) (by omega)) ?_
      rw [ed]
      refine VW.iload_n dX8_stepsFor_30 rfl ?_
      refine VW.iconst dX8_stepsFor_31 ?_
      refine VW.iadd dX8_stepsFor_32 ?_
      refine VW.imul dX8_stepsFor_33 ?_
      refine VW.iadd dX8_stepsFor_34 ?_
      refine VW.pS2 cs_X8_stepsFor_X8_isOnLattice dX8_stepsFor_35 (Nat.le_of_ble_eq_true rfl) (t_isOnLattice hst ⟨by omega, by omega⟩ ⟨by omega, by omega⟩) ?_
      refine VW.if_eq 47 (bR2 _) dX8_stepsFor_38 (by decide) (fun c38 => ?_) (fun c38 => ?_)
      · refine VW.iload_n dX8_stepsFor_47 rfl ?_
        refine VW.ireturn dX8_stepsFor_48 rfl rfl ?_
        refine fxP.ii ⟨?_, rfl⟩
        first
        | omega
        | (have hon : ¬ onLat (lastOf xs + tbo 3 d * (i + 1)) (lastOf ys + tbo 4 d * (i + 1)) = true := bI0.mp c38
           unfold onLat at hon
           rw [decide_eq_true_eq] at hon
           omega)
      · refine VW.iinc (lv' := [(0, _), (1, _), (2, _), (3, _)]) dX8_stepsFor_41 rfl (by decide) rfl ?_
        refine VW.goto 2 dX8_stepsFor_44 (by decide) ?_
        have hon := onL (by simpa [bI0] using c38)
        exact ih (i + 1) (by omega) (by omega)
theorem t_stepsFor (hst : l.stackTraces = false) (hm : isM N sh) (hz : zR (μ 274) xs ys C S) (hl : ys.length = xs.length ∧ xs.length ≤ 40) (hbx : bnd xs 0 31) (hby : bnd ys 0 31) (hd : 0 ≤ d ∧ d < 8) (hmm : 1 ≤ m ∧ m ≤ 31) : Zi G l N sh M_X8_stepsFor [.ref (gB G + 273), vI d, vI m] μ (fun r μ' => r = goN xs ys d m ∧ μ' = μ) := by
  refine Fx.of hst rfl (by decide +kernel) (Nat.le_of_ble_eq_true rfl) rfl ?_
  have ed : d % 8 = d := by omega
  have t3 := tbo_b 3 (by decide) d
  have t4 := tbo_b 4 (by decide) d
  have lx := last_b hbx
  have ly := last_b hby
  have bx := stepW_b (dx := tbo 3 d) lx
  have by_ := stepW_b (dx := tbo 4 d) ly
  have hg : goN xs ys d m = min m (min (stepsW (lastOf xs) (tbo 3 d)) (stepsW (lastOf ys) (tbo 4 d))) := rfl
  refine VW.iconst dX8_stepsFor_0 ?_
  refine VW.istore_n (lv' := [(0, _), (1, _), (2, _), (3, _)]) dX8_stepsFor_1 (by decide) rfl ?_
  exact lp_X8_sf hst hm hz hl hbx hby hd hmm 40 0 (by omega) (by omega)
theorem last_goL {L : List Int} {dx : Int} (h : 1 ≤ L.length) (k : Nat) : lastOf (L ++ goL (lastOf L) dx k) = lastOf L + (k : Int) * dx := by
  cases k with
  | zero => simp [goL]
  | succ k =>
    have hl : (L ++ goL (rat L ((L.length : Int) - 1)) dx (k + 1)).length = L.length + k + 1 := by rw [List.length_append, goL_len]; omega
    rw [show lastOf L = rat L ((L.length : Int) - 1) from if_neg (by omega)]
    rw [show lastOf (L ++ goL (rat L ((L.length : Int) - 1)) dx (k + 1)) = rat (L ++ goL (rat L ((L.length : Int) - 1)) dx (k + 1)) (((L ++ goL (rat L ((L.length : Int) - 1)) dx (k + 1)).length : Int) - 1) from if_neg (by omega)]
    rw [hl, goL_s, ← List.append_assoc, show (((L.length + k + 1 : Nat) : Int) - 1) = ((L ++ goL (rat L ((L.length : Int) - 1)) dx k).length : Int) by rw [List.length_append, goL_len]; omega, rat_snoc, if_pos rfl]
    simp
theorem bnd_goL {L : List Int} {dx : Int} {k : Nat} (h : bnd L 0 31) (hd : -1 ≤ dx ∧ dx ≤ 1) (hk : (k : Int) ≤ stepsW (lastOf L) dx) : bnd (L ++ goL (lastOf L) dx k) 0 31 := fun z hz => by
  rcases List.mem_append.mp hz with hz | hz
  · exact h z hz
  · obtain ⟨j, hj, rfl⟩ := List.mem_map.mp hz
    have := List.mem_range.mp hj
    exact stepW_on (last_b h) hd ⟨by omega, by omega⟩
theorem lp_X8_go (hst : l.stackTraces = false) (hm : isM N sh) (hl1 : 1 ≤ xs.length) (hl : ys.length = xs.length) (hbx : bnd xs 0 31) (hby : bnd ys 0 31) (hd : 0 ≤ d ∧ d < 8) {w : Nat} (hX : xs.length + w ≤ 40) (hw1 : (w : Int) ≤ stepsW (lastOf xs) (tbo 3 d)) (hw2 : (w : Int) ≤ stepsW (lastOf ys) (tbo 4 d)) (e : q = ((0, (w : Int)), mk (xs ++ goL (lastOf xs) (tbo 3 d) w) (ys ++ goL (lastOf ys) (tbo 4 d) w) C S Z B)) : ∀ (n : Nat) (k : Nat), k + n = w → ∀ μ2 : Mem, hasM μ2 (xs ++ goL (lastOf xs) (tbo 3 d) k) (ys ++ goL (lastOf ys) (tbo 4 d) k) C S Z B → μ2 273 5 = 0 → frK aM bM μ μ2 → VW G l none M_X8_go 102 [(0, .ref (gB G + 273)), (1, vI d), (3, vI (w : Int)), (4, vI (k : Int))] [] (N, sh, μ2) 0 0 (fxP N sh (oN (vN_i (tP q μ)))) := by
  have t3 := tbo_b 3 (by decide) d
  have t4 := tbo_b 4 (by decide) d
  have ed : d % 8 = d := by omega
  intro n
  induction n with
  | zero =>
    intro k h1 μ2 h2 h5 hf
    refine VW.iload dX8_go_102 rfl ?_
    refine VW.iload_n dX8_go_104 rfl ?_
    refine VW.icmp_ge 138 ⟨by omega, by omega⟩ ⟨by omega, by omega⟩ dX8_go_105 (by decide) (fun c105 => ?_) (fun c105 => by omega)
    refine VW.iload_n dX8_go_138 rfl ?_
    refine VW.ireturn dX8_go_139 rfl rfl ?_
    obtain rfl : k = w := by omega
    exact fxP.ii (tP_r e h2 hf h5)
  | succ n ih =>
    intro k h1 μ2 h2 h5 hf
    refine VW.iload dX8_go_102 rfl ?_
    refine VW.iload_n dX8_go_104 rfl ?_
    refine VW.icmp_ge 138 ⟨by omega, by omega⟩ ⟨by omega, by omega⟩ dX8_go_105 (by decide) (fun c105 => by omega) (fun c105 => ?_)
    refine VW.aload_n dX8_go_108 rfl ?_
    refine VW.aload_n dX8_go_109 rfl ?_
    refine VW.iconst dX8_go_110 ?_
    refine VW.pV1 cv_X8_go_X8_lastPart dX8_go_111 (Nat.le_of_ble_eq_true rfl) (by have := hm.1; omega) hm.2.1 (t_lastPart0 hst hm h2.1 ⟨(by rw [List.length_append, List.length_append, goL_len, goL_len]; omega), by rw [List.length_append, goL_len]; omega⟩ (bnd_goL hbx t3 (by omega)) (bnd_goL hby t4 (by omega))) ?_
    rw [last_goL hl1]
    refine VW.iload_n dX8_go_114 rfl ?_
    refine VW.pS1 cs_X8_go_X8_across dX8_go_115 (Nat.le_of_ble_eq_true rfl) (t_across hst (v := d) (by omega)) ?_
    rw [ed]
    refine VW.iadd dX8_go_118 ?_
    refine VW.aload_n dX8_go_119 rfl ?_
    refine VW.iconst dX8_go_120 ?_
    refine VW.pV1 cv_X8_go_X8_lastPart dX8_go_121 (Nat.le_of_ble_eq_true rfl) (by have := hm.1; omega) hm.2.1 (t_lastPart1 hst hm h2.1 ⟨(by rw [List.length_append, List.length_append, goL_len, goL_len]; omega), by rw [List.length_append, goL_len]; omega⟩ (bnd_goL hbx t3 (by omega)) (bnd_goL hby t4 (by omega))) ?_
    rw [last_goL (by omega)]
    refine VW.iload_n dX8_go_124 rfl ?_
    refine VW.pS1 cs_X8_go_X8_down dX8_go_125 (Nat.le_of_ble_eq_true rfl) (t_down hst (v := d) (by omega)) ?_
    rw [ed]
    refine VW.iadd dX8_go_128 ?_
    refine VW.fvV2 cv_X8_go_X8_addPoint dX8_go_129 (Nat.le_of_ble_eq_true rfl) (by have := hm.1; omega) hm.2.1 (t_addPoint hst hm h2.1 ⟨(by rw [List.length_append, List.length_append, goL_len, goL_len]; omega), by rw [List.length_append, goL_len]; omega⟩ (x := lastOf xs + (k : Int) * tbo 3 d + tbo 3 d) (y := lastOf ys + (k : Int) * tbo 4 d + tbo 4 d)) (fun μ3 h3 => ?_)
    refine VW.iinc (lv' := [(0, _), (1, _), (3, _), (4, _)]) dX8_go_132 rfl (by decide) rfl ?_
    refine VW.goto 102 dX8_go_135 (by decide) ?_
    have q1 : lastOf xs + (k : Int) * tbo 3 d + tbo 3 d = lastOf xs + ((k : Int) + 1) * tbo 3 d := by rw [Int.add_mul]; omega
    have q2 : lastOf ys + (k : Int) * tbo 4 d + tbo 4 d = lastOf ys + ((k : Int) + 1) * tbo 4 d := by rw [Int.add_mul]; omega
    have h3z := h3.1
    rw [List.append_assoc, List.append_assoc, q1, q2, ← goL_s, ← goL_s] at h3z
    rw [show (k : Int) + 1 = ((k + 1 : Nat) : Int) by omega]
    exact ih (k + 1) (by omega) μ3 (h2.z h3.2 h3z (by decide) (by decide) (by decide) (by decide)) ((h3.2.2 5 (by decide)).trans h5) (hf.tr (h3.2.wid (by decide) (by decide)))
theorem t_go (hst : l.stackTraces = false) (hm : isM N sh) (h : hasM μ xs ys C S Z B) (ok : okA (mk xs ys C S Z B)) (hd : R32 d) (hmm : R32 m) : Zi G l N sh M_X8_go [.ref (gB G + 273), vI d, vI m] μ (tP (opGo xs ys C S Z B d m) μ) := by
  refine Fx.of hst rfl (by decide +kernel) (Nat.le_of_ble_eq_true rfl) rfl ?_
  obtain ⟨⟨⟨ok1, ok2, ok3, ok4⟩, ⟨ok5, ok6, ok7⟩, ok8⟩, ⟨ok9, ok10⟩, ok11, ok12⟩ := okA.un ok
  have okσ : okS ((xs, ys), C, S) := ok.1
  obtain ⟨hz, hn, hh, hb, hB⟩ := id h
  have z5 : μ 274 5 = (xs.length : Int) := hz.2.1
  have z6 : μ 274 6 = (C.length : Int) := hz.2.2.1
  refine VW.aload_n dX8_go_0 rfl ?_
  refine VW.iload_n dX8_go_1 rfl ?_
  refine VW.pS1 cs_X8_go_X8_isDirection dX8_go_2 (Nat.le_of_ble_eq_true rfl) (t_isDirection hst hd) ?_
  refine VW.if_eq 22 (bR2 _) dX8_go_5 (by decide) (fun c5 => ?_) (fun c5 => ?_)
  · first | (rw [bI0d] at c15) | (rw [bI0d] at c5)
    refine VW.iconst dX8_go_22 ?_
    refine VW.putI dX8_go_23 fp_X8_43 (by have := hm.1; omega) hm.2.1 rfl ?_
    have gt : frK aM bM μ (mup μ 273 5 1) := frK_f.wid (by decide) (by decide)
    have ht : hasM (mup μ 273 5 1) xs ys C S Z B := h.keep (frK_f : frK [] [5] μ _) (by decide) (by decide) (by decide) (by decide) (by decide)
    refine VW.aload_n dX8_go_26 rfl ?_
    refine VW.getI dX8_go_27 fa_X8_43 (by have := hm.1; omega) hm.2.1 rfl ?_
    rw [mup_s]
    refine VW.if_ne 64 (by decide) dX8_go_30 (by decide) (fun _ => ?_) (fun c30 => absurd c30 (by decide))
    skip
    refine VW.aload_n dX8_go_64 rfl ?_
    refine VW.getI dX8_go_65 fa_X8_43 (by have := hm.1; omega) hm.2.1 rfl ?_
    rw [mup_s]
    refine VW.if_le 73 (by decide) dX8_go_68 (by decide) (fun c68 => absurd c68 (by decide)) (fun _ => ?_)
    refine VW.iconst dX8_go_71 ?_
    refine VW.ireturn dX8_go_72 rfl rfl ?_
    exact fxP.ii (tP_x (if_pos (by omega)) ht gt (by decide) (mup_s _ _ _ _))
  · rw [bI0d] at c5
    have c5 := Classical.not_not.mp c5
    refine VW.iload_n dX8_go_8 rfl ?_
    refine VW.iconst dX8_go_9 ?_
    refine VW.bipush dX8_go_10 rfl ?_
    refine VW.pS3 cs_X8_go_X8_within dX8_go_12 (Nat.le_of_ble_eq_true rfl) (t_within hst hmm ⟨by omega, by omega⟩ ⟨by omega, by omega⟩) ?_
    refine VW.if_eq 22 (bR2 _) dX8_go_15 (by decide) (fun c15 => ?_) (fun c15 => ?_)
    · first | (rw [bI0d] at c15) | (rw [bI0d] at c5)
      refine VW.iconst dX8_go_22 ?_
      refine VW.putI dX8_go_23 fp_X8_43 (by have := hm.1; omega) hm.2.1 rfl ?_
      have gt : frK aM bM μ (mup μ 273 5 1) := frK_f.wid (by decide) (by decide)
      have ht : hasM (mup μ 273 5 1) xs ys C S Z B := h.keep (frK_f : frK [] [5] μ _) (by decide) (by decide) (by decide) (by decide) (by decide)
      refine VW.aload_n dX8_go_26 rfl ?_
      refine VW.getI dX8_go_27 fa_X8_43 (by have := hm.1; omega) hm.2.1 rfl ?_
      rw [mup_s]
      refine VW.if_ne 64 (by decide) dX8_go_30 (by decide) (fun _ => ?_) (fun c30 => absurd c30 (by decide))
      skip
      refine VW.aload_n dX8_go_64 rfl ?_
      refine VW.getI dX8_go_65 fa_X8_43 (by have := hm.1; omega) hm.2.1 rfl ?_
      rw [mup_s]
      refine VW.if_le 73 (by decide) dX8_go_68 (by decide) (fun c68 => absurd c68 (by decide)) (fun _ => ?_)
      refine VW.iconst dX8_go_71 ?_
      refine VW.ireturn dX8_go_72 rfl rfl ?_
      exact fxP.ii (tP_x (if_pos (by omega)) ht gt (by decide) (mup_s _ _ _ _))
    · rw [bI0d] at c15
      have c15 := Classical.not_not.mp c15
      refine VW.iconst dX8_go_18 ?_
      refine VW.goto 23 dX8_go_19 (by decide) ?_
      refine VW.putI dX8_go_23 fp_X8_43 (by have := hm.1; omega) hm.2.1 rfl ?_
      have gt : frK aM bM μ (mup μ 273 5 0) := frK_f.wid (by decide) (by decide)
      have ht : hasM (mup μ 273 5 0) xs ys C S Z B := h.keep (frK_f : frK [] [5] μ _) (by decide) (by decide) (by decide) (by decide) (by decide)
      refine VW.aload_n dX8_go_26 rfl ?_
      refine VW.getI dX8_go_27 fa_X8_43 (by have := hm.1; omega) hm.2.1 rfl ?_
      rw [mup_s]
      refine VW.if_ne 64 (by decide) dX8_go_30 (by decide) (fun c30 => absurd c30 (by decide)) (fun _ => ?_)
      refine VW.aload_n dX8_go_33 rfl ?_
      refine VW.aload_n dX8_go_34 rfl ?_
      refine VW.getR dX8_go_35 fa_X8_7 (by have := hm.1; omega) hm.2.1 rfl ?_
      refine VW.iconst dX8_go_38 ?_
      refine VW.iaload dX8_go_39 (by have := hm.1; omega) hm.2.2.1 (by omega) (by omega) (by decide) ?_
      have lx := last_b ok3
      have ly := last_b ok4
      have bx := stepW_b (dx := tbo 3 d) lx
      have by_ := stepW_b (dx := tbo 4 d) ly
      have hg : goN xs ys d m = min m (min (stepsW (lastOf xs) (tbo 3 d)) (stepsW (lastOf ys) (tbo 4 d))) := rfl
      rw [show (5 : Int).toNat = 5 from rfl, show (mup μ 273 5 0) 274 5 = (xs.length : Int) from z5]
      have hgb : ((goB xs).length : Int) = max (xs.length : Int) 1 := by
        unfold goB
        split
        · simp; omega
        · omega
      refine VW.iconst dX8_go_40 ?_
      refine VW.pS2 cs_X8_go_X8_greater dX8_go_41 (Nat.le_of_ble_eq_true rfl) (t_greater hst ⟨by omega, by omega⟩ ⟨by omega, by omega⟩) ?_
      refine VW.aload_n dX8_go_44 rfl ?_
      refine VW.iload_n dX8_go_45 rfl ?_
      refine VW.iload_n dX8_go_46 rfl ?_
      refine VW.pV2 cv_X8_go_X8_stepsFor dX8_go_47 (Nat.le_of_ble_eq_true rfl) (by have := hm.1; omega) hm.2.1 (t_stepsFor hst hm ht.1 ⟨ok1, ok2⟩ ok3 ok4 (d := d) (m := m) (by omega) (by omega)) ?_
      refine VW.iadd dX8_go_50 ?_
      refine VW.bipush dX8_go_51 rfl ?_
      refine VW.icmp_le 60 ⟨by omega, by omega⟩ ⟨by omega, by omega⟩ dX8_go_53 (by decide) (fun c53 => ?_) (fun c53 => ?_)
      · refine VW.iconst dX8_go_60 ?_
        refine VW.putI dX8_go_61 fp_X8_43 (by have := hm.1; omega) hm.2.1 rfl ?_
        have gt0 := gt
        have gt : frK aM bM μ (mup (mup μ 273 5 0) 273 5 0) := gt0.tr (frK_f.wid (by decide) (by decide))
        have ht : hasM (mup (mup μ 273 5 0) 273 5 0) xs ys C S Z B := ht.keep (frK_f : frK [] [5] _ _) (by decide) (by decide) (by decide) (by decide) (by decide)
        refine VW.aload_n dX8_go_64 rfl ?_
        refine VW.getI dX8_go_65 fa_X8_43 (by have := hm.1; omega) hm.2.1 rfl ?_
        rw [mup_s]
        refine VW.if_le 73 (by decide) dX8_go_68 (by decide) (fun _ => ?_) (fun c68 => absurd c68 (by decide))
        refine VW.aload_n dX8_go_73 rfl ?_
        refine VW.fvV0 cv_X8_go_X8_save dX8_go_74 (Nat.le_of_ble_eq_true rfl) (by have := hm.1; omega) hm.2.1 (t_save hst hm ht okσ ok10 ok9) (fun μ2 h2 => ?_)
        refine VW.aload_n dX8_go_77 rfl ?_
        refine VW.iload_n dX8_go_78 rfl ?_
        refine VW.iload_n dX8_go_79 rfl ?_
        refine VW.pV2 cv_X8_go_X8_stepsFor dX8_go_80 (Nat.le_of_ble_eq_true rfl) (by have := hm.1; omega) hm.2.1 (t_stepsFor hst hm h2.1.1 ⟨ok1, ok2⟩ ok3 ok4 (d := d) (m := m) (by omega) (by omega)) ?_
        refine VW.istore_n (lv' := [(0, _), (1, _), (2, _), (3, _)]) dX8_go_83 (by decide) rfl ?_
        refine VW.aload_n dX8_go_84 rfl ?_
        refine VW.getR dX8_go_85 fa_X8_7 (by have := hm.1; omega) hm.2.1 rfl ?_
        refine VW.iconst dX8_go_88 ?_
        refine VW.iaload dX8_go_89 (by have := hm.1; omega) hm.2.2.1 (by omega) (by omega) (by decide) ?_
        rw [show (5 : Int).toNat = 5 from rfl, show μ2 274 5 = (xs.length : Int) from h2.1.1.2.1]
        refine VW.if_ne 99 ⟨by omega, by omega⟩ dX8_go_90 (by decide) (fun c90 => ?_) (fun c90 => ?_)
        · refine VW.iconst dX8_go_99 ?_
          refine VW.istore (lv' := [(0, _), (1, _), (2, _), (3, _), (4, _)]) dX8_go_100 (by decide) rfl ?_
          refine VW.sub ?_ [0, 1, 3, 4] rfl
          obtain ⟨w, hw⟩ : ∃ w : Nat, goN xs ys d m = (w : Int) := ⟨(goN xs ys d m).toNat, by omega⟩
          have hq : opGo xs ys C S Z B d m = ((0, (w : Int)), mk2 (goB xs ++ goL (lastOf xs) (tbo 3 d) w) (goB ys ++ goL (lastOf ys) (tbo 4 d) w) C S xs ys C S Z B) := by
            refine (if_neg (by omega)).trans ((if_neg (by omega)).trans ?_)
            rw [hw]
            rfl
          rw [hw]
          have h25 : μ2 273 5 = 0 := by rw [h2.2.2 5 (by decide), mup_s]
          first
          | (have e0 : xs.length = 0 := by omega
             obtain rfl : xs = [] := List.eq_nil_of_length_eq_zero e0
             obtain rfl : ys = [] := List.eq_nil_of_length_eq_zero (by omega)
             have h31 : zR (μ3 274) [0] [0] C S := h3.1
             refine lp_X8_go (xs := [0]) (ys := [0]) hst hm (by decide) rfl (fun z hz => by rw [List.mem_singleton.mp hz]; decide) (fun z hz => by rw [List.mem_singleton.mp hz]; decide) (by omega) (w := w) (by simp at hgb ⊢; omega) (by show (w : Int) ≤ stepsW (lastOf []) _; omega) (by show (w : Int) ≤ stepsW (lastOf []) _; omega) hq w 0 (by omega) μ3 ?_ ((h3.2.2 5 (by decide)).trans h25) ((gt.tr (h2.2.wid (by decide) (by decide))).tr (h3.2.wid (by decide) (by decide)))
             exact h2.1.z h3.2 (by simpa [goL] using h31) (by decide) (by decide) (by decide) (by decide))
          | (have eb : goB xs = xs ∧ goB ys = ys := ⟨if_neg (by omega), if_neg (by omega)⟩
             rw [eb.1, eb.2] at hq
             rw [eb.1] at hgb
             refine lp_X8_go hst hm (by omega) ok1 ok3 ok4 (by omega) (w := w) (by omega) (by omega) (by omega) hq w 0 (by omega) μ2 ?_ h25 (gt.tr (h2.2.wid (by decide) (by decide)))
             simpa [goL] using h2.1)
        · refine VW.aload_n dX8_go_93 rfl ?_
          refine VW.iconst dX8_go_94 ?_
          refine VW.iconst dX8_go_95 ?_
          refine VW.fvV2 cv_X8_go_X8_addPoint dX8_go_96 (Nat.le_of_ble_eq_true rfl) (by have := hm.1; omega) hm.2.1 (t_addPoint hst hm h2.1.1 ⟨ok1, by omega⟩ (x := 0) (y := 0)) (fun μ3 h3 => ?_)
          refine VW.iconst dX8_go_99 ?_
          refine VW.istore (lv' := [(0, _), (1, _), (2, _), (3, _), (4, _)]) dX8_go_100 (by decide) rfl ?_
          refine VW.sub ?_ [0, 1, 3, 4] rfl
          obtain ⟨w, hw⟩ : ∃ w : Nat, goN xs ys d m = (w : Int) := ⟨(goN xs ys d m).toNat, by omega⟩
          have hq : opGo xs ys C S Z B d m = ((0, (w : Int)), mk2 (goB xs ++ goL (lastOf xs) (tbo 3 d) w) (goB ys ++ goL (lastOf ys) (tbo 4 d) w) C S xs ys C S Z B) := by
            refine (if_neg (by omega)).trans ((if_neg (by omega)).trans ?_)
            rw [hw]
            rfl
          rw [hw]
          have h25 : μ2 273 5 = 0 := by rw [h2.2.2 5 (by decide), mup_s]
          first
          | (have e0 : xs.length = 0 := by omega
             obtain rfl : xs = [] := List.eq_nil_of_length_eq_zero e0
             obtain rfl : ys = [] := List.eq_nil_of_length_eq_zero (by omega)
             have h31 : zR (μ3 274) [0] [0] C S := h3.1
             refine lp_X8_go (xs := [0]) (ys := [0]) hst hm (by decide) rfl (fun z hz => by rw [List.mem_singleton.mp hz]; decide) (fun z hz => by rw [List.mem_singleton.mp hz]; decide) (by omega) (w := w) (by simp at hgb ⊢; omega) (by show (w : Int) ≤ stepsW (lastOf []) _; omega) (by show (w : Int) ≤ stepsW (lastOf []) _; omega) hq w 0 (by omega) μ3 ?_ ((h3.2.2 5 (by decide)).trans h25) ((gt.tr (h2.2.wid (by decide) (by decide))).tr (h3.2.wid (by decide) (by decide)))
             exact h2.1.z h3.2 (by simpa [goL] using h31) (by decide) (by decide) (by decide) (by decide))
          | (have eb : goB xs = xs ∧ goB ys = ys := ⟨if_neg (by omega), if_neg (by omega)⟩
             rw [eb.1, eb.2] at hq
             rw [eb.1] at hgb
             refine lp_X8_go hst hm (by omega) ok1 ok3 ok4 (by omega) (w := w) (by omega) (by omega) (by omega) hq w 0 (by omega) μ2 ?_ h25 (gt.tr (h2.2.wid (by decide) (by decide)))
             simpa [goL] using h2.1)
      · refine VW.iconst dX8_go_56 ?_
        refine VW.goto 61 dX8_go_57 (by decide) ?_
        refine VW.putI dX8_go_61 fp_X8_43 (by have := hm.1; omega) hm.2.1 rfl ?_
        have gt0 := gt
        have gt : frK aM bM μ (mup (mup μ 273 5 0) 273 5 2) := gt0.tr (frK_f.wid (by decide) (by decide))
        have ht : hasM (mup (mup μ 273 5 0) 273 5 2) xs ys C S Z B := ht.keep (frK_f : frK [] [5] _ _) (by decide) (by decide) (by decide) (by decide) (by decide)
        refine VW.aload_n dX8_go_64 rfl ?_
        refine VW.getI dX8_go_65 fa_X8_43 (by have := hm.1; omega) hm.2.1 rfl ?_
        rw [mup_s]
        refine VW.if_le 73 (by decide) dX8_go_68 (by decide) (fun c68 => absurd c68 (by decide)) (fun _ => ?_)
        refine VW.iconst dX8_go_71 ?_
        refine VW.ireturn dX8_go_72 rfl rfl ?_
        exact fxP.ii (tP_x ((if_neg (by omega)).trans (if_pos (by omega))) ht gt (by decide) (mup_s _ _ _ _))
end PU
