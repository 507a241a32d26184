/-! ===== the model's constructor; kinds ===== -/
section PMD
variable {G : GT} {l : Launch} {N : Nat} {sh : Nat → ShT} {μ μ' : Mem} {xs ys S D Ln : List Int} {C : List (List Int)} {v lo hi : Int}
variable {Z : List St} {B : List Int} {sh' : Nat → ShT}
theorem stepA {p q : Nat} {X0 X : ShT} {shA shD : Nat → ShT} {μA μD : Mem} (hpq : p < q) (hD : shD = fup (fup shA q X0) p X) (mD : μD = fup μA q (fun _ => 0)) : (∀ i, i < q → i ≠ p → shD i = shA i) ∧ (∀ i, i < q → μD i = μA i) ∧ shD p = X ∧ shD q = X0 ∧ μD q = fun _ => 0 := by
  subst hD
  subst mD
  refine ⟨fun i h1 h2 => ?_, fun i h1 => ?_, fup_s _ _ _, ?_, fup_s _ _ _⟩
  · rw [fup_n h2, fup_n (by omega)]
  · rw [fup_n (by omega)]
  · rw [fup_n (by omega), fup_s]
theorem i_model (hst : l.stackTraces = false) (hs : sh 273 = sO 8 [fN, fI, fN, fI, fN, fI, fN, fN, fI, fN, fN, fI, fN, fI, fN, fN, fN, fL]) (hmz : ∀ k, μ 273 k = 0) : Kx G l M_X8_init [.ref (gB G + 273)] 274 sh μ 11 1590 (fun sh' μ' => low 273 sh sh' μ μ' ∧ isM 285 sh' ∧ hasM μ' [] [] [] S0 [] []) := by
  refine Kx.of hst rfl (by decide +kernel) (Nat.le_of_ble_eq_true rfl) rfl ?_
  refine VW.aload_n dX8_init_0 rfl ?_
  refine VW.objInit dX8_init_1 wd_878 wd_96 wd_97 (by decide) (by decide) ?_
  refine VW.aload_n dX8_init_4 rfl ?_
  refine VW.sipush dX8_init_5 rfl ?_
  refine VW.newI (n0 := 274) dX8_init_8 wd_123 rfl (by omega) ⟨by omega, by omega⟩ ?_
  refine VW.putR dX8_init_10 rfl ff_X8_7 (fun _ => ⟨rfl, rfl⟩) (by omega) ((fup_n (by omega)).trans hs) (by simp) ?_
  refine VW.nmd (N' := 275) (k' := 1) (n' := 177) (by omega) (by omega) (by omega) (fun shD1 μD1 hD1 mD1 => ?_)
  have S1 := stepA (by omega) hD1 mD1
  refine VW.aload_n dX8_init_13 rfl ?_
  refine VW.sipush dX8_init_14 rfl ?_
  refine VW.newI (n0 := 274) dX8_init_17 wd_123 rfl (by omega) ⟨by omega, by omega⟩ ?_
  refine VW.putR dX8_init_19 rfl ff_X8_13 (fun _ => ⟨rfl, rfl⟩) (by omega) ((fup_n (by omega)).trans S1.2.2.1) (by simp) ?_
  refine VW.nmd (N' := 276) (k' := 2) (n' := 1239) (by omega) (by omega) (by omega) (fun shD2 μD2 hD2 mD2 => ?_)
  have S2 := stepA (by omega) hD2 mD2
  refine VW.aload_n dX8_init_22 rfl ?_
  refine VW.bipush dX8_init_23 rfl ?_
  refine VW.newI (n0 := 274) dX8_init_25 wd_123 rfl (by omega) ⟨by omega, by omega⟩ ?_
  refine VW.putR dX8_init_27 rfl ff_X8_16 (fun _ => ⟨rfl, rfl⟩) (by omega) ((fup_n (by omega)).trans S2.2.2.1) (by simp) ?_
  refine VW.nmd (N' := 277) (k' := 3) (n' := 1299) (by omega) (by omega) (by omega) (fun shD3 μD3 hD3 mD3 => ?_)
  have S3 := stepA (by omega) hD3 mD3
  refine VW.aload_n dX8_init_30 rfl ?_
  refine VW.bipush dX8_init_31 rfl ?_
  refine VW.newI (n0 := 274) dX8_init_33 wd_123 rfl (by omega) ⟨by omega, by omega⟩ ?_
  refine VW.putR dX8_init_35 rfl ff_X8_19 (fun _ => ⟨rfl, rfl⟩) (by omega) ((fup_n (by omega)).trans S3.2.2.1) (by simp) ?_
  refine VW.nmd (N' := 278) (k' := 4) (n' := 1340) (by omega) (by omega) (by omega) (fun shD4 μD4 hD4 mD4 => ?_)
  have S4 := stepA (by omega) hD4 mD4
  refine VW.aload_n dX8_init_38 rfl ?_
  refine VW.bipush dX8_init_39 rfl ?_
  refine VW.newI (n0 := 274) dX8_init_41 wd_123 rfl (by omega) ⟨by omega, by omega⟩ ?_
  refine VW.putR dX8_init_43 rfl ff_X8_22 (fun _ => ⟨rfl, rfl⟩) (by omega) ((fup_n (by omega)).trans S4.2.2.1) (by simp) ?_
  refine VW.nmd (N' := 279) (k' := 5) (n' := 1381) (by omega) (by omega) (by omega) (fun shD5 μD5 hD5 mD5 => ?_)
  have S5 := stepA (by omega) hD5 mD5
  refine VW.aload_n dX8_init_46 rfl ?_
  refine VW.bipush dX8_init_47 rfl ?_
  refine VW.newI (n0 := 274) dX8_init_49 wd_123 rfl (by omega) ⟨by omega, by omega⟩ ?_
  refine VW.putR dX8_init_51 rfl ff_X8_25 (fun _ => ⟨rfl, rfl⟩) (by omega) ((fup_n (by omega)).trans S5.2.2.1) (by simp) ?_
  refine VW.nmd (N' := 280) (k' := 6) (n' := 1421) (by omega) (by omega) (by omega) (fun shD6 μD6 hD6 mD6 => ?_)
  have S6 := stepA (by omega) hD6 mD6
  refine VW.aload_n dX8_init_54 rfl ?_
  refine VW.bipush dX8_init_55 rfl ?_
  refine VW.newI (n0 := 274) dX8_init_57 wd_123 rfl (by omega) ⟨by omega, by omega⟩ ?_
  refine VW.putR dX8_init_59 rfl ff_X8_28 (fun _ => ⟨rfl, rfl⟩) (by omega) ((fup_n (by omega)).trans S6.2.2.1) (by simp) ?_
  refine VW.nmd (N' := 281) (k' := 7) (n' := 1461) (by omega) (by omega) (by omega) (fun shD7 μD7 hD7 mD7 => ?_)
  have S7 := stepA (by omega) hD7 mD7
  refine VW.aload_n dX8_init_62 rfl ?_
  refine VW.bipush dX8_init_63 rfl ?_
  refine VW.newI (n0 := 274) dX8_init_65 wd_123 rfl (by omega) ⟨by omega, by omega⟩ ?_
  refine VW.putR dX8_init_67 rfl ff_X8_31 (fun _ => ⟨rfl, rfl⟩) (by omega) ((fup_n (by omega)).trans S7.2.2.1) (by simp) ?_
  refine VW.nmd (N' := 282) (k' := 8) (n' := 1501) (by omega) (by omega) (by omega) (fun shD8 μD8 hD8 mD8 => ?_)
  have S8 := stepA (by omega) hD8 mD8
  refine VW.aload_n dX8_init_70 rfl ?_
  refine VW.bipush dX8_init_71 rfl ?_
  refine VW.newI (n0 := 274) dX8_init_73 wd_123 rfl (by omega) ⟨by omega, by omega⟩ ?_
  refine VW.putR dX8_init_75 rfl ff_X8_34 (fun _ => ⟨rfl, rfl⟩) (by omega) ((fup_n (by omega)).trans S8.2.2.1) (by simp) ?_
  refine VW.nmd (N' := 283) (k' := 9) (n' := 1510) (by omega) (by omega) (by omega) (fun shD9 μD9 hD9 mD9 => ?_)
  have S9 := stepA (by omega) hD9 mD9
  refine VW.aload_n dX8_init_78 rfl ?_
  refine VW.bipush dX8_init_79 rfl ?_
  refine VW.newI (n0 := 274) dX8_init_81 wd_123 rfl (by omega) ⟨by omega, by omega⟩ ?_
  refine VW.putR dX8_init_83 rfl ff_X8_37 (fun _ => ⟨rfl, rfl⟩) (by omega) ((fup_n (by omega)).trans S9.2.2.1) (by simp) ?_
  refine VW.nmd (N' := 284) (k' := 10) (n' := 1550) (by omega) (by omega) (by omega) (fun shD10 μD10 hD10 mD10 => ?_)
  have S10 := stepA (by omega) hD10 mD10
  refine VW.aload_n dX8_init_86 rfl ?_
  refine VW.bipush dX8_init_87 rfl ?_
  refine VW.newI (n0 := 274) dX8_init_89 wd_123 rfl (by omega) ⟨by omega, by omega⟩ ?_
  refine VW.putR dX8_init_91 rfl ff_X8_40 (fun _ => ⟨rfl, rfl⟩) (by omega) ((fup_n (by omega)).trans S10.2.2.1) (by simp) ?_
  refine VW.nmd (N' := 285) (k' := 11) (n' := 1590) (by omega) (by omega) (by omega) (fun shD11 μD11 hD11 mD11 => ?_)
  have S11 := stepA (by omega) hD11 mD11
  have hM : isM 285 shD11 := ⟨by omega, S11.2.2.1, ((S11.1 274 (by omega) (by omega)).trans ((S10.1 274 (by omega) (by omega)).trans ((S9.1 274 (by omega) (by omega)).trans ((S8.1 274 (by omega) (by omega)).trans ((S7.1 274 (by omega) (by omega)).trans ((S6.1 274 (by omega) (by omega)).trans ((S5.1 274 (by omega) (by omega)).trans ((S4.1 274 (by omega) (by omega)).trans ((S3.1 274 (by omega) (by omega)).trans ((S2.1 274 (by omega) (by omega)))))))))))).trans S1.2.2.2.1, ((S11.1 275 (by omega) (by omega)).trans ((S10.1 275 (by omega) (by omega)).trans ((S9.1 275 (by omega) (by omega)).trans ((S8.1 275 (by omega) (by omega)).trans ((S7.1 275 (by omega) (by omega)).trans ((S6.1 275 (by omega) (by omega)).trans ((S5.1 275 (by omega) (by omega)).trans ((S4.1 275 (by omega) (by omega)).trans ((S3.1 275 (by omega) (by omega))))))))))).trans S2.2.2.2.1, ((S11.1 276 (by omega) (by omega)).trans ((S10.1 276 (by omega) (by omega)).trans ((S9.1 276 (by omega) (by omega)).trans ((S8.1 276 (by omega) (by omega)).trans ((S7.1 276 (by omega) (by omega)).trans ((S6.1 276 (by omega) (by omega)).trans ((S5.1 276 (by omega) (by omega)).trans ((S4.1 276 (by omega) (by omega)))))))))).trans S3.2.2.2.1, ((S11.1 277 (by omega) (by omega)).trans ((S10.1 277 (by omega) (by omega)).trans ((S9.1 277 (by omega) (by omega)).trans ((S8.1 277 (by omega) (by omega)).trans ((S7.1 277 (by omega) (by omega)).trans ((S6.1 277 (by omega) (by omega)).trans ((S5.1 277 (by omega) (by omega))))))))).trans S4.2.2.2.1, ((S11.1 278 (by omega) (by omega)).trans ((S10.1 278 (by omega) (by omega)).trans ((S9.1 278 (by omega) (by omega)).trans ((S8.1 278 (by omega) (by omega)).trans ((S7.1 278 (by omega) (by omega)).trans ((S6.1 278 (by omega) (by omega)))))))).trans S5.2.2.2.1, ((S11.1 279 (by omega) (by omega)).trans ((S10.1 279 (by omega) (by omega)).trans ((S9.1 279 (by omega) (by omega)).trans ((S8.1 279 (by omega) (by omega)).trans ((S7.1 279 (by omega) (by omega))))))).trans S6.2.2.2.1, ((S11.1 280 (by omega) (by omega)).trans ((S10.1 280 (by omega) (by omega)).trans ((S9.1 280 (by omega) (by omega)).trans ((S8.1 280 (by omega) (by omega)))))).trans S7.2.2.2.1, ((S11.1 281 (by omega) (by omega)).trans ((S10.1 281 (by omega) (by omega)).trans ((S9.1 281 (by omega) (by omega))))).trans S8.2.2.2.1, ((S11.1 282 (by omega) (by omega)).trans ((S10.1 282 (by omega) (by omega)))).trans S9.2.2.2.1, ((S11.1 283 (by omega) (by omega))).trans S10.2.2.2.1, S11.2.2.2.1⟩
  have e4 : μD11 274 = fun _ => 0 := ((S11.2.1 274 (by omega)).trans ((S10.2.1 274 (by omega)).trans ((S9.2.1 274 (by omega)).trans ((S8.2.1 274 (by omega)).trans ((S7.2.1 274 (by omega)).trans ((S6.2.1 274 (by omega)).trans ((S5.2.1 274 (by omega)).trans ((S4.2.1 274 (by omega)).trans ((S3.2.1 274 (by omega)).trans ((S2.2.1 274 (by omega)))))))))))).trans S1.2.2.2.2
  have e3 : ∀ k, μD11 273 k = 0 := fun k => (congrFun ((S11.2.1 273 (by omega)).trans ((S10.2.1 273 (by omega)).trans ((S9.2.1 273 (by omega)).trans ((S8.2.1 273 (by omega)).trans ((S7.2.1 273 (by omega)).trans ((S6.2.1 273 (by omega)).trans ((S5.2.1 273 (by omega)).trans ((S4.2.1 273 (by omega)).trans ((S3.2.1 273 (by omega)).trans ((S2.2.1 273 (by omega)).trans ((S1.2.1 273 (by omega))))))))))))) k).trans (hmz k)
  refine VW.aload_n dX8_init_94 rfl ?_
  refine VW.getR dX8_init_95 fa_X8_7 (by omega) hM.2.1 rfl ?_
  refine VW.iconst dX8_init_98 ?_
  refine VW.iconst dX8_init_99 ?_
  refine VW.iastore dX8_init_100 (by omega) hM.2.2.1 (by omega) (by omega) (by decide) ?_
  refine VW.aload_n dX8_init_101 rfl ?_
  refine VW.getR dX8_init_102 fa_X8_7 (by omega) hM.2.1 rfl ?_
  refine VW.iconst dX8_init_105 ?_
  refine VW.iconst dX8_init_106 ?_
  refine VW.iastore dX8_init_107 (by omega) hM.2.2.1 (by omega) (by omega) (by decide) ?_
  refine VW.aload_n dX8_init_108 rfl ?_
  refine VW.getR dX8_init_109 fa_X8_7 (by omega) hM.2.1 rfl ?_
  refine VW.iconst dX8_init_112 ?_
  refine VW.iconst dX8_init_113 ?_
  refine VW.iastore dX8_init_114 (by omega) hM.2.2.1 (by omega) (by omega) (by decide) ?_
  refine VW.aload_n dX8_init_115 rfl ?_
  refine VW.getR dX8_init_116 fa_X8_7 (by omega) hM.2.1 rfl ?_
  refine VW.iconst dX8_init_119 ?_
  refine VW.iconst dX8_init_120 ?_
  refine VW.iastore dX8_init_121 (by omega) hM.2.2.1 (by omega) (by omega) (by decide) ?_
  refine VW.aload_n dX8_init_122 rfl ?_
  refine VW.getR dX8_init_123 fa_X8_7 (by omega) hM.2.1 rfl ?_
  refine VW.iconst dX8_init_126 ?_
  refine VW.iconst dX8_init_127 ?_
  refine VW.iastore dX8_init_128 (by omega) hM.2.2.1 (by omega) (by omega) (by decide) ?_
  refine VW.vreturn dX8_init_129 rfl ?_
  refine ⟨shD11, _, rfl, fun i hi => ⟨(S11.1 i (by omega) (by omega)).trans ((S10.1 i (by omega) (by omega)).trans ((S9.1 i (by omega) (by omega)).trans ((S8.1 i (by omega) (by omega)).trans ((S7.1 i (by omega) (by omega)).trans ((S6.1 i (by omega) (by omega)).trans ((S5.1 i (by omega) (by omega)).trans ((S4.1 i (by omega) (by omega)).trans ((S3.1 i (by omega) (by omega)).trans ((S2.1 i (by omega) (by omega)).trans ((S1.1 i (by omega) (by omega)))))))))))), by rw [mup_n (by omega), mup_n (by omega), mup_n (by omega), mup_n (by omega), mup_n (by omega)]; exact (S11.2.1 i (by omega)).trans ((S10.2.1 i (by omega)).trans ((S9.2.1 i (by omega)).trans ((S8.2.1 i (by omega)).trans ((S7.2.1 i (by omega)).trans ((S6.2.1 i (by omega)).trans ((S5.2.1 i (by omega)).trans ((S4.2.1 i (by omega)).trans ((S3.2.1 i (by omega)).trans ((S2.2.1 i (by omega)).trans ((S1.2.1 i (by omega))))))))))))⟩, hM, ⟨⟨fun s hs => ?_, ?_, ?_, fun k hk => absurd hk.2 (by simp; omega), fun c hc => absurd hc.2 (by simp; omega)⟩, ?_, fun k hk => absurd hk (by simp), ?_, fun k hk => absurd hk.2 (by simp; omega)⟩⟩
  · rcases (by omega : s = 0 ∨ s = 1 ∨ s = 2 ∨ s = 3 ∨ s = 4) with rfl | rfl | rfl | rfl | rfl
    · rw [mup_k (by decide), mup_k (by decide), mup_k (by decide), mup_k (by decide)]; exact mup_s _ _ _ _
    · rw [mup_k (by decide), mup_k (by decide), mup_k (by decide)]; exact mup_s _ _ _ _
    · rw [mup_k (by decide), mup_k (by decide)]; exact mup_s _ _ _ _
    · rw [mup_k (by decide)]; exact mup_s _ _ _ _
    · exact mup_s _ _ _ _
  · rw [mup_k (by decide), mup_k (by decide), mup_k (by decide), mup_k (by decide), mup_k (by decide), e4]; rfl
  · rw [mup_k (by decide), mup_k (by decide), mup_k (by decide), mup_k (by decide), mup_k (by decide), e4]; rfl
  · rw [mup_n (by decide), mup_n (by decide), mup_n (by decide), mup_n (by decide), mup_n (by decide)]; exact e3 1
  · rw [mup_n (by decide), mup_n (by decide), mup_n (by decide), mup_n (by decide), mup_n (by decide)]; exact e3 3
theorem isM.agr {N' : Nat} (h : isM N sh) (g : ∀ i, 273 ≤ i → i < 285 → sh' i = sh i) (hN : N ≤ N') : isM N' sh' := by
  obtain ⟨h0, h1, h2, h3, h4, h5, h6, h7, h8, h9, h10, h11, h12⟩ := h
  exact ⟨by omega, by rw [g 273 (by omega) (by omega)]; exact h1, by rw [g 274 (by omega) (by omega)]; exact h2, by rw [g 275 (by omega) (by omega)]; exact h3, by rw [g 276 (by omega) (by omega)]; exact h4, by rw [g 277 (by omega) (by omega)]; exact h5, by rw [g 278 (by omega) (by omega)]; exact h6, by rw [g 279 (by omega) (by omega)]; exact h7, by rw [g 280 (by omega) (by omega)]; exact h8, by rw [g 281 (by omega) (by omega)]; exact h9, by rw [g 282 (by omega) (by omega)]; exact h10, by rw [g 283 (by omega) (by omega)]; exact h11, by rw [g 284 (by omega) (by omega)]; exact h12⟩
theorem hasM.same {C : List (List Int)} (h : hasM μ xs ys C S Z B) (g : ∀ i, 273 ≤ i → i ≠ 285 → μ' i = μ i) : hasM μ' xs ys C S Z B := by
  obtain ⟨h1, h2, h3, h4, h5⟩ := h
  exact ⟨by rw [g 274 (by decide) (by decide)]; exact h1, by rw [g 273 (by decide) (by decide)]; exact h2, fun k hk => by rw [g 275 (by decide) (by decide)]; exact h3 k hk, by rw [g 273 (by decide) (by decide)]; exact h4, fun k hk => by rw [g 276 (by decide) (by decide)]; exact h5 k hk⟩
theorem hasM.keepL {C : List (List Int)} (h : hasM μ xs ys C S Z B) (f : frK aL bL μ μ') : hasM μ' xs ys C S Z B := by
  obtain ⟨h1, h2, h3, h4, h5⟩ := h
  exact ⟨h1.keep f (by decide), (f.2 1 (by decide)).trans h2, fun k hk => by rw [f.1 275 (by decide) (by decide)]; exact h3 k hk, (f.2 3 (by decide)).trans h4, h5.keepL f⟩
theorem frK_frm {a b : List Nat} (f : frK a b μ μ') (h : ∀ x ∈ a, 273 ≤ x ∧ x < 286) : frm μ μ' 273 286 := fun i hi => f.1 i (by omega) (fun q => by have := h i q; omega)
theorem gPo_z {M : MD} {av : List Value} {E : Int → String} {q : QS} {v : Int} {A : AS} (e : q = ((0, v), A)) (h : Fx G l N sh M av μ (gPo E q μ)) : Zi G l N sh M av μ (fun r μ' => r = v ∧ hasA μ' A ∧ frm μ μ' 0 273) := by
  subst e
  exact Fx.mono h (by rintro o μ' ⟨e1, e2, e3⟩; exact ⟨_, e1, _, rfl, rfl, e2, e3⟩)
theorem dbt_s {C : List (List Int)} (ok : okS ((xs, ys), C, S)) : Jvm.FP.dcmp (dbt xs ys C S) (dbt xs ys C S) = some .eq := by
  obtain ⟨⟨ok1, ok2, ok3, ok4⟩, ⟨ok5, ok6, ok7⟩, ok8⟩ := okS.un ok
  unfold dbt
  rcases dbtV_c (dsts_b ok3 ok4 (by omega) ok8 ok6 : bnd (dsts xs ys C S) 0 1000) with h | ⟨a, t, h, h0, h1, h2, h3⟩
  · rw [h]; decide +kernel
  · rw [h]; exact (sh64_n h0 h1 h2 h3).2
variable {a b : Int}
theorem kk_point : (opPoint xs ys C S Z B a b).1.1 = 0 ∨ (opPoint xs ys C S Z B a b).1.1 = 1 ∨ (opPoint xs ys C S Z B a b).1.1 = 2 := by
  unfold opPoint
  (repeat' split) <;> simp
theorem kk_go : (opGo xs ys C S Z B a b).1.1 = 0 ∨ (opGo xs ys C S Z B a b).1.1 = 1 ∨ (opGo xs ys C S Z B a b).1.1 = 2 := by
  unfold opGo
  (repeat' split) <;> simp
theorem kk_back : (opBack xs ys C S Z B a).1.1 = 0 ∨ (opBack xs ys C S Z B a).1.1 = 1 := by
  unfold opBack
  (repeat' split) <;> simp
theorem kk_turn : (opTurn xs ys C S Z B a).1.1 = 0 ∨ (opTurn xs ys C S Z B a).1.1 = 1 ∨ (opTurn xs ys C S Z B a).1.1 = 2 := by
  unfold opTurn
  (repeat' split) <;> simp
theorem kk_learn : (opLearn xs ys C S Z B).1.1 = 0 ∨ (opLearn xs ys C S Z B).1.1 = 1 := by
  unfold opLearn
  (repeat' split) <;> simp
theorem kk_read : (opRead xs ys C S Z B).1.1 = 0 ∨ (opRead xs ys C S Z B).1.1 = 1 ∨ (opRead xs ys C S Z B).1.1 = 2 := by
  unfold opRead
  (repeat' split) <;> simp
theorem kk_forget : (opForget xs ys C S Z B a).1.1 = 0 ∨ (opForget xs ys C S Z B a).1.1 = 1 := by
  unfold opForget
  (repeat' split) <;> simp
theorem kk_set : (opSet xs ys C S Z B a b).1.1 = 0 ∨ (opSet xs ys C S Z B a b).1.1 = 1 ∨ (opSet xs ys C S Z B a b).1.1 = 2 ∨ (opSet xs ys C S Z B a b).1.1 = 3 := by
  unfold opSet
  (repeat' split) <;> simp
theorem kk_append : (opAppend xs ys C S Z B a).1.1 = 0 ∨ (opAppend xs ys C S Z B a).1.1 = 1 ∨ (opAppend xs ys C S Z B a).1.1 = 2 := by
  unfold opAppend
  (repeat' split) <;> simp
theorem kk_undo : (opUndo xs ys C S Z B).1.1 = 0 ∨ (opUndo xs ys C S Z B).1.1 = 1 := by
  unfold opUndo
  (repeat' split) <;> simp
theorem kk_pointOf : (lkPointOf xs ys a b).1 = 0 ∨ (lkPointOf xs ys a b).1 = 1 ∨ (lkPointOf xs ys a b).1 = 2 := by
  unfold lkPointOf
  (repeat' split) <;> simp
theorem kk_run : (lkRun xs ys S a b).1 = 0 ∨ (lkRun xs ys S a b).1 = 1 := by
  unfold lkRun
  (repeat' split) <;> simp
theorem kk_stroke : (lkStroke xs ys S a).1 = 0 ∨ (lkStroke xs ys S a).1 = 1 := by
  unfold lkStroke
  (repeat' split) <;> simp
theorem kk_strokeOf : (lkStrokeOf C a b).1 = 0 ∨ (lkStrokeOf C a b).1 = 1 ∨ (lkStrokeOf C a b).1 = 2 := by
  unfold lkStrokeOf
  (repeat' split) <;> simp
theorem kk_distance : (lkDistance xs ys C S a b).1 = 0 ∨ (lkDistance xs ys C S a b).1 = 1 := by
  unfold lkDistance
  (repeat' split) <;> simp
theorem kk_reading : (lkReading xs ys C S a).1 = 0 ∨ (lkReading xs ys C S a).1 = 1 := by
  unfold lkReading
  (repeat' split) <;> simp
theorem kk_count : (lkCount xs ys C S Z a).1 = 0 ∨ (lkCount xs ys C S Z a).1 = 1 := by
  unfold lkCount
  (repeat' split) <;> simp
theorem kk_setting : (lkSetting S a).1 = 0 ∨ (lkSetting S a).1 = 1 := by
  unfold lkSetting
  (repeat' split) <;> simp
theorem kk_ifPoint : (lkIfPoint xs ys C S a b).1 = 0 ∨ (lkIfPoint xs ys C S a b).1 = 1 := by
  unfold lkIfPoint
  (repeat' split) <;> simp
end PMD
