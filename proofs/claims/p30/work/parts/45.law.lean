/-! ===== the law ===== -/
section PLAW
variable {G : GT} {l : Launch} {N : Nat} {sh : Nat → ShT} {μ μ' : Mem}
theorem hasA0_low (h : hasA μ (mk [] [] [] S0 [] [])) (g : ∀ i, i < 273 → μ' i = μ i) : hasA μ' (mk [] [] [] S0 [] []) := by
  obtain ⟨⟨hP, hC, hS, hZ, hB, tx, ty, hT⟩, v1, v2, v3, v4, v5, v6, v7⟩ := h
  refine ⟨⟨⟨hP.1.agm (g _ (by omega)) (g _ (by omega)), hP.2.1.agm (g _ (by omega)) (g _ (by omega)), hP.2.2⟩, ⟨hC.1.agm (fun x h1 h2 => g x (by omega)), by rw [g 7 (by omega)]; exact hC.2.1, hC.2.2.1, fun i hi => absurd hi (by simp)⟩, hS.agm (g _ (by omega)) (g _ (by omega)), ⟨fun j hj => (hZ.1 j hj).agm (fun x h1 h2 => g x (by omega)), by rw [g 33 (by omega)]; exact hZ.2.1, by rw [g 33 (by omega)]; exact hZ.2.2.1, hZ.2.2.2.1, fun k hk => absurd hk (by simp)⟩, hB.agm (g _ (by omega)) (g _ (by omega)), tx, ty, ⟨hT.1.agm (g _ (by omega)) (g _ (by omega)), hT.2.1.agm (g _ (by omega)) (g _ (by omega)), hT.2.2⟩⟩, v1.agm (g _ (by omega)) (g _ (by omega)), v2.agm (g _ (by omega)) (g _ (by omega)), v3.agm (g _ (by omega)) (g _ (by omega)), v4.agm (g _ (by omega)) (g _ (by omega)), by rw [g 229 (by omega)]; exact v5, v6.agm (g _ (by omega)) (g _ (by omega)), v7.agm (g _ (by omega)) (g _ (by omega))⟩
theorem okA0 : okA (mk [] [] [] S0 [] []) := ⟨⟨⟨rfl, by simp, (by intro x hx; cases hx), (by intro x hx; cases hx)⟩, ⟨by simp, (by intro x hx; cases hx), List.nodup_nil⟩, rfl, by decide, by decide, by decide, by decide, by decide⟩, ⟨by simp, (by intro x hx; cases hx)⟩, by simp, (by intro x hx; cases hx)⟩
def lwF : RT → Prop := fun r => ∃ w c s, r = (.inl (some (vI 1)), w, c, s) ∧ c ≤ 20000 ∧ s ≤ 200000
theorem lp_law (hst : l.stackTraces = false) (hn : gXn G ≤ 260) (hX : ∀ j, R32 (gXv G j)) : ∀ (n : Nat) (i : Int) (N : Nat) (sh : Nat → ShT) (μ : Mem) (k m : Nat), 0 ≤ i → i + n = 50 → k = N → N ≤ 277 + 210 * i.toNat → m ≤ 2266 + 2100 * i.toNat → isG N sh → isL N sh → (∃ xs ys C S Z, Inv μ xs ys C S Z) → VW G l (some 0) M_L_law 55 [(0, .ref (gXb G)), (1, .ref (gB G + 0)), (2, .ref (gB G + 273)), (3, .ref (gB G + 274)), (4, .ref (gB G + 275)), (5, .ref (gB G + 276)), (6, vI i)] [] (N, sh, μ) k m lwF := by
  intro n
  induction n with
  | zero =>
    intro i N sh μ k m h0 h1 hk hN hm hg hl hI
    refine VW.iload dL_law_55 rfl ?_
    refine VW.bipush dL_law_57 rfl ?_
    refine VW.icmp_ge 114 ⟨by omega, by omega⟩ ⟨by omega, by omega⟩ dL_law_59 (by decide) (fun c59 => ?_) (fun c59 => by omega)
    refine VW.iconst dL_law_114 ?_
    refine VW.ireturn dL_law_115 rfl rfl ?_
    exact ⟨_, _, _, rfl, by omega, by omega⟩
  | succ n ih =>
    intro i N sh μ k m h0 h1 hk hN hm hg hl hI
    subst hk
    obtain ⟨xs, ys, C, S, Z, hI⟩ := hI
    refine VW.iload dL_law_55 rfl ?_
    refine VW.bipush dL_law_57 rfl ?_
    refine VW.icmp_ge 114 ⟨by omega, by omega⟩ ⟨by omega, by omega⟩ dL_law_59 (by decide) (fun c59 => by omega) (fun c59 => ?_)
    refine VW.aload_n dL_law_62 rfl ?_
    refine VW.aload_n dL_law_63 rfl ?_
    refine VW.iconst dL_law_64 ?_
    refine VW.iload dL_law_65 rfl ?_
    refine VW.imul dL_law_67 ?_
    refine VW.zqS (av := [.ref (gXb G), vI (2 * i)]) cs_L_law_L_cell dL_law_68 rfl (Nat.le_of_ble_eq_true rfl) (l_cell hst hX hn ⟨by omega, by omega⟩) (fun v1 hv1 => ?_)
    refine VW.aload_n dL_law_71 rfl ?_
    refine VW.iconst dL_law_72 ?_
    refine VW.iload dL_law_73 rfl ?_
    refine VW.imul dL_law_75 ?_
    refine VW.iconst dL_law_76 ?_
    refine VW.iadd dL_law_77 ?_
    refine VW.zqS (av := [.ref (gXb G), vI (2 * i + 1)]) cs_L_law_L_cell dL_law_78 rfl (Nat.le_of_ble_eq_true rfl) (l_cell hst hX hn ⟨by omega, by omega⟩) (fun v2 hv2 => ?_)
    refine VW.aload_n dL_law_81 rfl ?_
    refine VW.aload_n dL_law_82 rfl ?_
    refine VW.aload dL_law_83 rfl ?_
    refine VW.aload dL_law_85 rfl ?_
    refine VW.xS (av := [.ref (gB G + 0), vI v1, vI v2, .ref (gB G + 273), .ref (gB G + 274), .ref (gB G + 275), .ref (gB G + 276)]) (n0 := 0) cs_L_law_L_act dL_law_87 rfl (Nat.le_of_ble_eq_true rfl) rfl (by omega) (l_act (p := k) hst hg hl hI) (fun a5 c5 s5 sh5 μ5 hc5 hs5 hl5 h5 => ?_)
    obtain ⟨ha5, xs5, ys5, C5, S5, Z5, hI5⟩ := h5
    subst ha5
    have hg5 := hg.los hl5 (by omega : k ≤ k + c5)
    have hl := hl.los hl5 (by omega : k ≤ k + c5)
    refine VW.if_eq 106 ⟨by omega, by omega⟩ dL_law_90 (by decide) (fun c90 => by omega) (fun c90 => ?_)
    refine VW.aload_n dL_law_93 rfl ?_
    refine VW.aload_n dL_law_94 rfl ?_
    refine VW.aload_n dL_law_95 rfl ?_
    refine VW.aload dL_law_96 rfl ?_
    refine VW.aload dL_law_98 rfl ?_
    refine VW.xS (av := [.ref (gB G + 0), .ref (gB G + 273), .ref (gB G + 274), .ref (gB G + 275), .ref (gB G + 276)]) (n0 := 0) cs_L_law_L_agree dL_law_100 rfl (Nat.le_of_ble_eq_true rfl) rfl (by omega) (l_agree (p := k + c5) hst hg5 hl hI5) (fun a6 c6 s6 sh6 μ6 hc6 hs6 hl6 h6 => ?_)
    obtain ⟨ha6, hI6⟩ := h6
    subst ha6
    have hg6 := hg5.los hl6 (by omega : k + c5 ≤ k + c5 + c6)
    have hl := hl.los hl6 (by omega : k + c5 ≤ k + c5 + c6)
    refine VW.if_ne 108 ⟨by omega, by omega⟩ dL_law_103 (by decide) (fun c103 => ?_) (fun c103 => by omega)
    refine VW.iinc (lv' := [(0, _), (1, _), (2, _), (3, _), (4, _), (5, _), (6, _)]) dL_law_108 rfl (by decide) rfl ?_
    refine VW.goto 55 dL_law_111 (by decide) ?_
    exact ih (i + 1) _ sh6 μ6 _ _ (by omega) (by omega) (by omega) (by omega) (by omega) hg6 hl ⟨_, _, _, _, _, hI6⟩
theorem law_all (hst : l.stackTraces = false) (hn : gXn G ≤ 260) (hX : ∀ j, R32 (gXv G j)) : VW G l (some 0) M_L_law 0 [(0, .ref (gXb G))] [] (0, sh, μ) 0 0 lwF := by
  refine VW.new (n0 := 0) dL_law_0 na_L_43 rfl (by omega) ?_
  refine VW.nme (N' := 1) (k' := 1) (n' := 9) (by omega) (by omega) (by omega) (fun shB1 μB1 hB1 mB1 => ?_)
  refine VW.dup dL_law_3 rfl ?_
  refine VW.kI (b := 0) (av := []) (n0 := 0) ci_L_law_X7_init dL_law_4 rfl (Nat.le_of_ble_eq_true rfl) rfl (by omega) (i_gest hst (by rw [hB1]; exact fup_s _ _ _) (fun k => by rw [mB1, fup_s])) (fun shC1 μC1 hC1 => ?_)
  refine VW.astore_n (lv' := [(0, _), (1, _)]) dL_law_7 (by decide) rfl ?_
  refine VW.nme (N' := 273) (k' := 273) (n' := 2112) (by omega) (by omega) (by omega) (fun sh0 m0 hs0 hm0 => ?_)
  subst hs0
  subst hm0
  refine VW.bipush dL_law_8 rfl ?_
  refine VW.newI (n0 := 0) dL_law_10 wd_62 rfl (by omega) ⟨by omega, by omega⟩ ?_
  refine VW.nme (N' := 274) (k' := 274) (n' := 2120) (by omega) (by omega) (by omega) (fun s1 m1 hs1 hm1 => ?_)
  refine VW.astore_n (lv' := [(0, _), (1, _), (2, _)]) dL_law_12 (by decide) rfl ?_
  refine VW.bipush dL_law_13 rfl ?_
  refine VW.newI (n0 := 0) dL_law_15 wd_62 rfl (by omega) ⟨by omega, by omega⟩ ?_
  refine VW.nme (N' := 275) (k' := 275) (n' := 2161) (by omega) (by omega) (by omega) (fun s2 m2 hs2 hm2 => ?_)
  refine VW.astore_n (lv' := [(0, _), (1, _), (2, _), (3, _)]) dL_law_17 (by decide) rfl ?_
  refine VW.bipush dL_law_18 rfl ?_
  refine VW.newI (n0 := 0) dL_law_20 wd_62 rfl (by omega) ⟨by omega, by omega⟩ ?_
  refine VW.nme (N' := 276) (k' := 276) (n' := 2202) (by omega) (by omega) (by omega) (fun s3 m3 hs3 hm3 => ?_)
  refine VW.astore (lv' := [(0, _), (1, _), (2, _), (3, _), (4, _)]) dL_law_22 (by decide) rfl ?_
  refine VW.bipush dL_law_24 rfl ?_
  refine VW.newI (n0 := 0) dL_law_26 wd_62 rfl (by omega) ⟨by omega, by omega⟩ ?_
  refine VW.nme (N' := 277) (k' := 277) (n' := 2266) (by omega) (by omega) (by omega) (fun s4 m4 hs4 hm4 => ?_)
  refine VW.astore (lv' := [(0, _), (1, _), (2, _), (3, _), (4, _), (5, _)]) dL_law_28 (by decide) rfl ?_
  have hg : isG 277 s4 := hC1.2.1.agr (fun i h1 h2 => by rw [hs4, fup_n (by omega), hs3, fup_n (by omega), hs2, fup_n (by omega), hs1, fup_n (by omega)]) (by omega)
  have hl : isL 277 s4 := ⟨fun i hi => hi, by rw [hs4, fup_n (by decide), hs3, fup_n (by decide), hs2, fup_n (by decide), hs1, fup_s]; rfl, by rw [hs4, fup_n (by decide), hs3, fup_n (by decide), hs2, fup_s]; rfl, by rw [hs4, fup_n (by decide), hs3, fup_s]; rfl, by rw [hs4, fup_s]; rfl⟩
  have z9 : ∀ j, m4 273 j = 0 := fun j => by rw [hm4, fup_n (by decide), hm3, fup_n (by decide), hm2, fup_n (by decide), hm1, fup_s]
  have hA : hasA m4 (mk [] [] [] S0 [] []) := by
    exact hasA0_low hC1.2.2 (fun i h1 => by rw [hm4, fup_n (by omega), hm3, fup_n (by omega), hm2, fup_n (by omega), hm1, fup_n (by omega)])
  clear hs1 hs2 hs3 hs4 hm1 hm2 hm3 hm4
  refine VW.aload_n dL_law_30 rfl ?_
  refine VW.iconst dL_law_31 ?_
  refine VW.iconst dL_law_32 ?_
  refine VW.iastore dL_law_33 (hl.1 273 (by decide)) hl.2.1 (by omega) (by omega) (by decide) ?_
  refine VW.aload_n dL_law_34 rfl ?_
  refine VW.iconst dL_law_35 ?_
  refine VW.iconst dL_law_36 ?_
  refine VW.iastore dL_law_37 (hl.1 273 (by decide)) hl.2.1 (by omega) (by omega) (by decide) ?_
  refine VW.aload_n dL_law_38 rfl ?_
  refine VW.iconst dL_law_39 ?_
  refine VW.iconst dL_law_40 ?_
  refine VW.iastore dL_law_41 (hl.1 273 (by decide)) hl.2.1 (by omega) (by omega) (by decide) ?_
  refine VW.aload_n dL_law_42 rfl ?_
  refine VW.bipush dL_law_43 rfl ?_
  refine VW.iconst dL_law_45 ?_
  refine VW.iastore dL_law_46 (hl.1 273 (by decide)) hl.2.1 (by omega) (by omega) (by decide) ?_
  refine VW.aload_n dL_law_47 rfl ?_
  refine VW.bipush dL_law_48 rfl ?_
  refine VW.iconst dL_law_50 ?_
  refine VW.iastore dL_law_51 (hl.1 273 (by decide)) hl.2.1 (by omega) (by omega) (by decide) ?_
  refine VW.iconst dL_law_52 ?_
  refine VW.istore (lv' := [(0, _), (1, _), (2, _), (3, _), (4, _), (5, _), (6, _)]) dL_law_53 (by decide) rfl ?_
  refine VW.nmm (fun μw hμw => ?_)
  have NS : hasNS μw S0 := by
    rw [hμw]
    exact ⟨rfl, rfl, rfl, rfl, rfl⟩
  have h0 : μw 273 0 = 0 ∧ μw 273 1 = 0 ∧ μw 273 2 = 0 := by
    rw [hμw]
    exact ⟨z9 0, z9 1, z9 2⟩
  have hAw : hasA μw (mk [] [] [] S0 [] []) := by
    rw [hμw]
    exact hA.keep (((((frm_mup (lo := 273) (hi := 277) ⟨by decide, by decide⟩).tr (frm_mup ⟨by decide, by decide⟩)).tr (frm_mup ⟨by decide, by decide⟩)).tr (frm_mup ⟨by decide, by decide⟩)).tr (frm_mup ⟨by decide, by decide⟩)) (Nat.le_refl _)
  exact lp_law hst hn hX 50 0 277 s4 μw 277 2266 (by omega) (by omega) rfl (by omega) (by omega) hg hl ⟨[], [], [], S0, [], hAw, okA0, ⟨h0.1, h0.2.1, h0.2.2, NS, fun k hk => by simp at hk; omega, fun k hk => by simp at hk; omega, fun c hc => by simp at hc; omega⟩, ⟨by simp, fun L hL => by cases hL⟩, PW.nil S0⟩
end PLAW
