/-! ===== the model: distances, nearest ===== -/
section PN
variable {G : GT} {l : Launch} {N : Nat} {sh : Nat → ShT} {μ μ' : Mem} {xs ys S D Ln : List Int} {C : List (List Int)} {v lo hi : Int}
def sumR (μ : Mem) (c : Nat → Int) (n : Nat) : Prop := ∀ j : Int, 0 ≤ j ∧ j ≤ n → μ 282 j.toNat = c j.toNat
theorem sumR.set {c : Nat → Int} {n : Nat} {k : Int} (h : sumR μ c n) (hk : 0 ≤ k) : sumR (mup μ 282 k.toNat v) (fup c k.toNat v) n := fun j hj => by
  by_cases e : j = k
  · rw [e, mup_s, fup_s]
  · rw [mup_k (by omega), fup_n (by omega)]
    exact h j hj
theorem sumR.keep {a b : List Nat} {c : Nat → Int} {n : Nat} (h : sumR μ c n) (f : frK a b μ μ') (h2 : 282 ∉ a) : sumR μ' c n := fun j hj => by rw [f.1 282 (by decide) h2]; exact h j hj
theorem lp_X8_ld3 (hst : l.stackTraces = false) (hm : isM N sh) (hz : zR (μ 274) xs ys C S) (ok : okS ((xs, ys), C, S)) {c : Int} (hc : 0 ≤ c ∧ c < C.length) (hK : hasK μ D) (hDl : D.length ≤ 40) (hDb : bnd D 0 7) {k : Int} (hk : 0 ≤ k ∧ k < D.length) {B : Int} {b : Nat → Int} (hcb : ∀ j, 0 ≤ b j ∧ b j ≤ 9 * (j : Int) + B) (hB : B ≤ 1000) {Φ : RT → Prop} (kk : ∀ μ3 : Mem, sumR μ3 (nc (rat S 3) (rat S 2) (rat D k) (KL (C.getD c.toNat [])) b) (C.getD c.toNat []).length → frK [282] [] μ μ3 → VW G l none M_X8_layDistances 35 [(0, .ref (gB G + 273)), (1, vI c), (2, vI ((C.getD c.toNat []).length : Int)), (3, vI (k + 1))] [] (N, sh, μ3) 0 0 Φ) : ∀ (n : Nat) (j : Int), (1 ≤ j ∧ j ≤ (C.getD c.toNat []).length + 1) → j + n = ((C.getD c.toNat []).length : Int) + 1 → ∀ μ2 : Mem, sumR μ2 (mixC (rat S 3) (rat S 2) (rat D k) (KL (C.getD c.toNat [])) b j) (C.getD c.toNat []).length → frK [282] [] μ μ2 → VW G l none M_X8_layDistances 69 [(0, .ref (gB G + 273)), (1, vI c), (2, vI ((C.getD c.toNat []).length : Int)), (3, vI k), (4, vI (b (j - 1).toNat)), (5, vI j)] [] (N, sh, μ2) 0 0 Φ := by
  obtain ⟨⟨ok1, ok2, ok3, ok4⟩, ⟨ok5, ok6, ok7⟩, ok8⟩ := okS.un ok
  obtain ⟨hw5, hw0, hw1, hw2, hw3, hw4⟩ := id ok8
  have z6 : μ 274 6 = (C.length : Int) := hz.2.2.1
  have zc := hz.2.2.2.2 c hc
  have l8 := ok6 _ (getD_mem C (i := c.toNat) (by omega))
  intro n
  induction n with
  | zero =>
    intro j h1 h2 μ2 hs hf
    refine VW.iload dX8_layDistances_69 rfl ?_
    refine VW.iload_n dX8_layDistances_71 rfl ?_
    refine VW.icmp_gt 166 ⟨by omega, by omega⟩ ⟨by omega, by omega⟩ dX8_layDistances_72 (by decide) (fun c72 => ?_) (fun c72 => by omega)
    obtain rfl : j = ((C.getD c.toNat []).length : Int) + 1 := by omega
    refine VW.iinc (lv' := [(0, _), (1, _), (2, _), (3, _), (4, _), (5, _)]) dX8_layDistances_166 rfl (by decide) rfl ?_
    refine VW.goto 35 dX8_layDistances_169 (by decide) ?_
    refine VW.sub ?_ [0, 1, 2, 3] rfl
    refine kk _ (fun i hi => ?_) hf
    rw [hs i hi]
    unfold mixC
    rw [if_pos (by omega)]
  | succ n ih =>
    intro j h1 h2 μ2 hs hf
    refine VW.iload dX8_layDistances_69 rfl ?_
    refine VW.iload_n dX8_layDistances_71 rfl ?_
    refine VW.icmp_gt 166 ⟨by omega, by omega⟩ ⟨by omega, by omega⟩ dX8_layDistances_72 (by decide) (fun c72 => by omega) (fun c72 => ?_)
    have z2 : μ2 274 2 = rat S 2 := (congrFun (hf.1 274 (by decide) (by decide)) 2).trans (hz.1 2 (by omega))
    have z3 : μ2 274 3 = rat S 3 := (congrFun (hf.1 274 (by decide) (by decide)) 3).trans (hz.1 3 (by omega))
    have hkd := (hK.keep hf (by decide) (by decide)).2 k hk
    have bd := rat_b hDb hk.1 hk.2
    have bk := rat_b l8.2 (i := j - 1) (by omega) (by omega)
    have m4 := mul_b (a := rat S 2) (b := eig (rat D k) (rat (C.getD c.toNat []) (j - 1))) ⟨by omega, by omega⟩ (eig_b _ _)
    have s1 : μ2 282 j.toNat = b j.toNat := by rw [hs j (by omega)]; unfold mixC; rw [if_neg (by omega)]
    have s2 : μ2 282 (j - 1).toNat = nc (rat S 3) (rat S 2) (rat D k) (KL (C.getD c.toNat [])) b (j - 1).toNat := by rw [hs (j - 1) (by omega)]; unfold mixC; rw [if_pos (by omega)]
    have b1 := hcb j.toNat
    have b2 := hcb (j - 1).toNat
    have b3 := nc_b (d := rat D k) (K := KL (C.getD c.toNat [])) (gap := rat S 3) (turn := rat S 2) ⟨by omega, by omega⟩ ⟨by omega, by omega⟩ hcb (j - 1).toNat
    have hns := nc_succ (rat S 3) (rat S 2) (rat D k) (KL (C.getD c.toNat [])) b h1.1
    rw [← KL_rat (L := (C.getD c.toNat [])) (j := j - 1) (by omega)] at hns
    refine VW.iload dX8_layDistances_75 rfl ?_
    refine VW.aload_n dX8_layDistances_77 rfl ?_
    refine VW.getR dX8_layDistances_78 fa_X8_7 (by have := hm.1; omega) hm.2.1 rfl ?_
    refine VW.iconst dX8_layDistances_81 ?_
    refine VW.iaload dX8_layDistances_82 (by have := hm.1; omega) hm.2.2.1 (by omega) (by omega) (by decide) ?_
    rw [show (2 : Int).toNat = 2 from rfl, z2]
    refine VW.aload_n dX8_layDistances_83 rfl ?_
    refine VW.getR dX8_layDistances_84 fa_X8_31 (by have := hm.1; omega) hm.2.1 rfl ?_
    refine VW.iload_n dX8_layDistances_87 rfl ?_
    refine VW.iaload dX8_layDistances_88 (by have := hm.1; omega) hm.2.2.2.2.2.2.2.2.2.1 (by omega) (by omega) (by decide) ?_
    rw [hkd]
    refine VW.aload_n dX8_layDistances_89 rfl ?_
    refine VW.iload_n dX8_layDistances_90 rfl ?_
    refine VW.iload dX8_layDistances_91 rfl ?_
    refine VW.iconst dX8_layDistances_93 ?_
    refine VW.isub dX8_layDistances_94 ?_
    refine VW.pV2 cv_X8_layDistances_X8_directionOf dX8_layDistances_95 (Nat.le_of_ble_eq_true rfl) (by have := hm.1; omega) hm.2.1 (t_directionOf hst hm (hz.keep hf (by decide)) ok hc (j := j - 1) ⟨by omega, by omega⟩) ?_
    refine VW.pS2 cs_X8_layDistances_X8_eighths dX8_layDistances_98 (Nat.le_of_ble_eq_true rfl) (t_eighths hst (by omega) (by omega)) ?_
    refine VW.imul dX8_layDistances_101 ?_
    refine VW.iadd dX8_layDistances_102 ?_
    refine VW.istore (lv' := [(0, _), (1, _), (2, _), (3, _), (4, _), (5, _), (6, _)]) dX8_layDistances_103 (by decide) rfl ?_
    refine VW.aload_n dX8_layDistances_105 rfl ?_
    refine VW.getR dX8_layDistances_106 fa_X8_34 (by have := hm.1; omega) hm.2.1 rfl ?_
    refine VW.iload dX8_layDistances_109 rfl ?_
    refine VW.iaload dX8_layDistances_111 (by have := hm.1; omega) hm.2.2.2.2.2.2.2.2.2.2.1 (by omega) (by omega) (by decide) ?_
    rw [s1]
    refine VW.istore (lv' := [(0, _), (1, _), (2, _), (3, _), (4, _), (5, _), (6, _)]) dX8_layDistances_112 (by decide) rfl ?_
    refine VW.aload_n dX8_layDistances_114 rfl ?_
    refine VW.getR dX8_layDistances_115 fa_X8_34 (by have := hm.1; omega) hm.2.1 rfl ?_
    refine VW.iload dX8_layDistances_118 rfl ?_
    refine VW.iaload dX8_layDistances_120 (by have := hm.1; omega) hm.2.2.2.2.2.2.2.2.2.2.1 (by omega) (by omega) (by decide) ?_
    rw [s1]
    refine VW.ineg dX8_layDistances_121 ?_
    refine VW.aload_n dX8_layDistances_122 rfl ?_
    refine VW.getR dX8_layDistances_123 fa_X8_34 (by have := hm.1; omega) hm.2.1 rfl ?_
    refine VW.iload dX8_layDistances_126 rfl ?_
    refine VW.iconst dX8_layDistances_128 ?_
    refine VW.isub dX8_layDistances_129 ?_
    refine VW.iaload dX8_layDistances_130 (by have := hm.1; omega) hm.2.2.2.2.2.2.2.2.2.2.1 (by omega) (by omega) (by decide) ?_
    rw [s2]
    refine VW.ineg dX8_layDistances_131 ?_
    refine VW.pS2 cs_X8_layDistances_X8_greater dX8_layDistances_132 (Nat.le_of_ble_eq_true rfl) (t_greater hst ⟨by omega, by omega⟩ ⟨by omega, by omega⟩) ?_
    refine VW.istore (lv' := [(0, _), (1, _), (2, _), (3, _), (4, _), (5, _), (6, _), (7, _)]) dX8_layDistances_135 (by decide) rfl ?_
    refine VW.aload_n dX8_layDistances_137 rfl ?_
    refine VW.getR dX8_layDistances_138 fa_X8_34 (by have := hm.1; omega) hm.2.1 rfl ?_
    refine VW.iload dX8_layDistances_141 rfl ?_
    refine VW.iload dX8_layDistances_143 rfl ?_
    refine VW.aload_n dX8_layDistances_145 rfl ?_
    refine VW.getR dX8_layDistances_146 fa_X8_7 (by have := hm.1; omega) hm.2.1 rfl ?_
    refine VW.iconst dX8_layDistances_149 ?_
    refine VW.iaload dX8_layDistances_150 (by have := hm.1; omega) hm.2.2.1 (by omega) (by omega) (by decide) ?_
    rw [show (3 : Int).toNat = 3 from rfl, z3]
    refine VW.isub dX8_layDistances_151 ?_
    refine VW.iload dX8_layDistances_152 rfl ?_
    refine VW.ineg dX8_layDistances_154 ?_
    refine VW.pS2 cs_X8_layDistances_X8_greater dX8_layDistances_155 (Nat.le_of_ble_eq_true rfl) (t_greater hst ⟨by omega, by omega⟩ ⟨by omega, by omega⟩) ?_
    refine VW.ineg dX8_layDistances_158 ?_
    refine VW.iastore dX8_layDistances_159 (by have := hm.1; omega) hm.2.2.2.2.2.2.2.2.2.2.1 (by omega) (by omega) (by decide) ?_
    refine VW.iinc (lv' := [(0, _), (1, _), (2, _), (3, _), (4, _), (5, _), (6, _), (7, _)]) dX8_layDistances_160 rfl (by decide) rfl ?_
    refine VW.goto 69 dX8_layDistances_163 (by decide) ?_
    rw [show -(max (max (-b j.toNat) (-nc (rat S 3) (rat S 2) (rat D k) (KL (C.getD c.toNat [])) b (j - 1).toNat) - rat S 3) (-(b (j - 1).toNat + rat S 2 * eig (rat D k) (rat (C.getD c.toNat []) (j - 1))))) = nc (rat S 3) (rat S 2) (rat D k) (KL (C.getD c.toNat [])) b j.toNat from by rw [hns]; omega]
    have g1 : frK [282] [] μ2 (mup μ2 282 j.toNat (nc (rat S 3) (rat S 2) (rat D k) (KL (C.getD c.toNat [])) b j.toNat)) := frK_a (by decide)
    have hs2 := hs.set (k := j) (v := nc (rat S 3) (rat S 2) (rat D k) (KL (C.getD c.toNat [])) b j.toNat) (by omega)
    rw [mixC_step (by omega)] at hs2
    rw [show b j.toNat = b (j + 1 - 1).toNat by congr 1; omega]
    refine VW.sub ?_ [0, 1, 2, 3, 4, 5] rfl
    exact ih (j + 1) (by omega) (by omega) _ hs2 (hf.tr g1)
theorem lp_X8_ld2 (hst : l.stackTraces = false) (hm : isM N sh) (hz : zR (μ 274) xs ys C S) (ok : okS ((xs, ys), C, S)) {c : Int} (hc : 0 ≤ c ∧ c < C.length) (hK : hasK μ D) (hDl : D.length ≤ 40) (hDb : bnd D 0 7) : ∀ (n : Nat) (k : Int), 0 ≤ k → k + n = D.length → ∀ μ2 : Mem, sumR μ2 (costF (rat S 3) (rat S 2) (D.take k.toNat) (KL (C.getD c.toNat []))) (C.getD c.toNat []).length → frK [282] [] μ μ2 → VW G l none M_X8_layDistances 35 [(0, .ref (gB G + 273)), (1, vI c), (2, vI ((C.getD c.toNat []).length : Int)), (3, vI k)] [] (N, sh, μ2) 0 0 (fxP N sh (oN (vN_v (fun μ' => sumR μ' (costF (rat S 3) (rat S 2) D (KL (C.getD c.toNat []))) (C.getD c.toNat []).length ∧ frK [282] [] μ μ')))) := by
  obtain ⟨⟨ok1, ok2, ok3, ok4⟩, ⟨ok5, ok6, ok7⟩, ok8⟩ := okS.un ok
  obtain ⟨hw5, hw0, hw1, hw2, hw3, hw4⟩ := id ok8
  have z6 : μ 274 6 = (C.length : Int) := hz.2.2.1
  have zc := hz.2.2.2.2 c hc
  have l8 := ok6 _ (getD_mem C (i := c.toNat) (by omega))
  intro n
  induction n with
  | zero =>
    intro k h1 h2 μ2 hs hf
    refine VW.iload_n dX8_layDistances_35 rfl ?_
    have hk1 := (hK.keep hf (by decide) (by decide)).1
    refine VW.aload_n dX8_layDistances_36 rfl ?_
    refine VW.getI dX8_layDistances_37 fa_X8_107 (by have := hm.1; omega) hm.2.1 rfl ?_
    refine VW.icmp_ge 172 ⟨by omega, by omega⟩ ⟨by omega, by omega⟩ dX8_layDistances_40 (by decide) (fun c40 => ?_) (fun c40 => by omega)
    refine VW.vreturn dX8_layDistances_172 rfl ?_
    refine fxP.vv ?_
    rw [List.take_of_length_le (by omega)] at hs
    exact ⟨hs, hf⟩
  | succ n ih =>
    intro k h1 h2 μ2 hs hf
    refine VW.iload_n dX8_layDistances_35 rfl ?_
    have hk1 := (hK.keep hf (by decide) (by decide)).1
    refine VW.aload_n dX8_layDistances_36 rfl ?_
    refine VW.getI dX8_layDistances_37 fa_X8_107 (by have := hm.1; omega) hm.2.1 rfl ?_
    refine VW.icmp_ge 172 ⟨by omega, by omega⟩ ⟨by omega, by omega⟩ dX8_layDistances_40 (by decide) (fun c40 => by omega) (fun c40 => ?_)
    have z2 : μ2 274 2 = rat S 2 := (congrFun (hf.1 274 (by decide) (by decide)) 2).trans (hz.1 2 (by omega))
    have z3 : μ2 274 3 = rat S 3 := (congrFun (hf.1 274 (by decide) (by decide)) 3).trans (hz.1 3 (by omega))
    have s0 : μ2 282 0 = (costF (rat S 3) (rat S 2) (D.take k.toNat) (KL (C.getD c.toNat []))) 0 := hs 0 (by omega)
    have hcb := costF_b (gap := rat S 3) (turn := rat S 2) (K := KL (C.getD c.toNat [])) ⟨by omega, by omega⟩ ⟨by omega, by omega⟩ (D.take k.toNat)
    refine VW.aload_n dX8_layDistances_43 rfl ?_
    refine VW.getR dX8_layDistances_44 fa_X8_34 (by have := hm.1; omega) hm.2.1 rfl ?_
    refine VW.iconst dX8_layDistances_47 ?_
    refine VW.iaload dX8_layDistances_48 (by have := hm.1; omega) hm.2.2.2.2.2.2.2.2.2.2.1 (by omega) (by omega) (by decide) ?_
    rw [show (0 : Int).toNat = 0 from rfl, s0]
    refine VW.istore (lv' := [(0, _), (1, _), (2, _), (3, _), (4, _)]) dX8_layDistances_49 (by decide) rfl ?_
    refine VW.aload_n dX8_layDistances_51 rfl ?_
    refine VW.getR dX8_layDistances_52 fa_X8_34 (by have := hm.1; omega) hm.2.1 rfl ?_
    refine VW.iconst dX8_layDistances_55 ?_
    refine VW.dup2 dX8_layDistances_56 rfl rfl ?_
    refine VW.iaload dX8_layDistances_57 (by have := hm.1; omega) hm.2.2.2.2.2.2.2.2.2.2.1 (by omega) (by omega) (by decide) ?_
    rw [show (0 : Int).toNat = 0 from rfl, s0]
    refine VW.aload_n dX8_layDistances_58 rfl ?_
    refine VW.getR dX8_layDistances_59 fa_X8_7 (by have := hm.1; omega) hm.2.1 rfl ?_
    refine VW.iconst dX8_layDistances_62 ?_
    refine VW.iaload dX8_layDistances_63 (by have := hm.1; omega) hm.2.2.1 (by omega) (by omega) (by decide) ?_
    rw [show (3 : Int).toNat = 3 from rfl, z3]
    refine VW.iadd dX8_layDistances_64 ?_
    refine VW.iastore dX8_layDistances_65 (by have := hm.1; omega) hm.2.2.2.2.2.2.2.2.2.2.1 (by omega) (by omega) (by decide) ?_
    refine VW.iconst dX8_layDistances_66 ?_
    refine VW.istore (lv' := [(0, _), (1, _), (2, _), (3, _), (4, _), (5, _)]) dX8_layDistances_67 (by decide) rfl ?_
    have hs2 := hs.set (k := 0) (v := (costF (rat S 3) (rat S 2) (D.take k.toNat) (KL (C.getD c.toNat []))) 0 + rat S 3) (by omega)
    rw [show fup (costF (rat S 3) (rat S 2) (D.take k.toNat) (KL (C.getD c.toNat []))) (0 : Int).toNat ((costF (rat S 3) (rat S 2) (D.take k.toNat) (KL (C.getD c.toNat []))) 0 + rat S 3) = mixC (rat S 3) (rat S 2) (rat D k) (KL (C.getD c.toNat [])) (costF (rat S 3) (rat S 2) (D.take k.toNat) (KL (C.getD c.toNat []))) 1 from ?_] at hs2
    · refine lp_X8_ld3 hst hm hz ok hc hK hDl hDb (k := k) ⟨by omega, by omega⟩ (b := (costF (rat S 3) (rat S 2) (D.take k.toNat) (KL (C.getD c.toNat [])))) hcb (by simp; omega) (fun μ3 h3 f3 => ?_) (C.getD c.toNat []).length 1 (by omega) (by omega) _ hs2 (hf.tr (frK_a (by decide)))
      rw [← costF_snoc, ← take_snoc D (by omega)] at h3
      exact ih (k + 1) (by omega) (by omega) μ3 h3 f3
    · funext i
      unfold fup mixC
      by_cases hi : i = 0
      · subst hi; rfl
      · rw [if_neg (show ¬ i = Int.toNat 0 from hi), if_neg (by omega)]
theorem lp_X8_ld1 (hst : l.stackTraces = false) (hm : isM N sh) (hz : zR (μ 274) xs ys C S) (ok : okS ((xs, ys), C, S)) {c : Int} (hc : 0 ≤ c ∧ c < C.length) (hK : hasK μ D) (hDl : D.length ≤ 40) (hDb : bnd D 0 7) : ∀ (n : Nat) (k : Int), 0 ≤ k → k + n = ((C.getD c.toNat []).length : Int) + 1 → ∀ μ2 : Mem, (∀ j : Int, 0 ≤ j ∧ j < k → μ2 282 j.toNat = j * rat S 3) → frK [282] [] μ μ2 → VW G l none M_X8_layDistances 8 [(0, .ref (gB G + 273)), (1, vI c), (2, vI ((C.getD c.toNat []).length : Int)), (3, vI k)] [] (N, sh, μ2) 0 0 (fxP N sh (oN (vN_v (fun μ' => sumR μ' (costF (rat S 3) (rat S 2) D (KL (C.getD c.toNat []))) (C.getD c.toNat []).length ∧ frK [282] [] μ μ')))) := by
  obtain ⟨⟨ok1, ok2, ok3, ok4⟩, ⟨ok5, ok6, ok7⟩, ok8⟩ := okS.un ok
  obtain ⟨hw5, hw0, hw1, hw2, hw3, hw4⟩ := id ok8
  have z6 : μ 274 6 = (C.length : Int) := hz.2.2.1
  have zc := hz.2.2.2.2 c hc
  have l8 := ok6 _ (getD_mem C (i := c.toNat) (by omega))
  intro n
  induction n with
  | zero =>
    intro k h1 h2 μ2 hs hf
    refine VW.iload_n dX8_layDistances_8 rfl ?_
    refine VW.iload_n dX8_layDistances_9 rfl ?_
    refine VW.icmp_gt 33 ⟨by omega, by omega⟩ ⟨by omega, by omega⟩ dX8_layDistances_10 (by decide) (fun c10 => ?_) (fun c10 => by omega)
    refine VW.iconst dX8_layDistances_33 ?_
    refine VW.istore_n (lv' := [(0, _), (1, _), (2, _), (3, _)]) dX8_layDistances_34 (by decide) rfl ?_
    refine lp_X8_ld2 hst hm hz ok hc hK hDl hDb D.length 0 (by omega) (by omega) μ2 (fun j hj => ?_) hf
    rw [hs j (by omega)]
    show j * rat S 3 = ((j.toNat : Nat) : Int) * rat S 3
    rw [show ((j.toNat : Nat) : Int) = j by omega]
  | succ n ih =>
    intro k h1 h2 μ2 hs hf
    refine VW.iload_n dX8_layDistances_8 rfl ?_
    refine VW.iload_n dX8_layDistances_9 rfl ?_
    refine VW.icmp_gt 33 ⟨by omega, by omega⟩ ⟨by omega, by omega⟩ dX8_layDistances_10 (by decide) (fun c10 => by omega) (fun c10 => ?_)
    have z2 : μ2 274 2 = rat S 2 := (congrFun (hf.1 274 (by decide) (by decide)) 2).trans (hz.1 2 (by omega))
    have z3 : μ2 274 3 = rat S 3 := (congrFun (hf.1 274 (by decide) (by decide)) 3).trans (hz.1 3 (by omega))
    have m9 := mul_b9 (a := k) (n := 9) ⟨by omega, by omega⟩ (b := rat S 3) ⟨by omega, by omega⟩
    refine VW.aload_n dX8_layDistances_13 rfl ?_
    refine VW.getR dX8_layDistances_14 fa_X8_34 (by have := hm.1; omega) hm.2.1 rfl ?_
    refine VW.iload_n dX8_layDistances_17 rfl ?_
    refine VW.iload_n dX8_layDistances_18 rfl ?_
    refine VW.aload_n dX8_layDistances_19 rfl ?_
    refine VW.getR dX8_layDistances_20 fa_X8_7 (by have := hm.1; omega) hm.2.1 rfl ?_
    refine VW.iconst dX8_layDistances_23 ?_
    refine VW.iaload dX8_layDistances_24 (by have := hm.1; omega) hm.2.2.1 (by omega) (by omega) (by decide) ?_
    rw [show (3 : Int).toNat = 3 from rfl, z3]
    refine VW.imul dX8_layDistances_25 ?_
    refine VW.iastore dX8_layDistances_26 (by have := hm.1; omega) hm.2.2.2.2.2.2.2.2.2.2.1 (by omega) (by omega) (by decide) ?_
    refine VW.iinc (lv' := [(0, _), (1, _), (2, _), (3, _)]) dX8_layDistances_27 rfl (by decide) rfl ?_
    refine VW.goto 8 dX8_layDistances_30 (by decide) ?_
    refine ih (k + 1) (by omega) (by omega) _ (fun j hj => ?_) (hf.tr (frK_a (by decide)))
    by_cases e : j = k
    · subst e
      exact mup_s _ _ _ _
    · rw [mup_k (by omega)]
      exact hs j (by omega)
theorem t_layDistances (hst : l.stackTraces = false) (hm : isM N sh) (hz : zR (μ 274) xs ys C S) (ok : okS ((xs, ys), C, S)) {c : Int} (hc : 0 ≤ c ∧ c < C.length) (hK : hasK μ D) (hDl : D.length ≤ 40) (hDb : bnd D 0 7) : Zv G l N sh M_X8_layDistances [.ref (gB G + 273), vI c] μ (fun μ' => sumR μ' (costF (rat S 3) (rat S 2) D (KL (C.getD c.toNat []))) (C.getD c.toNat []).length ∧ frK [282] [] μ μ') := by
  refine Fx.of hst rfl (by decide +kernel) (Nat.le_of_ble_eq_true rfl) rfl ?_
  obtain ⟨⟨ok1, ok2, ok3, ok4⟩, ⟨ok5, ok6, ok7⟩, ok8⟩ := okS.un ok
  obtain ⟨hw5, hw0, hw1, hw2, hw3, hw4⟩ := id ok8
  have z6 : μ 274 6 = (C.length : Int) := hz.2.2.1
  have zc := hz.2.2.2.2 c hc
  have l8 := ok6 _ (getD_mem C (i := c.toNat) (by omega))
  refine VW.aload_n dX8_layDistances_0 rfl ?_
  refine VW.iload_n dX8_layDistances_1 rfl ?_
  refine VW.pV1 cv_X8_layDistances_X8_directionsOf dX8_layDistances_2 (Nat.le_of_ble_eq_true rfl) (by have := hm.1; omega) hm.2.1 (t_directionsOf hst hm hz ok hc) ?_
  refine VW.istore_n (lv' := [(0, _), (1, _), (2, _)]) dX8_layDistances_5 (by decide) rfl ?_
  refine VW.iconst dX8_layDistances_6 ?_
  refine VW.istore_n (lv' := [(0, _), (1, _), (2, _), (3, _)]) dX8_layDistances_7 (by decide) rfl ?_
  exact lp_X8_ld1 hst hm hz ok hc hK hDl hDb ((C.getD c.toNat []).length + 1) 0 (by omega) (by omega) μ (fun j hj => by omega) frK.rf
theorem t_distanceFrom (hst : l.stackTraces = false) (hm : isM N sh) (hz : zR (μ 274) xs ys C S) (ok : okS ((xs, ys), C, S)) {c : Int} (hc : 0 ≤ c ∧ c < C.length) (hK : hasK μ D) (hDl : D.length ≤ 40) (hDb : bnd D 0 7) : Zi G l N sh M_X8_distanceFrom [.ref (gB G + 273), vI c] μ (fun r μ' => r = dstOf S D (C.getD c.toNat []) ∧ sumR μ' (costF (rat S 3) (rat S 2) D (KL (C.getD c.toNat []))) (C.getD c.toNat []).length ∧ frK [282] [] μ μ') := by
  refine Fx.of hst rfl (by decide +kernel) (Nat.le_of_ble_eq_true rfl) rfl ?_
  obtain ⟨⟨ok1, ok2, ok3, ok4⟩, ⟨ok5, ok6, ok7⟩, ok8⟩ := okS.un ok
  obtain ⟨hw5, hw0, hw1, hw2, hw3, hw4⟩ := id ok8
  have z6 : μ 274 6 = (C.length : Int) := hz.2.2.1
  have zc := hz.2.2.2.2 c hc
  have l8 := ok6 _ (getD_mem C (i := c.toNat) (by omega))
  refine VW.aload_n dX8_distanceFrom_0 rfl ?_
  refine VW.iload_n dX8_distanceFrom_1 rfl ?_
  refine VW.fvV1 cv_X8_distanceFrom_X8_layDistances dX8_distanceFrom_2 (Nat.le_of_ble_eq_true rfl) (by have := hm.1; omega) hm.2.1 (t_layDistances hst hm hz ok hc hK hDl hDb) (fun μ1 h1 => ?_)
  refine VW.aload_n dX8_distanceFrom_5 rfl ?_
  refine VW.getR dX8_distanceFrom_6 fa_X8_34 (by have := hm.1; omega) hm.2.1 rfl ?_
  refine VW.aload_n dX8_distanceFrom_9 rfl ?_
  refine VW.iload_n dX8_distanceFrom_10 rfl ?_
  refine VW.pV1 cv_X8_distanceFrom_X8_directionsOf dX8_distanceFrom_11 (Nat.le_of_ble_eq_true rfl) (by have := hm.1; omega) hm.2.1 (t_directionsOf hst hm (hz.keep h1.2 (by decide)) ok hc) ?_
  refine VW.iaload dX8_distanceFrom_14 (by have := hm.1; omega) hm.2.2.2.2.2.2.2.2.2.2.1 (by omega) (by omega) (by decide) ?_
  refine VW.ireturn dX8_distanceFrom_15 rfl rfl ?_
  refine fxP.ii ⟨?_, h1⟩
  exact h1.1 ((C.getD c.toNat []).length : Int) (by omega)
theorem t_distanceOf (hst : l.stackTraces = false) (hm : isM N sh) (hz : zR (μ 274) xs ys C S) (ok : okS ((xs, ys), C, S)) {c : Int} (hc : 0 ≤ c ∧ c < C.length) {q : Int} (hqc : 0 ≤ q ∧ q < C.length) : Zi G l N sh M_X8_distanceOf [.ref (gB G + 273), vI c, vI q] μ (fun r μ' => r = dstOf S (C.getD q.toNat []) (C.getD c.toNat []) ∧ frK [281, 282] [13] μ μ') := by
  refine Fx.of hst rfl (by decide +kernel) (Nat.le_of_ble_eq_true rfl) rfl ?_
  obtain ⟨⟨ok1, ok2, ok3, ok4⟩, ⟨ok5, ok6, ok7⟩, ok8⟩ := okS.un ok
  obtain ⟨hw5, hw0, hw1, hw2, hw3, hw4⟩ := id ok8
  have z6 : μ 274 6 = (C.length : Int) := hz.2.2.1
  have zc := hz.2.2.2.2 c hc
  have l8 := ok6 _ (getD_mem C (i := c.toNat) (by omega))
  refine VW.aload_n dX8_distanceOf_0 rfl ?_
  refine VW.iload_n dX8_distanceOf_1 rfl ?_
  refine VW.fvV1 cv_X8_distanceOf_X8_commandStroke dX8_distanceOf_2 (Nat.le_of_ble_eq_true rfl) (by have := hm.1; omega) hm.2.1 (t_commandStroke hst hm hz ok (c := q) hqc) (fun μ1 h1 => ?_)
  have l9 := ok6 _ (getD_mem C (i := q.toNat) (by omega))
  refine VW.aload_n dX8_distanceOf_5 rfl ?_
  refine VW.iload_n dX8_distanceOf_6 rfl ?_
  refine VW.fiV1 cv_X8_distanceOf_X8_distanceFrom dX8_distanceOf_7 (Nat.le_of_ble_eq_true rfl) (by have := hm.1; omega) hm.2.1 (t_distanceFrom hst hm (hz.keep h1.2 (by decide)) ok hc h1.1 (by omega) l9.2) (fun r2 μ2 h2 => ?_)
  obtain ⟨rfl, h2s, h2f⟩ := h2
  refine VW.ireturn dX8_distanceOf_10 rfl rfl ?_
  exact fxP.ii ⟨rfl, (h1.2.wid (by decide) (by decide)).tr (h2f.wid (by decide) (by decide))⟩
theorem lp_X8_laI (hst : l.stackTraces = false) (hm : isM N sh) (hz : zR (μ 274) xs ys C S) (ok : okS ((xs, ys), C, S)) {c : Int} (hc : 0 ≤ c ∧ c < C.length) {b9 : Int} {Φ : RT → Prop} (kk : ∀ b : Int, (-1 ≤ b ∧ b ≤ 1000) → b = b9 → ∀ μ2 : Mem, frK [281, 282] [13] μ μ2 → VW G l none M_X8_leastDistance 4 [(0, .ref (gB G + 273)), (1, vI b), (2, vI (c + 1))] [] (N, sh, μ2) 0 0 Φ) : ∀ (n : Nat) (p b : Int), 0 ≤ p → p + n = c → (-1 ≤ b ∧ b ≤ 1000) → laI C S c n p b = b9 → ∀ μ2 : Mem, frK [281, 282] [13] μ μ2 → VW G l none M_X8_leastDistance 17 [(0, .ref (gB G + 273)), (1, vI b), (2, vI c), (3, vI p)] [] (N, sh, μ2) 0 0 Φ := by
  obtain ⟨⟨ok1, ok2, ok3, ok4⟩, ⟨ok5, ok6, ok7⟩, ok8⟩ := okS.un ok
  obtain ⟨hw5, hw0, hw1, hw2, hw3, hw4⟩ := id ok8
  have z6 : μ 274 6 = (C.length : Int) := hz.2.2.1
  have zc := hz.2.2.2.2 c hc
  have l8 := ok6 _ (getD_mem C (i := c.toNat) (by omega))
  intro n
  induction n with
  | zero =>
    intro p b h1 h2 hb Φe μ2 hf
    refine VW.iload_n dX8_leastDistance_17 rfl ?_
    refine VW.iload_n dX8_leastDistance_18 rfl ?_
    refine VW.icmp_ge 54 ⟨by omega, by omega⟩ ⟨by omega, by omega⟩ dX8_leastDistance_19 (by decide) (fun c19 => ?_) (fun c19 => by omega)
    refine VW.iinc (lv' := [(0, _), (1, _), (2, _), (3, _)]) dX8_leastDistance_54 rfl (by decide) rfl ?_
    refine VW.goto 4 dX8_leastDistance_57 (by decide) ?_
    refine VW.sub ?_ [0, 1, 2] rfl
    exact kk b hb Φe μ2 hf
  | succ n ih =>
    intro p b h1 h2 hb Φe μ2 hf
    refine VW.iload_n dX8_leastDistance_17 rfl ?_
    refine VW.iload_n dX8_leastDistance_18 rfl ?_
    refine VW.icmp_ge 54 ⟨by omega, by omega⟩ ⟨by omega, by omega⟩ dX8_leastDistance_19 (by decide) (fun c19 => by omega) (fun c19 => ?_)
    refine VW.aload_n dX8_leastDistance_22 rfl ?_
    refine VW.iload_n dX8_leastDistance_23 rfl ?_
    refine VW.iload_n dX8_leastDistance_24 rfl ?_
    refine VW.fiV2 cv_X8_leastDistance_X8_distanceOf dX8_leastDistance_25 (Nat.le_of_ble_eq_true rfl) (by have := hm.1; omega) hm.2.1 (t_distanceOf hst hm (hz.keep hf (by decide)) ok hc (q := p) ⟨by omega, by omega⟩) (fun r3 μ3 h3 => ?_)
    obtain ⟨rfl, h3f⟩ := h3
    have l9 := ok6 _ (getD_mem C (i := p.toNat) (by omega))
    have hdb := dstOf_b ok8 (C.getD p.toNat []) (C.getD c.toNat []) (by omega) l8.1
    refine VW.istore (lv' := [(0, _), (1, _), (2, _), (3, _), (4, _)]) dX8_leastDistance_28 (by decide) rfl ?_
    refine VW.iload_n dX8_leastDistance_30 rfl ?_
    refine VW.iconst dX8_leastDistance_31 ?_
    refine VW.icmp_eq 41 ⟨by omega, by omega⟩ ⟨by omega, by omega⟩ dX8_leastDistance_32 (by decide) (fun c32 => ?_) (fun c32 => ?_)
    · refine VW.iload dX8_leastDistance_41 rfl ?_
      refine VW.goto 47 dX8_leastDistance_43 (by decide) ?_
      refine VW.istore_n (lv' := [(0, _), (1, _), (2, _), (3, _), (4, _)]) dX8_leastDistance_47 (by decide) rfl ?_
      refine VW.iinc (lv' := [(0, _), (1, _), (2, _), (3, _), (4, _)]) dX8_leastDistance_48 rfl (by decide) rfl ?_
      refine VW.goto 17 dX8_leastDistance_51 (by decide) ?_
      refine VW.sub ?_ [0, 1, 2, 3] rfl
      rw [show laI C S c (n + 1) p b = laI C S c n (p + 1) (if b = -1 ∨ dstOf S (C.getD p.toNat []) (C.getD c.toNat []) < b then dstOf S (C.getD p.toNat []) (C.getD c.toNat []) else b) from rfl] at Φe
      first
      | (rw [if_pos (by omega)] at Φe; exact ih (p + 1) _ (by omega) (by omega) (by omega) Φe μ3 (hf.tr h3f); done)
      | (rw [if_neg (by omega)] at Φe; exact ih (p + 1) _ (by omega) (by omega) (by omega) Φe μ3 (hf.tr h3f); done)
    · refine VW.iload dX8_leastDistance_35 rfl ?_
      refine VW.iload_n dX8_leastDistance_37 rfl ?_
      refine VW.icmp_ge 46 ⟨by omega, by omega⟩ ⟨by omega, by omega⟩ dX8_leastDistance_38 (by decide) (fun c38 => ?_) (fun c38 => ?_)
      · refine VW.iload_n dX8_leastDistance_46 rfl ?_
        refine VW.istore_n (lv' := [(0, _), (1, _), (2, _), (3, _), (4, _)]) dX8_leastDistance_47 (by decide) rfl ?_
        refine VW.iinc (lv' := [(0, _), (1, _), (2, _), (3, _), (4, _)]) dX8_leastDistance_48 rfl (by decide) rfl ?_
        refine VW.goto 17 dX8_leastDistance_51 (by decide) ?_
        refine VW.sub ?_ [0, 1, 2, 3] rfl
        rw [show laI C S c (n + 1) p b = laI C S c n (p + 1) (if b = -1 ∨ dstOf S (C.getD p.toNat []) (C.getD c.toNat []) < b then dstOf S (C.getD p.toNat []) (C.getD c.toNat []) else b) from rfl] at Φe
        first
        | (rw [if_pos (by omega)] at Φe; exact ih (p + 1) _ (by omega) (by omega) (by omega) Φe μ3 (hf.tr h3f); done)
        | (rw [if_neg (by omega)] at Φe; exact ih (p + 1) _ (by omega) (by omega) (by omega) Φe μ3 (hf.tr h3f); done)
      · refine VW.iload dX8_leastDistance_41 rfl ?_
        refine VW.goto 47 dX8_leastDistance_43 (by decide) ?_
        refine VW.istore_n (lv' := [(0, _), (1, _), (2, _), (3, _), (4, _)]) dX8_leastDistance_47 (by decide) rfl ?_
        refine VW.iinc (lv' := [(0, _), (1, _), (2, _), (3, _), (4, _)]) dX8_leastDistance_48 rfl (by decide) rfl ?_
        refine VW.goto 17 dX8_leastDistance_51 (by decide) ?_
        refine VW.sub ?_ [0, 1, 2, 3] rfl
        rw [show laI C S c (n + 1) p b = laI C S c n (p + 1) (if b = -1 ∨ dstOf S (C.getD p.toNat []) (C.getD c.toNat []) < b then dstOf S (C.getD p.toNat []) (C.getD c.toNat []) else b) from rfl] at Φe
        first
        | (rw [if_pos (by omega)] at Φe; exact ih (p + 1) _ (by omega) (by omega) (by omega) Φe μ3 (hf.tr h3f); done)
        | (rw [if_neg (by omega)] at Φe; exact ih (p + 1) _ (by omega) (by omega) (by omega) Φe μ3 (hf.tr h3f); done)
theorem lp_X8_laO (hst : l.stackTraces = false) (hm : isM N sh) (hz : zR (μ 274) xs ys C S) (ok : okS ((xs, ys), C, S)) : ∀ (n : Nat) (c b : Int), 0 ≤ c → c + n = C.length → (-1 ≤ b ∧ b ≤ 1000) → ∀ μ2 : Mem, frK [281, 282] [13] μ μ2 → VW G l none M_X8_leastDistance 4 [(0, .ref (gB G + 273)), (1, vI b), (2, vI c)] [] (N, sh, μ2) 0 0 (fxP N sh (oN (vN_i (fun a μ' => a = laO C S n c b ∧ frK [281, 282] [13] μ μ')))) := by
  obtain ⟨⟨ok1, ok2, ok3, ok4⟩, ⟨ok5, ok6, ok7⟩, ok8⟩ := okS.un ok
  obtain ⟨hw5, hw0, hw1, hw2, hw3, hw4⟩ := id ok8
  have z6 : μ 274 6 = (C.length : Int) := hz.2.2.1
  intro n
  induction n with
  | zero =>
    intro c b h1 h2 hb μ2 hf
    have e6 : μ2 274 6 = (C.length : Int) := (congrFun (hf.1 274 (by decide) (by decide)) 6).trans z6
    refine VW.iload_n dX8_leastDistance_4 rfl ?_
    refine VW.aload_n dX8_leastDistance_5 rfl ?_
    refine VW.getR dX8_leastDistance_6 fa_X8_7 (by have := hm.1; omega) hm.2.1 rfl ?_
    refine VW.bipush dX8_leastDistance_9 rfl ?_
    refine VW.iaload dX8_leastDistance_11 (by have := hm.1; omega) hm.2.2.1 (by omega) (by omega) (by decide) ?_
    rw [show (6 : Int).toNat = 6 from rfl, e6]
    refine VW.icmp_ge 60 ⟨by omega, by omega⟩ ⟨by omega, by omega⟩ dX8_leastDistance_12 (by decide) (fun c12 => ?_) (fun c12 => by omega)
    refine VW.iload_n dX8_leastDistance_60 rfl ?_
    refine VW.ireturn dX8_leastDistance_61 rfl rfl ?_
    exact fxP.ii ⟨rfl, hf⟩
  | succ n ih =>
    intro c b h1 h2 hb μ2 hf
    have e6 : μ2 274 6 = (C.length : Int) := (congrFun (hf.1 274 (by decide) (by decide)) 6).trans z6
    refine VW.iload_n dX8_leastDistance_4 rfl ?_
    refine VW.aload_n dX8_leastDistance_5 rfl ?_
    refine VW.getR dX8_leastDistance_6 fa_X8_7 (by have := hm.1; omega) hm.2.1 rfl ?_
    refine VW.bipush dX8_leastDistance_9 rfl ?_
    refine VW.iaload dX8_leastDistance_11 (by have := hm.1; omega) hm.2.2.1 (by omega) (by omega) (by decide) ?_
    rw [show (6 : Int).toNat = 6 from rfl, e6]
    refine VW.icmp_ge 60 ⟨by omega, by omega⟩ ⟨by omega, by omega⟩ dX8_leastDistance_12 (by decide) (fun c12 => by omega) (fun c12 => ?_)
    refine VW.iconst dX8_leastDistance_15 ?_
    refine VW.istore_n (lv' := [(0, _), (1, _), (2, _), (3, _)]) dX8_leastDistance_16 (by decide) rfl ?_
    rw [show laO C S (n + 1) c b = laO C S n (c + 1) (laI C S c c.toNat 0 b) from rfl]
    exact lp_X8_laI hst hm hz ok (c := c) ⟨by omega, by omega⟩ (fun b' hb' e μ3 hf3 => by rw [← e]; exact ih (c + 1) b' (by omega) (by omega) hb' μ3 hf3) c.toNat 0 b (by omega) (by omega) hb rfl μ2 hf
theorem t_leastDistance (hst : l.stackTraces = false) (hm : isM N sh) (hz : zR (μ 274) xs ys C S) (ok : okS ((xs, ys), C, S)) : Zi G l N sh M_X8_leastDistance [.ref (gB G + 273)] μ (fun r μ' => r = leastA C S ∧ frK [281, 282] [13] μ μ') := by
  refine Fx.of hst rfl (by decide +kernel) (Nat.le_of_ble_eq_true rfl) rfl ?_
  obtain ⟨⟨ok1, ok2, ok3, ok4⟩, ⟨ok5, ok6, ok7⟩, ok8⟩ := okS.un ok
  obtain ⟨hw5, hw0, hw1, hw2, hw3, hw4⟩ := id ok8
  have z6 : μ 274 6 = (C.length : Int) := hz.2.2.1
  refine VW.iconst dX8_leastDistance_0 ?_
  refine VW.istore_n (lv' := [(0, _), (1, _)]) dX8_leastDistance_1 (by decide) rfl ?_
  refine VW.iconst dX8_leastDistance_2 ?_
  refine VW.istore_n (lv' := [(0, _), (1, _), (2, _)]) dX8_leastDistance_3 (by decide) rfl ?_
  exact lp_X8_laO hst hm hz ok C.length 0 (-1) (by omega) (by omega) (by omega) μ frK.rf
theorem dsD_b {S D : List Int} {C : List (List Int)} (hw : wfS S) (hD : D.length ≤ 40) (h8 : ∀ L ∈ C, L.length ≤ 8 ∧ bnd L 0 7) : bnd (C.map (dstOf S D)) 0 1000 := fun z hz => by
  obtain ⟨L, hL, rfl⟩ := List.mem_map.mp hz
  exact dstOf_b hw _ _ hD (h8 L hL).1
theorem lp_X8_near (hst : l.stackTraces = false) (hm : isM N sh) (hz : zR (μ 274) xs ys C S) (ok : okS ((xs, ys), C, S)) (hK : hasK μ D) (hDl : D.length ≤ 40) (hDb : bnd D 0 7) {w : Int} (hw : R32 w) : ∀ (n : Nat) (p b m : Int), 0 ≤ p → p + n = C.length → (-1 ≤ b ∧ b < p) → (b ≠ -1 → m = rat (C.map (dstOf S D)) b) → (-1 ≤ m ∧ m ≤ 1000) → ∀ μ2 : Mem, frK [282] [] μ μ2 → VW G l none M_X8_nearest 7 [(0, .ref (gB G + 273)), (1, vI w), (2, vI b), (3, vI m), (4, vI p)] [] (N, sh, μ2) 0 0 (fxP N sh (oN (vN_i (fun a μ' => a = nbF (C.map (dstOf S D)) w n p b ∧ frK [282] [] μ μ')))) := by
  obtain ⟨⟨ok1, ok2, ok3, ok4⟩, ⟨ok5, ok6, ok7⟩, ok8⟩ := okS.un ok
  obtain ⟨hw5, hw0, hw1, hw2, hw3, hw4⟩ := id ok8
  have z6 : μ 274 6 = (C.length : Int) := hz.2.2.1
  intro n
  induction n with
  | zero =>
    intro p b m h1 h2 h3 hbm hmb μ2 hf
    have e6 : μ2 274 6 = (C.length : Int) := (congrFun (hf.1 274 (by decide) (by decide)) 6).trans z6
    refine VW.iload dX8_nearest_7 rfl ?_
    refine VW.aload_n dX8_nearest_9 rfl ?_
    refine VW.getR dX8_nearest_10 fa_X8_7 (by have := hm.1; omega) hm.2.1 rfl ?_
    refine VW.bipush dX8_nearest_13 rfl ?_
    refine VW.iaload dX8_nearest_15 (by have := hm.1; omega) hm.2.2.1 (by omega) (by omega) (by decide) ?_
    rw [show (6 : Int).toNat = 6 from rfl, e6]
    refine VW.icmp_ge 81 ⟨by omega, by omega⟩ ⟨by omega, by omega⟩ dX8_nearest_16 (by decide) (fun c16 => ?_) (fun c16 => by omega)
    refine VW.iload_n dX8_nearest_81 rfl ?_
    refine VW.ireturn dX8_nearest_82 rfl rfl ?_
    exact fxP.ii ⟨rfl, hf⟩
  | succ n ih =>
    intro p b m h1 h2 h3 hbm hmb μ2 hf
    have e6 : μ2 274 6 = (C.length : Int) := (congrFun (hf.1 274 (by decide) (by decide)) 6).trans z6
    refine VW.iload dX8_nearest_7 rfl ?_
    refine VW.aload_n dX8_nearest_9 rfl ?_
    refine VW.getR dX8_nearest_10 fa_X8_7 (by have := hm.1; omega) hm.2.1 rfl ?_
    refine VW.bipush dX8_nearest_13 rfl ?_
    refine VW.iaload dX8_nearest_15 (by have := hm.1; omega) hm.2.2.1 (by omega) (by omega) (by decide) ?_
    rw [show (6 : Int).toNat = 6 from rfl, e6]
    refine VW.icmp_ge 81 ⟨by omega, by omega⟩ ⟨by omega, by omega⟩ dX8_nearest_16 (by decide) (fun c16 => by omega) (fun c16 => ?_)
    refine VW.aload_n dX8_nearest_19 rfl ?_
    refine VW.iload dX8_nearest_20 rfl ?_
    refine VW.fiV1 cv_X8_nearest_X8_distanceFrom dX8_nearest_22 (Nat.le_of_ble_eq_true rfl) (by have := hm.1; omega) hm.2.1 (t_distanceFrom hst hm (hz.keep hf (by decide)) ok (c := p) ⟨by omega, by omega⟩ (hK.keep hf (by decide) (by decide)) hDl hDb) (fun r3 μ3 h3 => ?_)
    obtain ⟨rfl, -, h3f⟩ := h3
    have l9 := ok6 _ (getD_mem C (i := p.toNat) (by omega))
    have hdb := dstOf_b ok8 D (C.getD p.toNat []) hDl l9.1
    have hdm := rat_map (dstOf S D) (C := C) (c := p) ⟨by omega, by omega⟩
    refine VW.istore (lv' := [(0, _), (1, _), (2, _), (3, _), (4, _), (5, _)]) dX8_nearest_25 (by decide) rfl ?_
    refine VW.iload dX8_nearest_27 rfl ?_
    refine VW.iload_n dX8_nearest_29 rfl ?_
    refine VW.icmp_eq 48 ⟨by omega, by omega⟩ ⟨by omega, by omega⟩ dX8_nearest_30 (by decide) (fun c30 => ?_) (fun c30 => ?_)
    · refine VW.iconst dX8_nearest_48 ?_
      refine VW.istore (lv' := [(0, _), (1, _), (2, _), (3, _), (4, _), (5, _), (6, _)]) dX8_nearest_49 (by decide) rfl ?_
      refine VW.iload dX8_nearest_51 rfl ?_
      refine VW.if_eq 61 (by decide) dX8_nearest_53 (by decide) (fun _ => ?_) (fun c53 => absurd c53 (by decide))
      refine VW.iload_n dX8_nearest_61 rfl ?_
      refine VW.istore_n (lv' := [(0, _), (1, _), (2, _), (3, _), (4, _), (5, _), (6, _)]) dX8_nearest_62 (by decide) rfl ?_
      refine VW.iload dX8_nearest_63 rfl ?_
      refine VW.if_eq 73 (by decide) dX8_nearest_65 (by decide) (fun _ => ?_) (fun c65 => absurd c65 (by decide))
      refine VW.iload_n dX8_nearest_73 rfl ?_
      refine VW.istore_n (lv' := [(0, _), (1, _), (2, _), (3, _), (4, _), (5, _), (6, _)]) dX8_nearest_74 (by decide) rfl ?_
      refine VW.iinc (lv' := [(0, _), (1, _), (2, _), (3, _), (4, _), (5, _), (6, _)]) dX8_nearest_75 rfl (by decide) rfl ?_
      refine VW.goto 7 dX8_nearest_78 (by decide) ?_
      refine VW.sub ?_ [0, 1, 2, 3, 4] rfl
      rw [show nbF (C.map (dstOf S D)) w (n + 1) p b = nbF (C.map (dstOf S D)) w n (p + 1) (nbS (C.map (dstOf S D)) w p b) from rfl]
      unfold nbS
      first
      | (rw [if_pos (by omega)]; exact ih (p + 1) _ _ (by omega) (by omega) (by omega) (by omega) (by omega) μ3 (hf.tr h3f); done)
      | (rw [if_neg (by omega)]; exact ih (p + 1) _ _ (by omega) (by omega) (by omega) (by omega) (by omega) μ3 (hf.tr h3f); done)
    · refine VW.iload_n dX8_nearest_33 rfl ?_
      refine VW.iconst dX8_nearest_34 ?_
      refine VW.icmp_eq 44 ⟨by omega, by omega⟩ ⟨by omega, by omega⟩ dX8_nearest_35 (by decide) (fun c35 => ?_) (fun c35 => ?_)
      · refine VW.iconst dX8_nearest_44 ?_
        refine VW.goto 49 dX8_nearest_45 (by decide) ?_
        refine VW.istore (lv' := [(0, _), (1, _), (2, _), (3, _), (4, _), (5, _), (6, _)]) dX8_nearest_49 (by decide) rfl ?_
        refine VW.iload dX8_nearest_51 rfl ?_
        refine VW.if_eq 61 (by decide) dX8_nearest_53 (by decide) (fun c53 => absurd c53 (by decide)) (fun _ => ?_)
        refine VW.iload dX8_nearest_56 rfl ?_
        refine VW.goto 62 dX8_nearest_58 (by decide) ?_
        refine VW.istore_n (lv' := [(0, _), (1, _), (2, _), (3, _), (4, _), (5, _), (6, _)]) dX8_nearest_62 (by decide) rfl ?_
        refine VW.iload dX8_nearest_63 rfl ?_
        refine VW.if_eq 73 (by decide) dX8_nearest_65 (by decide) (fun c65 => absurd c65 (by decide)) (fun _ => ?_)
        refine VW.iload dX8_nearest_68 rfl ?_
        refine VW.goto 74 dX8_nearest_70 (by decide) ?_
        refine VW.istore_n (lv' := [(0, _), (1, _), (2, _), (3, _), (4, _), (5, _), (6, _)]) dX8_nearest_74 (by decide) rfl ?_
        refine VW.iinc (lv' := [(0, _), (1, _), (2, _), (3, _), (4, _), (5, _), (6, _)]) dX8_nearest_75 rfl (by decide) rfl ?_
        refine VW.goto 7 dX8_nearest_78 (by decide) ?_
        refine VW.sub ?_ [0, 1, 2, 3, 4] rfl
        rw [show nbF (C.map (dstOf S D)) w (n + 1) p b = nbF (C.map (dstOf S D)) w n (p + 1) (nbS (C.map (dstOf S D)) w p b) from rfl]
        unfold nbS
        first
        | (rw [if_pos (by omega)]; exact ih (p + 1) _ _ (by omega) (by omega) (by omega) (by omega) (by omega) μ3 (hf.tr h3f); done)
        | (rw [if_neg (by omega)]; exact ih (p + 1) _ _ (by omega) (by omega) (by omega) (by omega) (by omega) μ3 (hf.tr h3f); done)
      · refine VW.iload dX8_nearest_38 rfl ?_
        refine VW.iload_n dX8_nearest_40 rfl ?_
        refine VW.icmp_ge 48 ⟨by omega, by omega⟩ ⟨by omega, by omega⟩ dX8_nearest_41 (by decide) (fun c41 => ?_) (fun c41 => ?_)
        · refine VW.iconst dX8_nearest_48 ?_
          refine VW.istore (lv' := [(0, _), (1, _), (2, _), (3, _), (4, _), (5, _), (6, _)]) dX8_nearest_49 (by decide) rfl ?_
          refine VW.iload dX8_nearest_51 rfl ?_
          refine VW.if_eq 61 (by decide) dX8_nearest_53 (by decide) (fun _ => ?_) (fun c53 => absurd c53 (by decide))
          refine VW.iload_n dX8_nearest_61 rfl ?_
          refine VW.istore_n (lv' := [(0, _), (1, _), (2, _), (3, _), (4, _), (5, _), (6, _)]) dX8_nearest_62 (by decide) rfl ?_
          refine VW.iload dX8_nearest_63 rfl ?_
          refine VW.if_eq 73 (by decide) dX8_nearest_65 (by decide) (fun _ => ?_) (fun c65 => absurd c65 (by decide))
          refine VW.iload_n dX8_nearest_73 rfl ?_
          refine VW.istore_n (lv' := [(0, _), (1, _), (2, _), (3, _), (4, _), (5, _), (6, _)]) dX8_nearest_74 (by decide) rfl ?_
          refine VW.iinc (lv' := [(0, _), (1, _), (2, _), (3, _), (4, _), (5, _), (6, _)]) dX8_nearest_75 rfl (by decide) rfl ?_
          refine VW.goto 7 dX8_nearest_78 (by decide) ?_
          refine VW.sub ?_ [0, 1, 2, 3, 4] rfl
          rw [show nbF (C.map (dstOf S D)) w (n + 1) p b = nbF (C.map (dstOf S D)) w n (p + 1) (nbS (C.map (dstOf S D)) w p b) from rfl]
          unfold nbS
          first
          | (rw [if_pos (by omega)]; exact ih (p + 1) _ _ (by omega) (by omega) (by omega) (by omega) (by omega) μ3 (hf.tr h3f); done)
          | (rw [if_neg (by omega)]; exact ih (p + 1) _ _ (by omega) (by omega) (by omega) (by omega) (by omega) μ3 (hf.tr h3f); done)
        · refine VW.iconst dX8_nearest_44 ?_
          refine VW.goto 49 dX8_nearest_45 (by decide) ?_
          refine VW.istore (lv' := [(0, _), (1, _), (2, _), (3, _), (4, _), (5, _), (6, _)]) dX8_nearest_49 (by decide) rfl ?_
          refine VW.iload dX8_nearest_51 rfl ?_
          refine VW.if_eq 61 (by decide) dX8_nearest_53 (by decide) (fun c53 => absurd c53 (by decide)) (fun _ => ?_)
          refine VW.iload dX8_nearest_56 rfl ?_
          refine VW.goto 62 dX8_nearest_58 (by decide) ?_
          refine VW.istore_n (lv' := [(0, _), (1, _), (2, _), (3, _), (4, _), (5, _), (6, _)]) dX8_nearest_62 (by decide) rfl ?_
          refine VW.iload dX8_nearest_63 rfl ?_
          refine VW.if_eq 73 (by decide) dX8_nearest_65 (by decide) (fun c65 => absurd c65 (by decide)) (fun _ => ?_)
          refine VW.iload dX8_nearest_68 rfl ?_
          refine VW.goto 74 dX8_nearest_70 (by decide) ?_
          refine VW.istore_n (lv' := [(0, _), (1, _), (2, _), (3, _), (4, _), (5, _), (6, _)]) dX8_nearest_74 (by decide) rfl ?_
          refine VW.iinc (lv' := [(0, _), (1, _), (2, _), (3, _), (4, _), (5, _), (6, _)]) dX8_nearest_75 rfl (by decide) rfl ?_
          refine VW.goto 7 dX8_nearest_78 (by decide) ?_
          refine VW.sub ?_ [0, 1, 2, 3, 4] rfl
          rw [show nbF (C.map (dstOf S D)) w (n + 1) p b = nbF (C.map (dstOf S D)) w n (p + 1) (nbS (C.map (dstOf S D)) w p b) from rfl]
          unfold nbS
          first
          | (rw [if_pos (by omega)]; exact ih (p + 1) _ _ (by omega) (by omega) (by omega) (by omega) (by omega) μ3 (hf.tr h3f); done)
          | (rw [if_neg (by omega)]; exact ih (p + 1) _ _ (by omega) (by omega) (by omega) (by omega) (by omega) μ3 (hf.tr h3f); done)
theorem t_nearest (hst : l.stackTraces = false) (hm : isM N sh) (hz : zR (μ 274) xs ys C S) (ok : okS ((xs, ys), C, S)) (hK : hasK μ D) (hDl : D.length ≤ 40) (hDb : bnd D 0 7) {w : Int} (hw : R32 w) : Zi G l N sh M_X8_nearest [.ref (gB G + 273), vI w] μ (fun r μ' => r = nbut (C.map (dstOf S D)) w ∧ frK [282] [] μ μ') := by
  refine Fx.of hst rfl (by decide +kernel) (Nat.le_of_ble_eq_true rfl) rfl ?_
  obtain ⟨⟨ok1, ok2, ok3, ok4⟩, ⟨ok5, ok6, ok7⟩, ok8⟩ := okS.un ok
  obtain ⟨hw5, hw0, hw1, hw2, hw3, hw4⟩ := id ok8
  have z6 : μ 274 6 = (C.length : Int) := hz.2.2.1
  refine VW.iconst dX8_nearest_0 ?_
  refine VW.istore_n (lv' := [(0, _), (1, _), (2, _)]) dX8_nearest_1 (by decide) rfl ?_
  refine VW.iconst dX8_nearest_2 ?_
  refine VW.istore_n (lv' := [(0, _), (1, _), (2, _), (3, _)]) dX8_nearest_3 (by decide) rfl ?_
  refine VW.iconst dX8_nearest_4 ?_
  refine VW.istore (lv' := [(0, _), (1, _), (2, _), (3, _), (4, _)]) dX8_nearest_5 (by decide) rfl ?_
  unfold nbut
  rw [List.length_map]
  exact lp_X8_near hst hm hz ok hK hDl hDb hw C.length 0 (-1) 0 (by omega) (by omega) (by omega) (by omega) (by omega) μ frK.rf
def tnM (S D : List Int) (C : List (List Int)) : Int := if nbut (C.map (dstOf S D)) (-1) = -1 ∨ 2 * rat S 4 < rat (C.map (dstOf S D)) (nbut (C.map (dstOf S D)) (-1)) then -1 else nbut (C.map (dstOf S D)) (-1)
theorem t_tooNear (hst : l.stackTraces = false) (hm : isM N sh) (hz : zR (μ 274) xs ys C S) (ok : okS ((xs, ys), C, S)) (hK : hasK μ D) (hDl : D.length ≤ 40) (hDb : bnd D 0 7) : Zi G l N sh M_X8_tooNear [.ref (gB G + 273)] μ (fun r μ' => r = tnM S D C ∧ frK [282] [] μ μ') := by
  refine Fx.of hst rfl (by decide +kernel) (Nat.le_of_ble_eq_true rfl) rfl ?_
  obtain ⟨⟨ok1, ok2, ok3, ok4⟩, ⟨ok5, ok6, ok7⟩, ok8⟩ := okS.un ok
  obtain ⟨hw5, hw0, hw1, hw2, hw3, hw4⟩ := id ok8
  have z6 : μ 274 6 = (C.length : Int) := hz.2.2.1
  refine VW.aload_n dX8_tooNear_0 rfl ?_
  refine VW.iconst dX8_tooNear_1 ?_
  refine VW.fiV1 cv_X8_tooNear_X8_nearest dX8_tooNear_2 (Nat.le_of_ble_eq_true rfl) (by have := hm.1; omega) hm.2.1 (t_nearest hst hm hz ok hK hDl hDb (w := -1) (by decide)) (fun r1 μ1 h1 => ?_)
  obtain ⟨rfl, h1f⟩ := h1
  have nbb := nbut_b (C.map (dstOf S D)) (-1)
  rw [List.length_map] at nbb
  have dbb := dsD_b (C := C) ok8 hDl ok6
  have z4 : μ1 274 4 = rat S 4 := (congrFun (h1f.1 274 (by decide) (by decide)) 4).trans (hz.1 4 (by omega))
  refine VW.istore_n (lv' := [(0, _), (1, _)]) dX8_tooNear_5 (by decide) rfl ?_
  refine VW.iload_n dX8_tooNear_6 rfl ?_
  refine VW.iconst dX8_tooNear_7 ?_
  refine VW.icmp_eq 31 ⟨by omega, by omega⟩ ⟨by omega, by omega⟩ dX8_tooNear_8 (by decide) (fun c8 => ?_) (fun c8 => ?_)
  · refine VW.iconst dX8_tooNear_31 ?_
    refine VW.ireturn dX8_tooNear_32 rfl rfl ?_
    first
    | exact fxP.ii ⟨by unfold tnM; first | (rw [if_pos (by omega)]; done) | (rw [if_neg (by omega)]; done), h1f⟩
    | exact fxP.ii ⟨by unfold tnM; first | (rw [if_pos (by omega)]; done) | (rw [if_neg (by omega)]; done), h1f.tr h2f⟩
  · refine VW.aload_n dX8_tooNear_11 rfl ?_
    refine VW.iload_n dX8_tooNear_12 rfl ?_
    refine VW.fiV1 cv_X8_tooNear_X8_distanceFrom dX8_tooNear_13 (Nat.le_of_ble_eq_true rfl) (by have := hm.1; omega) hm.2.1 (t_distanceFrom hst hm (hz.keep h1f (by decide)) ok (c := nbut (C.map (dstOf S D)) (-1)) ⟨by omega, by omega⟩ (hK.keep h1f (by decide) (by decide)) hDl hDb) (fun r2 μ2 h2 => ?_)
    obtain ⟨rfl, -, h2f⟩ := h2
    have hdm := rat_map (dstOf S D) (C := C) (c := nbut (C.map (dstOf S D)) (-1)) ⟨by omega, by omega⟩
    have hdr := rat_b1 dbb (i := nbut (C.map (dstOf S D)) (-1)) (by omega) (by omega)
    rw [← hdm]
    have z42 : μ2 274 4 = rat S 4 := (congrFun (h2f.1 274 (by decide) (by decide)) 4).trans z4
    refine VW.iconst dX8_tooNear_16 ?_
    refine VW.aload_n dX8_tooNear_17 rfl ?_
    refine VW.getR dX8_tooNear_18 fa_X8_7 (by have := hm.1; omega) hm.2.1 rfl ?_
    refine VW.iconst dX8_tooNear_21 ?_
    refine VW.iaload dX8_tooNear_22 (by have := hm.1; omega) hm.2.2.1 (by omega) (by omega) (by decide) ?_
    rw [show (4 : Int).toNat = 4 from rfl, z42]
    refine VW.imul dX8_tooNear_23 ?_
    refine VW.icmp_gt 31 ⟨by omega, by omega⟩ ⟨by omega, by omega⟩ dX8_tooNear_24 (by decide) (fun c24 => ?_) (fun c24 => ?_)
    · refine VW.iconst dX8_tooNear_31 ?_
      refine VW.ireturn dX8_tooNear_32 rfl rfl ?_
      first
      | exact fxP.ii ⟨by unfold tnM; first | (rw [if_pos (by omega)]; done) | (rw [if_neg (by omega)]; done), h1f⟩
      | exact fxP.ii ⟨by unfold tnM; first | (rw [if_pos (by omega)]; done) | (rw [if_neg (by omega)]; done), h1f.tr h2f⟩
    · refine VW.iload_n dX8_tooNear_27 rfl ?_
      refine VW.goto 32 dX8_tooNear_28 (by decide) ?_
      refine VW.ireturn dX8_tooNear_32 rfl rfl ?_
      first
      | exact fxP.ii ⟨by unfold tnM; first | (rw [if_pos (by omega)]; done) | (rw [if_neg (by omega)]; done), h1f⟩
      | exact fxP.ii ⟨by unfold tnM; first | (rw [if_pos (by omega)]; done) | (rw [if_neg (by omega)]; done), h1f.tr h2f⟩
theorem t_readAs (hst : l.stackTraces = false) (hm : isM N sh) (hz : zR (μ 274) xs ys C S) (ok : okS ((xs, ys), C, S)) (hK : hasK μ D) (hDl : D.length ≤ 40) (hDb : bnd D 0 7) : Zi G l N sh M_X8_readAs [.ref (gB G + 273)] μ (fun r μ' => r = readOf (D.length : Int) (C.map (dstOf S D)) (rat S 4) ∧ frK [282] [] μ μ') := by
  refine Fx.of hst rfl (by decide +kernel) (Nat.le_of_ble_eq_true rfl) rfl ?_
  obtain ⟨⟨ok1, ok2, ok3, ok4⟩, ⟨ok5, ok6, ok7⟩, ok8⟩ := okS.un ok
  obtain ⟨hw5, hw0, hw1, hw2, hw3, hw4⟩ := id ok8
  have z6 : μ 274 6 = (C.length : Int) := hz.2.2.1
  refine VW.aload_n dX8_readAs_0 rfl ?_
  refine VW.iconst dX8_readAs_1 ?_
  refine VW.fiV1 cv_X8_readAs_X8_nearest dX8_readAs_2 (Nat.le_of_ble_eq_true rfl) (by have := hm.1; omega) hm.2.1 (t_nearest hst hm hz ok hK hDl hDb (w := -1) (by decide)) (fun r1 μ1 h1 => ?_)
  obtain ⟨rfl, h1f⟩ := h1
  have nbb := nbut_b (C.map (dstOf S D)) (-1)
  rw [List.length_map] at nbb
  have dbb := dsD_b (C := C) ok8 hDl ok6
  have z4 : μ1 274 4 = rat S 4 := (congrFun (h1f.1 274 (by decide) (by decide)) 4).trans (hz.1 4 (by omega))
  refine VW.istore_n (lv' := [(0, _), (1, _)]) dX8_readAs_5 (by decide) rfl ?_
  have k1 : μ1 273 13 = (D.length : Int) := (hK.keep h1f (by decide) (by decide)).1
  have r1n : rat (C.map (dstOf S D)) (-1) = -1 := rat_out (by omega)
  refine VW.aload_n dX8_readAs_6 rfl ?_
  refine VW.getI dX8_readAs_7 fa_X8_107 (by have := hm.1; omega) hm.2.1 rfl ?_
  refine VW.if_le 36 ⟨by omega, by omega⟩ dX8_readAs_10 (by decide) (fun c10 => ?_) (fun c10 => ?_)
  · refine VW.iconst dX8_readAs_36 ?_
    refine VW.ireturn dX8_readAs_37 rfl rfl ?_
    first
    | exact fxP.ii ⟨by unfold readOf; first | (rw [if_pos (by omega)]; done) | (rw [if_neg (by omega)]; done) | (have q : nbut (C.map (dstOf S D)) (-1) = -1 := (by omega); rw [q]; split <;> rfl), h1f⟩
    | exact fxP.ii ⟨by unfold readOf; first | (rw [if_pos (by omega)]; done) | (rw [if_neg (by omega)]; done) | (have q : nbut (C.map (dstOf S D)) (-1) = -1 := (by omega); rw [q]; split <;> rfl), h1f.tr h2f⟩
  · refine VW.iload_n dX8_readAs_13 rfl ?_
    refine VW.iconst dX8_readAs_14 ?_
    refine VW.icmp_eq 36 ⟨by omega, by omega⟩ ⟨by omega, by omega⟩ dX8_readAs_15 (by decide) (fun c15 => ?_) (fun c15 => ?_)
    · refine VW.iconst dX8_readAs_36 ?_
      refine VW.ireturn dX8_readAs_37 rfl rfl ?_
      first
      | exact fxP.ii ⟨by unfold readOf; first | (rw [if_pos (by omega)]; done) | (rw [if_neg (by omega)]; done) | (have q : nbut (C.map (dstOf S D)) (-1) = -1 := (by omega); rw [q]; split <;> rfl), h1f⟩
      | exact fxP.ii ⟨by unfold readOf; first | (rw [if_pos (by omega)]; done) | (rw [if_neg (by omega)]; done) | (have q : nbut (C.map (dstOf S D)) (-1) = -1 := (by omega); rw [q]; split <;> rfl), h1f.tr h2f⟩
    · refine VW.aload_n dX8_readAs_18 rfl ?_
      refine VW.iload_n dX8_readAs_19 rfl ?_
      refine VW.fiV1 cv_X8_readAs_X8_distanceFrom dX8_readAs_20 (Nat.le_of_ble_eq_true rfl) (by have := hm.1; omega) hm.2.1 (t_distanceFrom hst hm (hz.keep h1f (by decide)) ok (c := nbut (C.map (dstOf S D)) (-1)) ⟨by omega, by omega⟩ (hK.keep h1f (by decide) (by decide)) hDl hDb) (fun r2 μ2 h2 => ?_)
      obtain ⟨rfl, -, h2f⟩ := h2
      have hdm := rat_map (dstOf S D) (C := C) (c := nbut (C.map (dstOf S D)) (-1)) ⟨by omega, by omega⟩
      have hdr := rat_b1 dbb (i := nbut (C.map (dstOf S D)) (-1)) (by omega) (by omega)
      rw [← hdm]
      have z42 : μ2 274 4 = rat S 4 := (congrFun (h2f.1 274 (by decide) (by decide)) 4).trans z4
      refine VW.aload_n dX8_readAs_23 rfl ?_
      refine VW.getR dX8_readAs_24 fa_X8_7 (by have := hm.1; omega) hm.2.1 rfl ?_
      refine VW.iconst dX8_readAs_27 ?_
      refine VW.iaload dX8_readAs_28 (by have := hm.1; omega) hm.2.2.1 (by omega) (by omega) (by decide) ?_
      rw [show (4 : Int).toNat = 4 from rfl, z42]
      refine VW.icmp_gt 36 ⟨by omega, by omega⟩ ⟨by omega, by omega⟩ dX8_readAs_29 (by decide) (fun c29 => ?_) (fun c29 => ?_)
      · refine VW.iconst dX8_readAs_36 ?_
        refine VW.ireturn dX8_readAs_37 rfl rfl ?_
        first
        | exact fxP.ii ⟨by unfold readOf; first | (rw [if_pos (by omega)]; done) | (rw [if_neg (by omega)]; done) | (have q : nbut (C.map (dstOf S D)) (-1) = -1 := (by omega); rw [q]; split <;> rfl), h1f⟩
        | exact fxP.ii ⟨by unfold readOf; first | (rw [if_pos (by omega)]; done) | (rw [if_neg (by omega)]; done) | (have q : nbut (C.map (dstOf S D)) (-1) = -1 := (by omega); rw [q]; split <;> rfl), h1f.tr h2f⟩
      · refine VW.iload_n dX8_readAs_32 rfl ?_
        refine VW.goto 37 dX8_readAs_33 (by decide) ?_
        refine VW.ireturn dX8_readAs_37 rfl rfl ?_
        first
        | exact fxP.ii ⟨by unfold readOf; first | (rw [if_pos (by omega)]; done) | (rw [if_neg (by omega)]; done) | (have q : nbut (C.map (dstOf S D)) (-1) = -1 := (by omega); rw [q]; split <;> rfl), h1f⟩
        | exact fxP.ii ⟨by unfold readOf; first | (rw [if_pos (by omega)]; done) | (rw [if_neg (by omega)]; done) | (have q : nbut (C.map (dstOf S D)) (-1) = -1 := (by omega); rw [q]; split <;> rfl), h1f.tr h2f⟩
end PN
