/-! ===== act: go ===== -/
section PAC
variable {G : GT} {l : Launch} {N : Nat} {sh : Nat → ShT} {μ μ' : Mem} {xs ys S D Ln : List Int} {C : List (List Int)} {d : Nat}
variable {Z : List St} {p k m : Nat} {Φ : RT → Prop} {c q y act : Int} {sh0 : Nat → ShT}
variable {e j w : Int}
theorem lp_gs (hst : l.stackTraces = false) (hg : isG N sh) (hl : isL N sh) (ht : isT N sh d) (hI : Inv μ xs ys C S Z) (hN : p + k = N) (hk : k ≤ 3) (hm : m ≤ 82) (hsh : los p sh0 sh) {x : Int} (he : 0 ≤ e ∧ e < 8) (hy : 1 ≤ w ∧ w ≤ 6) (kk : ∀ j : Int, j = goN xs ys e w → VW G l (some p) M_L_act 179 [(0, .ref (gB G + 0)), (1, vI x), (2, vI y), (3, .ref (gB G + 273)), (4, .ref (gB G + 274)), (5, .ref (gB G + 275)), (6, .ref (gB G + 276)), (7, vI act), (8, .ref (gB G + d)), (9, .ref (gB G + (d + 1))), (10, .ref (gB G + (d + 2))), (11, vI e), (12, vI w), (13, vI j), (14, vI (lastOf xs)), (15, vI (lastOf ys))] [] (N, sh, μ) k m (xaP p sh0 70 700 aP)) : ∀ (n : Nat) (j : Int), 0 ≤ j → j + n = goN xs ys e w → VW G l (some p) M_L_act 98 [(0, .ref (gB G + 0)), (1, vI x), (2, vI y), (3, .ref (gB G + 273)), (4, .ref (gB G + 274)), (5, .ref (gB G + 275)), (6, .ref (gB G + 276)), (7, vI act), (8, .ref (gB G + d)), (9, .ref (gB G + (d + 1))), (10, .ref (gB G + (d + 2))), (11, vI e), (12, vI w), (13, vI j), (14, vI (lastOf xs)), (15, vI (lastOf ys))] [] (N, sh, μ) k m (xaP p sh0 70 700 aP) := by
  obtain ⟨hA, ok, hL, hok, hpw⟩ := id hI
  obtain ⟨⟨⟨ok1, ok2, ok3, ok4⟩, ⟨ok5, ok6, ok7⟩, ok8⟩, ⟨ok9, ok10⟩, ok11, ok12⟩ := okA.un ok
  have hd1 := ht.1.1
  have hd2 := ht.1.2
  have h7 := hok.1
  have t3 := tbo_b 3 (by decide) e
  have t4 := tbo_b 4 (by decide) e
  have lx := last_b ok3
  have ly := last_b ok4
  have bx := stepW_b (dx := tbo 3 e) lx
  have byy := stepW_b (dx := tbo 4 e) ly
  have hgn : goN xs ys e w = min w (min (stepsW (lastOf xs) (tbo 3 e)) (stepsW (lastOf ys) (tbo 4 e))) := rfl
  intro n
  induction n with
  | zero =>
    intro j h1 h2
    refine VW.iload dL_act_98 rfl ?_
    refine VW.iload dL_act_100 rfl ?_
    refine VW.icmp_ge 179 ⟨by omega, by omega⟩ ⟨by omega, by omega⟩ dL_act_102 (by decide) (fun c102 => ?_) (fun c102 => ?_)
    · exact kk _ (by omega)
    · have sx := step_in (c := lastOf xs) (s := tbo 3 e) (j := j) lx t3 ⟨by omega, by omega⟩
      have sy := step_in (c := lastOf ys) (s := tbo 4 e) (j := j) ly t4 ⟨by omega, by omega⟩
      obtain ⟨sx1, sx2, sx3⟩ := sx
      obtain ⟨sy1, sy2, sy3⟩ := sy
      refine VW.iload dL_act_105 rfl ?_
      refine VW.iload dL_act_107 rfl ?_
      refine VW.pS1 cs_L_act_L_across dL_act_109 (Nat.le_of_ble_eq_true rfl) (l_across hst ⟨by omega, by omega⟩) ?_
      refine VW.iload dL_act_112 rfl ?_
      refine VW.iconst dL_act_114 ?_
      refine VW.iadd dL_act_115 ?_
      refine VW.imul dL_act_116 ?_
      refine VW.iadd dL_act_117 ?_
      refine VW.if_lt 179 ⟨by omega, by omega⟩ dL_act_118 (by decide) (fun c118 => ?_) (fun c118 => ?_)
      · exact kk _ (by omega)
      · refine VW.iload dL_act_121 rfl ?_
        refine VW.iload dL_act_123 rfl ?_
        refine VW.pS1 cs_L_act_L_across dL_act_125 (Nat.le_of_ble_eq_true rfl) (l_across hst ⟨by omega, by omega⟩) ?_
        refine VW.iload dL_act_128 rfl ?_
        refine VW.iconst dL_act_130 ?_
        refine VW.iadd dL_act_131 ?_
        refine VW.imul dL_act_132 ?_
        refine VW.iadd dL_act_133 ?_
        refine VW.bipush dL_act_134 rfl ?_
        refine VW.icmp_ge 179 ⟨by omega, by omega⟩ ⟨by omega, by omega⟩ dL_act_136 (by decide) (fun c136 => ?_) (fun c136 => ?_)
        · exact kk _ (by omega)
        · refine VW.iload dL_act_139 rfl ?_
          refine VW.iload dL_act_141 rfl ?_
          refine VW.pS1 cs_L_act_L_down dL_act_143 (Nat.le_of_ble_eq_true rfl) (l_down hst ⟨by omega, by omega⟩) ?_
          refine VW.iload dL_act_146 rfl ?_
          refine VW.iconst dL_act_148 ?_
          refine VW.iadd dL_act_149 ?_
          refine VW.imul dL_act_150 ?_
          refine VW.iadd dL_act_151 ?_
          refine VW.if_lt 179 ⟨by omega, by omega⟩ dL_act_152 (by decide) (fun c152 => ?_) (fun c152 => ?_)
          · exact kk _ (by omega)
          · refine VW.iload dL_act_155 rfl ?_
            refine VW.iload dL_act_157 rfl ?_
            refine VW.pS1 cs_L_act_L_down dL_act_159 (Nat.le_of_ble_eq_true rfl) (l_down hst ⟨by omega, by omega⟩) ?_
            refine VW.iload dL_act_162 rfl ?_
            refine VW.iconst dL_act_164 ?_
            refine VW.iadd dL_act_165 ?_
            refine VW.imul dL_act_166 ?_
            refine VW.iadd dL_act_167 ?_
            refine VW.bipush dL_act_168 rfl ?_
            refine VW.icmp_ge 179 ⟨by omega, by omega⟩ ⟨by omega, by omega⟩ dL_act_170 (by decide) (fun c170 => ?_) (fun c170 => ?_)
            · exact kk _ (by omega)
            · refine VW.iinc (lv' := [(0, _), (1, _), (2, _), (3, _), (4, _), (5, _), (6, _), (7, _), (8, _), (9, _), (10, _), (11, _), (12, _), (13, _), (14, _), (15, _)]) dL_act_173 rfl (by decide) rfl ?_
              refine VW.goto 98 dL_act_176 (by decide) ?_
              exfalso; omega
  | succ n ih =>
    intro j h1 h2
    refine VW.iload dL_act_98 rfl ?_
    refine VW.iload dL_act_100 rfl ?_
    refine VW.icmp_ge 179 ⟨by omega, by omega⟩ ⟨by omega, by omega⟩ dL_act_102 (by decide) (fun c102 => by omega) (fun c102 => ?_)
    have sx := step_in (c := lastOf xs) (s := tbo 3 e) (j := j) lx t3 ⟨by omega, by omega⟩
    have sy := step_in (c := lastOf ys) (s := tbo 4 e) (j := j) ly t4 ⟨by omega, by omega⟩
    obtain ⟨sx1, sx2, sx3⟩ := sx
    obtain ⟨sy1, sy2, sy3⟩ := sy
    refine VW.iload dL_act_105 rfl ?_
    refine VW.iload dL_act_107 rfl ?_
    refine VW.pS1 cs_L_act_L_across dL_act_109 (Nat.le_of_ble_eq_true rfl) (l_across hst ⟨by omega, by omega⟩) ?_
    refine VW.iload dL_act_112 rfl ?_
    refine VW.iconst dL_act_114 ?_
    refine VW.iadd dL_act_115 ?_
    refine VW.imul dL_act_116 ?_
    refine VW.iadd dL_act_117 ?_
    refine VW.if_lt 179 ⟨by omega, by omega⟩ dL_act_118 (by decide) (fun c118 => ?_) (fun c118 => ?_)
    · exfalso; omega
    · refine VW.iload dL_act_121 rfl ?_
      refine VW.iload dL_act_123 rfl ?_
      refine VW.pS1 cs_L_act_L_across dL_act_125 (Nat.le_of_ble_eq_true rfl) (l_across hst ⟨by omega, by omega⟩) ?_
      refine VW.iload dL_act_128 rfl ?_
      refine VW.iconst dL_act_130 ?_
      refine VW.iadd dL_act_131 ?_
      refine VW.imul dL_act_132 ?_
      refine VW.iadd dL_act_133 ?_
      refine VW.bipush dL_act_134 rfl ?_
      refine VW.icmp_ge 179 ⟨by omega, by omega⟩ ⟨by omega, by omega⟩ dL_act_136 (by decide) (fun c136 => ?_) (fun c136 => ?_)
      · exfalso; omega
      · refine VW.iload dL_act_139 rfl ?_
        refine VW.iload dL_act_141 rfl ?_
        refine VW.pS1 cs_L_act_L_down dL_act_143 (Nat.le_of_ble_eq_true rfl) (l_down hst ⟨by omega, by omega⟩) ?_
        refine VW.iload dL_act_146 rfl ?_
        refine VW.iconst dL_act_148 ?_
        refine VW.iadd dL_act_149 ?_
        refine VW.imul dL_act_150 ?_
        refine VW.iadd dL_act_151 ?_
        refine VW.if_lt 179 ⟨by omega, by omega⟩ dL_act_152 (by decide) (fun c152 => ?_) (fun c152 => ?_)
        · exfalso; omega
        · refine VW.iload dL_act_155 rfl ?_
          refine VW.iload dL_act_157 rfl ?_
          refine VW.pS1 cs_L_act_L_down dL_act_159 (Nat.le_of_ble_eq_true rfl) (l_down hst ⟨by omega, by omega⟩) ?_
          refine VW.iload dL_act_162 rfl ?_
          refine VW.iconst dL_act_164 ?_
          refine VW.iadd dL_act_165 ?_
          refine VW.imul dL_act_166 ?_
          refine VW.iadd dL_act_167 ?_
          refine VW.bipush dL_act_168 rfl ?_
          refine VW.icmp_ge 179 ⟨by omega, by omega⟩ ⟨by omega, by omega⟩ dL_act_170 (by decide) (fun c170 => ?_) (fun c170 => ?_)
          · exfalso; omega
          · refine VW.iinc (lv' := [(0, _), (1, _), (2, _), (3, _), (4, _), (5, _), (6, _), (7, _), (8, _), (9, _), (10, _), (11, _), (12, _), (13, _), (14, _), (15, _)]) dL_act_173 rfl (by decide) rfl ?_
            refine VW.goto 98 dL_act_176 (by decide) ?_
            exact ih (j + 1) (by omega) (by omega)
theorem lp_gp (hst : l.stackTraces = false) (hg : isG N sh) (hl : isL N sh) (ht : isT N sh d) (hI : Inv μ xs ys C S Z) (hN : p + k = N) (hk : k ≤ 3) (hm : m ≤ 82) (hsh : los p sh0 sh) {x : Int} (he : 0 ≤ e ∧ e < 8) (hy : 1 ≤ w ∧ w ≤ 6) {g : Nat} (hg9 : (g : Int) = goN xs ys e w) (h40 : (goB xs).length + g ≤ 40) (hge : (goB ys).length = (goB xs).length) (kk : ∀ μ2 : Mem, hasL μ2 (goB xs ++ goL (lastOf xs) (tbo 3 e) g) (goB ys ++ goL (lastOf ys) (tbo 4 e) g) C S Z.length → hasA μ2 (mk xs ys C S Z []) → VW G l (some p) M_L_act 292 [(0, .ref (gB G + 0)), (1, vI x), (2, vI y), (3, .ref (gB G + 273)), (4, .ref (gB G + 274)), (5, .ref (gB G + 275)), (6, .ref (gB G + 276)), (7, vI act), (8, .ref (gB G + d)), (9, .ref (gB G + (d + 1))), (10, .ref (gB G + (d + 2))), (11, vI e), (12, vI w), (13, vI (g : Int))] [] (N, sh, μ2) k m (xaP p sh0 70 700 aP)) : ∀ (n i : Nat), i + n = g → ∀ μ2 : Mem, hasL μ2 (goB xs ++ goL (lastOf xs) (tbo 3 e) i) (goB ys ++ goL (lastOf ys) (tbo 4 e) i) C S Z.length → hasA μ2 (mk xs ys C S Z []) → VW G l (some p) M_L_act 240 [(0, .ref (gB G + 0)), (1, vI x), (2, vI y), (3, .ref (gB G + 273)), (4, .ref (gB G + 274)), (5, .ref (gB G + 275)), (6, .ref (gB G + 276)), (7, vI act), (8, .ref (gB G + d)), (9, .ref (gB G + (d + 1))), (10, .ref (gB G + (d + 2))), (11, vI e), (12, vI w), (13, vI (g : Int)), (14, vI (lastOf xs)), (15, vI (lastOf ys)), (16, vI ((i : Int) + 1))] [] (N, sh, μ2) k m (xaP p sh0 70 700 aP) := by
  obtain ⟨hA, ok, hL, hok, hpw⟩ := id hI
  obtain ⟨⟨⟨ok1, ok2, ok3, ok4⟩, ⟨ok5, ok6, ok7⟩, ok8⟩, ⟨ok9, ok10⟩, ok11, ok12⟩ := okA.un ok
  have hd1 := ht.1.1
  have hd2 := ht.1.2
  have h7 := hok.1
  have t3 := tbo_b 3 (by decide) e
  have t4 := tbo_b 4 (by decide) e
  have lx := last_b ok3
  have ly := last_b ok4
  have bx := stepW_b (dx := tbo 3 e) lx
  have byy := stepW_b (dx := tbo 4 e) ly
  have hgn : goN xs ys e w = min w (min (stepsW (lastOf xs) (tbo 3 e)) (stepsW (lastOf ys) (tbo 4 e))) := rfl
  intro n
  induction n with
  | zero =>
    intro i h1 μ2 hB hA2
    refine VW.iload dL_act_240 rfl ?_
    refine VW.iload dL_act_242 rfl ?_
    refine VW.icmp_gt 292 ⟨by omega, by omega⟩ ⟨by omega, by omega⟩ dL_act_244 (by decide) (fun c244 => ?_) (fun c244 => by omega)
    obtain rfl : i = g := by omega
    exact VW.sub (kk μ2 hB hA2) [0, 1, 2, 3, 4, 5, 6, 7, 8, 9, 10, 11, 12, 13] rfl
  | succ n ih =>
    intro i h1 μ2 hB hA2
    refine VW.iload dL_act_240 rfl ?_
    refine VW.iload dL_act_242 rfl ?_
    refine VW.icmp_gt 292 ⟨by omega, by omega⟩ ⟨by omega, by omega⟩ dL_act_244 (by decide) (fun c244 => by omega) (fun c244 => ?_)
    have q0 : μ2 273 (0 : Int).toNat = ((goB xs ++ goL (lastOf xs) (tbo 3 e) i).length : Int) := hB.1
    have ql : (((goB xs ++ goL (lastOf xs) (tbo 3 e) i).length : Nat) : Int) = (goB xs).length + (i : Int) := by rw [List.length_append, goL_len]; push_cast; rfl
    have qe : (goB ys ++ goL (lastOf ys) (tbo 4 e) i).length = (goB xs ++ goL (lastOf xs) (tbo 3 e) i).length := by rw [List.length_append, List.length_append, goL_len, goL_len, hge]
    refine VW.aload dL_act_247 rfl ?_
    refine VW.aload_n dL_act_249 rfl ?_
    refine VW.iconst dL_act_250 ?_
    refine VW.iaload dL_act_251 (hl.1 273 (by decide)) hl.2.1 (by omega) (by omega) (by decide) ?_
    rw [q0]
    refine VW.iload dL_act_252 rfl ?_
    refine VW.iload dL_act_254 rfl ?_
    refine VW.pS1 cs_L_act_L_across dL_act_256 (Nat.le_of_ble_eq_true rfl) (l_across hst ⟨by omega, by omega⟩) ?_
    refine VW.iload dL_act_259 rfl ?_
    refine VW.imul dL_act_261 ?_
    refine VW.iadd dL_act_262 ?_
    refine VW.iastore dL_act_263 (hl.1 274 (by decide)) hl.2.2.1 (by omega) (by omega) (by decide) ?_
    refine VW.aload dL_act_264 rfl ?_
    refine VW.aload_n dL_act_266 rfl ?_
    refine VW.iconst dL_act_267 ?_
    refine VW.dup2 dL_act_268 rfl rfl ?_
    refine VW.iaload dL_act_269 (hl.1 273 (by decide)) hl.2.1 (by omega) (by omega) (by decide) ?_
    rw [show mup μ2 274 (((goB xs ++ goL (lastOf xs) (tbo 3 e) i).length : Nat) : Int).toNat (lastOf xs + tbo 3 e * ((i : Int) + 1)) 273 (0 : Int).toNat = ((goB xs ++ goL (lastOf xs) (tbo 3 e) i).length : Int) from (congrFun (mup_n (by decide)) _).trans q0]
    refine VW.dup_x2 dL_act_270 rfl rfl rfl ?_
    refine VW.iconst dL_act_271 ?_
    refine VW.iadd dL_act_272 ?_
    refine VW.iastore dL_act_273 (hl.1 273 (by decide)) hl.2.1 (by omega) (by omega) (by decide) ?_
    refine VW.iload dL_act_274 rfl ?_
    refine VW.iload dL_act_276 rfl ?_
    refine VW.pS1 cs_L_act_L_down dL_act_278 (Nat.le_of_ble_eq_true rfl) (l_down hst ⟨by omega, by omega⟩) ?_
    refine VW.iload dL_act_281 rfl ?_
    refine VW.imul dL_act_283 ?_
    refine VW.iadd dL_act_284 ?_
    refine VW.iastore dL_act_285 (hl.1 275 (by decide)) hl.2.2.2.1 (by omega) (by omega) (by decide) ?_
    refine VW.nmm (fun μ3 hμ3 => ?_)
    have h3 : hasL μ3 (goB xs ++ goL (lastOf xs) (tbo 3 e) (i + 1)) (goB ys ++ goL (lastOf ys) (tbo 4 e) (i + 1)) C S Z.length := by
      rw [goL_s, goL_s, ← List.append_assoc, ← List.append_assoc, Int.mul_comm ((i : Int) + 1) (tbo 3 e), Int.mul_comm ((i : Int) + 1) (tbo 4 e), hμ3, Int.toNat_natCast]
      exact hB.push qe
    have A3 : hasA μ3 (mk xs ys C S Z []) := by
      rw [hμ3]
      exact hA2.keep ((frm_mup (lo := 273) (hi := 277) ⟨by decide, by decide⟩).tr ((frm_mup ⟨by decide, by decide⟩).tr (frm_mup ⟨by decide, by decide⟩))) (Nat.le_refl _)
    refine VW.iinc (lv' := [(0, _), (1, _), (2, _), (3, _), (4, _), (5, _), (6, _), (7, _), (8, _), (9, _), (10, _), (11, _), (12, _), (13, _), (14, _), (15, _), (16, _)]) dL_act_286 rfl (by decide) rfl ?_
    refine VW.goto 240 dL_act_289 (by decide) ?_
    rw [show (i : Int) + 1 + 1 = ((i + 1 : Nat) : Int) + 1 by omega]
    exact ih (i + 1) (by omega) μ3 h3 A3
theorem act_go3 (hst : l.stackTraces = false) (hg : isG N sh) (hl : isL N sh) (ht : isT N sh d) (hI : Inv μ xs ys C S Z) (hN : p + k = N) (hk : k ≤ 3) (hm : m ≤ 82) (hsh : los p sh0 sh) {x : Int} (he : 0 ≤ e ∧ e < 8) (hy : 1 ≤ w ∧ w ≤ 6) {g : Nat} (hg9 : (g : Int) = goN xs ys e w) (h40 : (goB xs).length + g ≤ 40) {μ2 : Mem} (hB : hasL μ2 (goB xs ++ goL (lastOf xs) (tbo 3 e) g) (goB ys ++ goL (lastOf ys) (tbo 4 e) g) C S Z.length) (hA2 : hasA μ2 (mk xs ys C S Z [])) : VW G l (some p) M_L_act 292 [(0, .ref (gB G + 0)), (1, vI x), (2, vI y), (3, .ref (gB G + 273)), (4, .ref (gB G + 274)), (5, .ref (gB G + 275)), (6, .ref (gB G + 276)), (7, vI act), (8, .ref (gB G + d)), (9, .ref (gB G + (d + 1))), (10, .ref (gB G + (d + 2))), (11, vI e), (12, vI w), (13, vI (g : Int))] [] (N, sh, μ2) k m (xaP p sh0 70 700 aP) := by
  obtain ⟨hA, ok, hL, hok, hpw⟩ := id hI
  obtain ⟨⟨⟨ok1, ok2, ok3, ok4⟩, ⟨ok5, ok6, ok7⟩, ok8⟩, ⟨ok9, ok10⟩, ok11, ok12⟩ := okA.un ok
  have hd1 := ht.1.1
  have hd2 := ht.1.2
  have h7 := hok.1
  obtain ⟨σ0, hσ⟩ : ∃ σ0 : St, σ0 = ((xs, ys), C, S) := ⟨_, rfl⟩
  refine VW.aload_n dL_act_292 rfl ?_
  refine VW.iconst dL_act_293 ?_
  refine VW.iaload dL_act_294 (hl.1 273 (by decide)) hl.2.1 (by omega) (by omega) (by decide) ?_
  rw [show μ2 273 (2 : Int).toNat = (Z.length : Int) from hB.2.2.1]
  refine VW.bipush dL_act_295 rfl ?_
  refine VW.icmp_ge 307 ⟨by omega, by omega⟩ ⟨by omega, by omega⟩ dL_act_297 (by decide) (fun c297 => ?_) (fun c297 => ?_)
  · refine VW.nmm (fun μz hμz => ?_)
    have LZ : hasL μz (goB xs ++ goL (lastOf xs) (tbo 3 e) g) (goB ys ++ goL (lastOf ys) (tbo 4 e) g) C S ((kp Z σ0).length : Int) := by
      rw [hμz, kp_ge (by omega)]
      exact hB
    have AZ : hasA μz (mk xs ys C S Z []) := by
      rw [hμz]
      exact hA2
    have hgn : (goN xs ys e w).toNat = g := by omega
    have hop : opGo xs ys C S Z [] e w = ((0, (g : Int)), mk2 (goB xs ++ goL (lastOf xs) (tbo 3 e) g) (goB ys ++ goL (lastOf ys) (tbo 4 e) g) C S xs ys C S Z []) := by
      refine (if_neg (by omega)).trans ((if_neg (by omega)).trans ?_)
      rw [hgn, hg9]
    have hok9 := okA_go ok e w
    rw [hop] at hok9
    refine VW.aload_n dL_act_307 rfl ?_
    refine VW.iload dL_act_308 rfl ?_
    refine VW.iload dL_act_310 rfl ?_
    refine VW.gPc (av := [vI e, vI w]) cv_L_act_X7_go dL_act_312 rfl (Nat.le_of_ble_eq_true rfl) (gLt hg) hg.2.1 (g_go hst hg AZ ok ⟨by omega, by omega⟩ ⟨by omega, by omega⟩) hop (fun μ9 h9 f9 => ?_)
    have LF := LZ.rl (n := 277) (rl.rf.f f9) (Nat.le_refl _)
    rw [hσ] at LF
    refine VW.iload dL_act_315 rfl ?_
    refine VW.icmp_neS 324 dL_act_317 (by decide) ?_
    refine VW.iconst dL_act_320 ?_
    refine VW.goto 325 dL_act_321 (by decide) ?_
    refine VW.ireturn dL_act_325 rfl rfl ?_
    exact xaP.i (by omega) (by omega) (by omega) hsh ⟨rfl, _, _, _, _, _, h9, hok9, LF, hok, hpw⟩
  · refine VW.aload_n dL_act_300 rfl ?_
    refine VW.iconst dL_act_301 ?_
    refine VW.dup2 dL_act_302 rfl rfl ?_
    refine VW.iaload dL_act_303 (hl.1 273 (by decide)) hl.2.1 (by omega) (by omega) (by decide) ?_
    rw [show μ2 273 (2 : Int).toNat = (Z.length : Int) from hB.2.2.1]
    refine VW.iconst dL_act_304 ?_
    refine VW.iadd dL_act_305 ?_
    refine VW.iastore dL_act_306 (hl.1 273 (by decide)) hl.2.1 (by omega) (by omega) (by decide) ?_
    refine VW.nmm (fun μz hμz => ?_)
    have LZ : hasL μz (goB xs ++ goL (lastOf xs) (tbo 3 e) g) (goB ys ++ goL (lastOf ys) (tbo 4 e) g) C S ((kp Z σ0).length : Int) := by
      rw [hμz, kp_lt (by omega)]
      exact hB.z
    have AZ : hasA μz (mk xs ys C S Z []) := by
      rw [hμz]
      exact hA2.keep (frm_mup (lo := 273) (hi := 277) ⟨by decide, by decide⟩) (Nat.le_refl _)
    have hgn : (goN xs ys e w).toNat = g := by omega
    have hop : opGo xs ys C S Z [] e w = ((0, (g : Int)), mk2 (goB xs ++ goL (lastOf xs) (tbo 3 e) g) (goB ys ++ goL (lastOf ys) (tbo 4 e) g) C S xs ys C S Z []) := by
      refine (if_neg (by omega)).trans ((if_neg (by omega)).trans ?_)
      rw [hgn, hg9]
    have hok9 := okA_go ok e w
    rw [hop] at hok9
    refine VW.aload_n dL_act_307 rfl ?_
    refine VW.iload dL_act_308 rfl ?_
    refine VW.iload dL_act_310 rfl ?_
    refine VW.gPc (av := [vI e, vI w]) cv_L_act_X7_go dL_act_312 rfl (Nat.le_of_ble_eq_true rfl) (gLt hg) hg.2.1 (g_go hst hg AZ ok ⟨by omega, by omega⟩ ⟨by omega, by omega⟩) hop (fun μ9 h9 f9 => ?_)
    have LF := LZ.rl (n := 277) (rl.rf.f f9) (Nat.le_refl _)
    rw [hσ] at LF
    refine VW.iload dL_act_315 rfl ?_
    refine VW.icmp_neS 324 dL_act_317 (by decide) ?_
    refine VW.iconst dL_act_320 ?_
    refine VW.goto 325 dL_act_321 (by decide) ?_
    refine VW.ireturn dL_act_325 rfl rfl ?_
    exact xaP.i (by omega) (by omega) (by omega) hsh ⟨rfl, _, _, _, _, _, h9, hok9, LF, hok, hpw⟩
theorem act_go2 (hst : l.stackTraces = false) (hg : isG N sh) (hl : isL N sh) (ht : isT N sh d) (hI : Inv μ xs ys C S Z) (hN : p + k = N) (hk : k ≤ 3) (hm : m ≤ 82) (hsh : los p sh0 sh) {x : Int} (he : 0 ≤ e ∧ e < 8) (hy : 1 ≤ w ∧ w ≤ 6) {g : Nat} (hg9 : (g : Int) = goN xs ys e w) : VW G l (some p) M_L_act 179 [(0, .ref (gB G + 0)), (1, vI x), (2, vI y), (3, .ref (gB G + 273)), (4, .ref (gB G + 274)), (5, .ref (gB G + 275)), (6, .ref (gB G + 276)), (7, vI act), (8, .ref (gB G + d)), (9, .ref (gB G + (d + 1))), (10, .ref (gB G + (d + 2))), (11, vI e), (12, vI w), (13, vI (g : Int)), (14, vI (lastOf xs)), (15, vI (lastOf ys))] [] (N, sh, μ) k m (xaP p sh0 70 700 aP) := by
  obtain ⟨hA, ok, hL, hok, hpw⟩ := id hI
  obtain ⟨⟨⟨ok1, ok2, ok3, ok4⟩, ⟨ok5, ok6, ok7⟩, ok8⟩, ⟨ok9, ok10⟩, ok11, ok12⟩ := okA.un ok
  have hd1 := ht.1.1
  have hd2 := ht.1.2
  have h7 := hok.1
  have t3 := tbo_b 3 (by decide) e
  have t4 := tbo_b 4 (by decide) e
  have lx := last_b ok3
  have ly := last_b ok4
  have bx := stepW_b (dx := tbo 3 e) lx
  have byy := stepW_b (dx := tbo 4 e) ly
  have hgn : goN xs ys e w = min w (min (stepsW (lastOf xs) (tbo 3 e)) (stepsW (lastOf ys) (tbo 4 e))) := rfl
  have hgl : ((goB xs).length : Int) = if xs.length = 0 then 1 else (xs.length : Int) := by
    unfold goB
    split
    · rfl
    · rfl
  have hge : (goB ys).length = (goB xs).length := by
    unfold goB
    rw [ok1]
    split
    · rfl
    · exact ok1
  have hgx : xs.length = 0 → (goB xs).length = 1 := fun q9 => by unfold goB; rw [if_pos q9]; rfl
  have hgy : xs.length ≠ 0 → (goB xs).length = xs.length := fun q9 => by unfold goB; rw [if_neg q9]
  refine VW.aload_n dL_act_179 rfl ?_
  refine VW.iconst dL_act_180 ?_
  refine VW.iaload dL_act_181 (hl.1 273 (by decide)) hl.2.1 (by omega) (by omega) (by decide) ?_
  rw [show μ 273 (0 : Int).toNat = (xs.length : Int) from hL.1]
  refine VW.if_ne 189 ⟨by omega, by omega⟩ dL_act_182 (by decide) (fun c182 => ?_) (fun c182 => ?_)
  · refine VW.aload_n dL_act_189 rfl ?_
    refine VW.iconst dL_act_190 ?_
    refine VW.iaload dL_act_191 (hl.1 273 (by decide)) hl.2.1 (by omega) (by omega) (by decide) ?_
    rw [show μ 273 (0 : Int).toNat = (xs.length : Int) from hL.1]
    refine VW.iload dL_act_192 rfl ?_
    refine VW.iadd dL_act_194 ?_
    refine VW.bipush dL_act_195 rfl ?_
    refine VW.icmp_le 217 ⟨by omega, by omega⟩ ⟨by omega, by omega⟩ dL_act_197 (by decide) (fun c197 => ?_) (fun c197 => ?_)
    · refine VW.aload_n dL_act_217 rfl ?_
      refine VW.iconst dL_act_218 ?_
      refine VW.iaload dL_act_219 (hl.1 273 (by decide)) hl.2.1 (by omega) (by omega) (by decide) ?_
      rw [show μ 273 (0 : Int).toNat = (xs.length : Int) from hL.1]
      refine VW.if_ne 237 ⟨by omega, by omega⟩ dL_act_220 (by decide) (fun c220 => ?_) (fun c220 => ?_)
      · refine VW.iconst dL_act_237 ?_
        refine VW.istore (lv' := [(0, _), (1, _), (2, _), (3, _), (4, _), (5, _), (6, _), (7, _), (8, _), (9, _), (10, _), (11, _), (12, _), (13, _), (14, _), (15, _), (16, _)]) dL_act_238 (by decide) rfl ?_
        have hB : hasL μ (goB xs) (goB ys) C S Z.length := by
          rw [show goB xs = xs from if_neg (by omega), show goB ys = ys from if_neg (by omega)]
          exact hL
        have hA2 := hA
        have key := lp_gp (G := G) (l := l) hst hg hl ht hI hN hk hm hsh (x := x) (act := act) (y := y) he hy hg9 (by omega) hge (fun μ5 h5 a5 => act_go3 (G := G) (l := l) hst hg hl ht hI hN hk hm hsh he hy hg9 (by omega) h5 a5) g 0 (by omega) μ (by rw [show goL (lastOf xs) (tbo 3 e) 0 = [] from rfl, show goL (lastOf ys) (tbo 4 e) 0 = [] from rfl, List.append_nil, List.append_nil]; exact hB) hA2
        exact key
      · refine VW.aload dL_act_223 rfl ?_
        refine VW.iconst dL_act_225 ?_
        refine VW.iconst dL_act_226 ?_
        refine VW.iastore dL_act_227 (hl.1 274 (by decide)) hl.2.2.1 (by omega) (by omega) (by decide) ?_
        refine VW.aload dL_act_228 rfl ?_
        refine VW.iconst dL_act_230 ?_
        refine VW.iconst dL_act_231 ?_
        refine VW.iastore dL_act_232 (hl.1 275 (by decide)) hl.2.2.2.1 (by omega) (by omega) (by decide) ?_
        refine VW.aload_n dL_act_233 rfl ?_
        refine VW.iconst dL_act_234 ?_
        refine VW.iconst dL_act_235 ?_
        refine VW.iastore dL_act_236 (hl.1 273 (by decide)) hl.2.1 (by omega) (by omega) (by decide) ?_
        refine VW.iconst dL_act_237 ?_
        refine VW.istore (lv' := [(0, _), (1, _), (2, _), (3, _), (4, _), (5, _), (6, _), (7, _), (8, _), (9, _), (10, _), (11, _), (12, _), (13, _), (14, _), (15, _), (16, _)]) dL_act_238 (by decide) rfl ?_
        refine VW.nmm (fun μ2 hμ2 => ?_)
        have e0 : xs = [] := List.eq_nil_of_length_eq_zero (by omega)
        have e1 : ys = [] := List.eq_nil_of_length_eq_zero (by omega)
        have hB : hasL μ2 (goB xs) (goB ys) C S Z.length := by
          rw [hμ2, e0, e1]
          rw [e0, e1] at hL
          obtain ⟨q1, q2, q3, ⟨q4, q5, q6, q7, q8⟩, -, -, q9⟩ := hL
          refine ⟨mup_s _ _ _ _, ?_, ?_, ⟨?_, ?_, ?_, ?_, ?_⟩, ?_, ?_, q9.eq ((mup_n (by decide)).trans ((mup_n (by decide)).trans (mup_n (by decide))))⟩
          · rw [mup_k (by decide), mup_n (by decide), mup_n (by decide)]; exact q2
          · rw [mup_k (by decide), mup_n (by decide), mup_n (by decide)]; exact q3
          · rw [mup_k (by decide), mup_n (by decide), mup_n (by decide)]; exact q4
          · rw [mup_k (by decide), mup_n (by decide), mup_n (by decide)]; exact q5
          · rw [mup_k (by decide), mup_n (by decide), mup_n (by decide)]; exact q6
          · rw [mup_k (by decide), mup_n (by decide), mup_n (by decide)]; exact q7
          · rw [mup_k (by decide), mup_n (by decide), mup_n (by decide)]; exact q8
          · intro i hi
            have : i = 0 := by have := hi.2; simp [goB] at this; omega
            subst this
            rw [mup_n (by decide), mup_n (by decide)]
            exact mup_s _ _ _ _
          · intro i hi
            have : i = 0 := by have := hi.2; simp [goB] at this; omega
            subst this
            rw [mup_n (by decide)]
            exact mup_s _ _ _ _
        have hA2 : hasA μ2 (mk xs ys C S Z []) := by
          rw [hμ2]
          exact hA.keep ((frm_mup (lo := 273) (hi := 277) ⟨by decide, by decide⟩).tr ((frm_mup ⟨by decide, by decide⟩).tr (frm_mup ⟨by decide, by decide⟩))) (Nat.le_refl _)
        have key := lp_gp (G := G) (l := l) hst hg hl ht hI hN hk hm hsh (x := x) (act := act) (y := y) he hy hg9 (by omega) hge (fun μ5 h5 a5 => act_go3 (G := G) (l := l) hst hg hl ht hI hN hk hm hsh he hy hg9 (by omega) h5 a5) g 0 (by omega) μ2 (by rw [show goL (lastOf xs) (tbo 3 e) 0 = [] from rfl, show goL (lastOf ys) (tbo 4 e) 0 = [] from rfl, List.append_nil, List.append_nil]; exact hB) hA2
        exact key
    · refine VW.aload_n dL_act_200 rfl ?_
      refine VW.iconst dL_act_201 ?_
      refine VW.gLc (av := [vI 0]) cv_L_act_X7_count dL_act_202 rfl (Nat.le_of_ble_eq_true rfl) (gLt hg) hg.2.1 (g_count hst hg hA ok (by decide)) ((if_neg (by omega)).trans rfl) (fun μ9 h9 f9 => ?_)
      have LF := hL.rl (n := 277) (rl.rf.f f9) (Nat.le_refl _)
      refine VW.aload_n dL_act_205 rfl ?_
      refine VW.iconst dL_act_206 ?_
      refine VW.iaload dL_act_207 (hl.1 273 (by decide)) hl.2.1 (by omega) (by omega) (by decide) ?_
      rw [show μ9 273 (0 : Int).toNat = (xs.length : Int) from (congrFun (f9 273 (by omega)) _).trans hL.1]
      refine VW.icmp_neS 215 dL_act_208 (by decide) ?_
      refine VW.iconst dL_act_211 ?_
      refine VW.goto 216 dL_act_212 (by decide) ?_
      refine VW.ireturn dL_act_216 rfl rfl ?_
      exact xaP.i (by omega) (by omega) (by omega) hsh ⟨rfl, _, _, _, _, _, h9, ok, LF, hok, hpw⟩
  · refine VW.iconst dL_act_185 ?_
    refine VW.goto 192 dL_act_186 (by decide) ?_
    skip
    refine VW.iload dL_act_192 rfl ?_
    refine VW.iadd dL_act_194 ?_
    refine VW.bipush dL_act_195 rfl ?_
    refine VW.icmp_le 217 ⟨by omega, by omega⟩ ⟨by omega, by omega⟩ dL_act_197 (by decide) (fun c197 => ?_) (fun c197 => ?_)
    · refine VW.aload_n dL_act_217 rfl ?_
      refine VW.iconst dL_act_218 ?_
      refine VW.iaload dL_act_219 (hl.1 273 (by decide)) hl.2.1 (by omega) (by omega) (by decide) ?_
      rw [show μ 273 (0 : Int).toNat = (xs.length : Int) from hL.1]
      refine VW.if_ne 237 ⟨by omega, by omega⟩ dL_act_220 (by decide) (fun c220 => ?_) (fun c220 => ?_)
      · refine VW.iconst dL_act_237 ?_
        refine VW.istore (lv' := [(0, _), (1, _), (2, _), (3, _), (4, _), (5, _), (6, _), (7, _), (8, _), (9, _), (10, _), (11, _), (12, _), (13, _), (14, _), (15, _), (16, _)]) dL_act_238 (by decide) rfl ?_
        have hB : hasL μ (goB xs) (goB ys) C S Z.length := by
          rw [show goB xs = xs from if_neg (by omega), show goB ys = ys from if_neg (by omega)]
          exact hL
        have hA2 := hA
        have key := lp_gp (G := G) (l := l) hst hg hl ht hI hN hk hm hsh (x := x) (act := act) (y := y) he hy hg9 (by omega) hge (fun μ5 h5 a5 => act_go3 (G := G) (l := l) hst hg hl ht hI hN hk hm hsh he hy hg9 (by omega) h5 a5) g 0 (by omega) μ (by rw [show goL (lastOf xs) (tbo 3 e) 0 = [] from rfl, show goL (lastOf ys) (tbo 4 e) 0 = [] from rfl, List.append_nil, List.append_nil]; exact hB) hA2
        exact key
      · refine VW.aload dL_act_223 rfl ?_
        refine VW.iconst dL_act_225 ?_
        refine VW.iconst dL_act_226 ?_
        refine VW.iastore dL_act_227 (hl.1 274 (by decide)) hl.2.2.1 (by omega) (by omega) (by decide) ?_
        refine VW.aload dL_act_228 rfl ?_
        refine VW.iconst dL_act_230 ?_
        refine VW.iconst dL_act_231 ?_
        refine VW.iastore dL_act_232 (hl.1 275 (by decide)) hl.2.2.2.1 (by omega) (by omega) (by decide) ?_
        refine VW.aload_n dL_act_233 rfl ?_
        refine VW.iconst dL_act_234 ?_
        refine VW.iconst dL_act_235 ?_
        refine VW.iastore dL_act_236 (hl.1 273 (by decide)) hl.2.1 (by omega) (by omega) (by decide) ?_
        refine VW.iconst dL_act_237 ?_
        refine VW.istore (lv' := [(0, _), (1, _), (2, _), (3, _), (4, _), (5, _), (6, _), (7, _), (8, _), (9, _), (10, _), (11, _), (12, _), (13, _), (14, _), (15, _), (16, _)]) dL_act_238 (by decide) rfl ?_
        refine VW.nmm (fun μ2 hμ2 => ?_)
        have e0 : xs = [] := List.eq_nil_of_length_eq_zero (by omega)
        have e1 : ys = [] := List.eq_nil_of_length_eq_zero (by omega)
        have hB : hasL μ2 (goB xs) (goB ys) C S Z.length := by
          rw [hμ2, e0, e1]
          rw [e0, e1] at hL
          obtain ⟨q1, q2, q3, ⟨q4, q5, q6, q7, q8⟩, -, -, q9⟩ := hL
          refine ⟨mup_s _ _ _ _, ?_, ?_, ⟨?_, ?_, ?_, ?_, ?_⟩, ?_, ?_, q9.eq ((mup_n (by decide)).trans ((mup_n (by decide)).trans (mup_n (by decide))))⟩
          · rw [mup_k (by decide), mup_n (by decide), mup_n (by decide)]; exact q2
          · rw [mup_k (by decide), mup_n (by decide), mup_n (by decide)]; exact q3
          · rw [mup_k (by decide), mup_n (by decide), mup_n (by decide)]; exact q4
          · rw [mup_k (by decide), mup_n (by decide), mup_n (by decide)]; exact q5
          · rw [mup_k (by decide), mup_n (by decide), mup_n (by decide)]; exact q6
          · rw [mup_k (by decide), mup_n (by decide), mup_n (by decide)]; exact q7
          · rw [mup_k (by decide), mup_n (by decide), mup_n (by decide)]; exact q8
          · intro i hi
            have : i = 0 := by have := hi.2; simp [goB] at this; omega
            subst this
            rw [mup_n (by decide), mup_n (by decide)]
            exact mup_s _ _ _ _
          · intro i hi
            have : i = 0 := by have := hi.2; simp [goB] at this; omega
            subst this
            rw [mup_n (by decide)]
            exact mup_s _ _ _ _
        have hA2 : hasA μ2 (mk xs ys C S Z []) := by
          rw [hμ2]
          exact hA.keep ((frm_mup (lo := 273) (hi := 277) ⟨by decide, by decide⟩).tr ((frm_mup ⟨by decide, by decide⟩).tr (frm_mup ⟨by decide, by decide⟩))) (Nat.le_refl _)
        have key := lp_gp (G := G) (l := l) hst hg hl ht hI hN hk hm hsh (x := x) (act := act) (y := y) he hy hg9 (by omega) hge (fun μ5 h5 a5 => act_go3 (G := G) (l := l) hst hg hl ht hI hN hk hm hsh he hy hg9 (by omega) h5 a5) g 0 (by omega) μ2 (by rw [show goL (lastOf xs) (tbo 3 e) 0 = [] from rfl, show goL (lastOf ys) (tbo 4 e) 0 = [] from rfl, List.append_nil, List.append_nil]; exact hB) hA2
        exact key
    · refine VW.aload_n dL_act_200 rfl ?_
      refine VW.iconst dL_act_201 ?_
      refine VW.gLc (av := [vI 0]) cv_L_act_X7_count dL_act_202 rfl (Nat.le_of_ble_eq_true rfl) (gLt hg) hg.2.1 (g_count hst hg hA ok (by decide)) ((if_neg (by omega)).trans rfl) (fun μ9 h9 f9 => ?_)
      have LF := hL.rl (n := 277) (rl.rf.f f9) (Nat.le_refl _)
      refine VW.aload_n dL_act_205 rfl ?_
      refine VW.iconst dL_act_206 ?_
      refine VW.iaload dL_act_207 (hl.1 273 (by decide)) hl.2.1 (by omega) (by omega) (by decide) ?_
      rw [show μ9 273 (0 : Int).toNat = (xs.length : Int) from (congrFun (f9 273 (by omega)) _).trans hL.1]
      refine VW.icmp_neS 215 dL_act_208 (by decide) ?_
      refine VW.iconst dL_act_211 ?_
      refine VW.goto 216 dL_act_212 (by decide) ?_
      refine VW.ireturn dL_act_216 rfl rfl ?_
      exact xaP.i (by omega) (by omega) (by omega) hsh ⟨rfl, _, _, _, _, _, h9, ok, LF, hok, hpw⟩
theorem act_go (hst : l.stackTraces = false) (hg : isG N sh) (hl : isL N sh) (ht : isT N sh d) (hI : Inv μ xs ys C S Z) (hN : p + k = N) (hk : k ≤ 3) (hm : m ≤ 82) (hsh : los p sh0 sh) {x : Int} : VW G l (some p) M_L_act 35 [(0, .ref (gB G + 0)), (1, vI x), (2, vI y), (3, .ref (gB G + 273)), (4, .ref (gB G + 274)), (5, .ref (gB G + 275)), (6, .ref (gB G + 276)), (7, vI act), (8, .ref (gB G + d)), (9, .ref (gB G + (d + 1))), (10, .ref (gB G + (d + 2)))] [] (N, sh, μ) k m (xaP p sh0 70 700 aP) := by
  obtain ⟨hA, ok, hL, hok, hpw⟩ := id hI
  obtain ⟨⟨⟨ok1, ok2, ok3, ok4⟩, ⟨ok5, ok6, ok7⟩, ok8⟩, ⟨ok9, ok10⟩, ok11, ok12⟩ := okA.un ok
  have hd1 := ht.1.1
  have hd2 := ht.1.2
  have h7 := hok.1
  refine VW.iload_n dL_act_35 rfl ?_
  refine VW.bipush dL_act_36 rfl ?_
  refine VW.zqS (av := [vI y, vI 8]) cs_L_act_L_at dL_act_38 rfl (Nat.le_of_ble_eq_true rfl) (l_at hst ⟨by omega, by omega⟩) (fun e he => ?_)
  refine VW.istore (lv' := [(0, _), (1, _), (2, _), (3, _), (4, _), (5, _), (6, _), (7, _), (8, _), (9, _), (10, _), (11, _)]) dL_act_41 (by decide) rfl ?_
  refine VW.iconst dL_act_43 ?_
  refine VW.iload_n dL_act_44 rfl ?_
  refine VW.iconst dL_act_45 ?_
  refine VW.ishrX dL_act_46 (fun x46 hx46 => ?_)
  refine VW.bipush dL_act_47 rfl ?_
  refine VW.zqS (av := [vI x46, vI 6]) cs_L_act_L_at dL_act_49 rfl (Nat.le_of_ble_eq_true rfl) (l_at hst ⟨by omega, by omega⟩) (fun r1 hr1 => ?_)
  refine VW.iadd dL_act_52 ?_
  refine VW.istore (lv' := [(0, _), (1, _), (2, _), (3, _), (4, _), (5, _), (6, _), (7, _), (8, _), (9, _), (10, _), (11, _), (12, _)]) dL_act_53 (by decide) rfl ?_
  refine VW.iconst dL_act_55 ?_
  refine VW.istore (lv' := [(0, _), (1, _), (2, _), (3, _), (4, _), (5, _), (6, _), (7, _), (8, _), (9, _), (10, _), (11, _), (12, _), (13, _)]) dL_act_56 (by decide) rfl ?_
  refine VW.aload_n dL_act_58 rfl ?_
  refine VW.iconst dL_act_59 ?_
  refine VW.iaload dL_act_60 (hl.1 273 (by decide)) hl.2.1 (by omega) (by omega) (by decide) ?_
  rw [show μ 273 (0 : Int).toNat = (xs.length : Int) from hL.1]
  refine VW.if_ne 68 ⟨by omega, by omega⟩ dL_act_61 (by decide) (fun c61 => ?_) (fun c61 => ?_)
  · refine VW.aload dL_act_68 rfl ?_
    refine VW.aload_n dL_act_70 rfl ?_
    refine VW.iconst dL_act_71 ?_
    refine VW.iaload dL_act_72 (hl.1 273 (by decide)) hl.2.1 (by omega) (by omega) (by decide) ?_
    rw [show μ 273 (0 : Int).toNat = (xs.length : Int) from hL.1]
    refine VW.iconst dL_act_73 ?_
    refine VW.isub dL_act_74 ?_
    refine VW.iaload dL_act_75 (hl.1 274 (by decide)) hl.2.2.1 (by omega) (by omega) (by decide) ?_
    have e1 : μ 274 ((xs.length : Int) - 1).toNat = lastOf xs := (hL.2.2.2.2.1 ((xs.length : Int) - 1) ⟨by omega, by omega⟩).trans (if_neg (by omega)).symm
    rw [e1]
    refine VW.istore (lv' := [(0, _), (1, _), (2, _), (3, _), (4, _), (5, _), (6, _), (7, _), (8, _), (9, _), (10, _), (11, _), (12, _), (13, _), (14, _)]) dL_act_76 (by decide) rfl ?_
    refine VW.aload_n dL_act_78 rfl ?_
    refine VW.iconst dL_act_79 ?_
    refine VW.iaload dL_act_80 (hl.1 273 (by decide)) hl.2.1 (by omega) (by omega) (by decide) ?_
    rw [show μ 273 (0 : Int).toNat = (xs.length : Int) from hL.1]
    refine VW.if_ne 88 ⟨by omega, by omega⟩ dL_act_81 (by decide) (fun c81 => ?_) (fun c81 => ?_)
    · refine VW.aload dL_act_88 rfl ?_
      refine VW.aload_n dL_act_90 rfl ?_
      refine VW.iconst dL_act_91 ?_
      refine VW.iaload dL_act_92 (hl.1 273 (by decide)) hl.2.1 (by omega) (by omega) (by decide) ?_
      rw [show μ 273 (0 : Int).toNat = (xs.length : Int) from hL.1]
      refine VW.iconst dL_act_93 ?_
      refine VW.isub dL_act_94 ?_
      refine VW.iaload dL_act_95 (hl.1 275 (by decide)) hl.2.2.2.1 (by omega) (by omega) (by decide) ?_
      have e2 : μ 275 ((xs.length : Int) - 1).toNat = lastOf ys := (hL.2.2.2.2.2.1 ((xs.length : Int) - 1) ⟨by omega, by omega⟩).trans (by rw [← ok1]; exact (if_neg (by omega)).symm)
      rw [e2]
      refine VW.istore (lv' := [(0, _), (1, _), (2, _), (3, _), (4, _), (5, _), (6, _), (7, _), (8, _), (9, _), (10, _), (11, _), (12, _), (13, _), (14, _), (15, _)]) dL_act_96 (by decide) rfl ?_
      obtain ⟨g, hg9⟩ : ∃ g : Nat, (g : Int) = goN xs ys e (1 + r1) := ⟨(goN xs ys e (1 + r1)).toNat, by
        have bx := stepW_b (dx := tbo 3 e) (last_b ok3)
        have b5 := stepW_b (dx := tbo 4 e) (last_b ok4)
        have hgn : goN xs ys e (1 + r1) = min (1 + r1) (min (stepsW (lastOf xs) (tbo 3 e)) (stepsW (lastOf ys) (tbo 4 e))) := rfl
        omega⟩
      have key := lp_gs (G := G) (l := l) hst hg hl ht hI hN hk hm hsh (x := x) (act := act) (y := y) (w := 1 + r1) he ⟨by omega, by omega⟩ (fun j hj => by rw [hj, ← hg9]; exact act_go2 (G := G) (l := l) hst hg hl ht hI hN hk hm hsh he ⟨by omega, by omega⟩ hg9) g 0 (by omega) (by omega)
      exact key
    · refine VW.iconst dL_act_84 ?_
      refine VW.goto 96 dL_act_85 (by decide) ?_
      have e2 : lastOf ys = 0 := if_pos (by omega)
      refine VW.istore (lv' := [(0, _), (1, _), (2, _), (3, _), (4, _), (5, _), (6, _), (7, _), (8, _), (9, _), (10, _), (11, _), (12, _), (13, _), (14, _), (15, _)]) dL_act_96 (by decide) rfl ?_
      obtain ⟨g, hg9⟩ : ∃ g : Nat, (g : Int) = goN xs ys e (1 + r1) := ⟨(goN xs ys e (1 + r1)).toNat, by
        have bx := stepW_b (dx := tbo 3 e) (last_b ok3)
        have b5 := stepW_b (dx := tbo 4 e) (last_b ok4)
        have hgn : goN xs ys e (1 + r1) = min (1 + r1) (min (stepsW (lastOf xs) (tbo 3 e)) (stepsW (lastOf ys) (tbo 4 e))) := rfl
        omega⟩
      have key := lp_gs (G := G) (l := l) hst hg hl ht hI hN hk hm hsh (x := x) (act := act) (y := y) (w := 1 + r1) he ⟨by omega, by omega⟩ (fun j hj => by rw [hj, ← hg9]; exact act_go2 (G := G) (l := l) hst hg hl ht hI hN hk hm hsh he ⟨by omega, by omega⟩ hg9) g 0 (by omega) (by omega)
      rw [e2] at key
      exact key
  · refine VW.iconst dL_act_64 ?_
    refine VW.goto 76 dL_act_65 (by decide) ?_
    have e1 : lastOf xs = 0 := if_pos (by omega)
    refine VW.istore (lv' := [(0, _), (1, _), (2, _), (3, _), (4, _), (5, _), (6, _), (7, _), (8, _), (9, _), (10, _), (11, _), (12, _), (13, _), (14, _)]) dL_act_76 (by decide) rfl ?_
    refine VW.aload_n dL_act_78 rfl ?_
    refine VW.iconst dL_act_79 ?_
    refine VW.iaload dL_act_80 (hl.1 273 (by decide)) hl.2.1 (by omega) (by omega) (by decide) ?_
    rw [show μ 273 (0 : Int).toNat = (xs.length : Int) from hL.1]
    refine VW.if_ne 88 ⟨by omega, by omega⟩ dL_act_81 (by decide) (fun c81 => ?_) (fun c81 => ?_)
    · refine VW.aload dL_act_88 rfl ?_
      refine VW.aload_n dL_act_90 rfl ?_
      refine VW.iconst dL_act_91 ?_
      refine VW.iaload dL_act_92 (hl.1 273 (by decide)) hl.2.1 (by omega) (by omega) (by decide) ?_
      rw [show μ 273 (0 : Int).toNat = (xs.length : Int) from hL.1]
      refine VW.iconst dL_act_93 ?_
      refine VW.isub dL_act_94 ?_
      refine VW.iaload dL_act_95 (hl.1 275 (by decide)) hl.2.2.2.1 (by omega) (by omega) (by decide) ?_
      have e2 : μ 275 ((xs.length : Int) - 1).toNat = lastOf ys := (hL.2.2.2.2.2.1 ((xs.length : Int) - 1) ⟨by omega, by omega⟩).trans (by rw [← ok1]; exact (if_neg (by omega)).symm)
      rw [e2]
      refine VW.istore (lv' := [(0, _), (1, _), (2, _), (3, _), (4, _), (5, _), (6, _), (7, _), (8, _), (9, _), (10, _), (11, _), (12, _), (13, _), (14, _), (15, _)]) dL_act_96 (by decide) rfl ?_
      obtain ⟨g, hg9⟩ : ∃ g : Nat, (g : Int) = goN xs ys e (1 + r1) := ⟨(goN xs ys e (1 + r1)).toNat, by
        have bx := stepW_b (dx := tbo 3 e) (last_b ok3)
        have b5 := stepW_b (dx := tbo 4 e) (last_b ok4)
        have hgn : goN xs ys e (1 + r1) = min (1 + r1) (min (stepsW (lastOf xs) (tbo 3 e)) (stepsW (lastOf ys) (tbo 4 e))) := rfl
        omega⟩
      have key := lp_gs (G := G) (l := l) hst hg hl ht hI hN hk hm hsh (x := x) (act := act) (y := y) (w := 1 + r1) he ⟨by omega, by omega⟩ (fun j hj => by rw [hj, ← hg9]; exact act_go2 (G := G) (l := l) hst hg hl ht hI hN hk hm hsh he ⟨by omega, by omega⟩ hg9) g 0 (by omega) (by omega)
      rw [e1] at key
      exact key
    · refine VW.iconst dL_act_84 ?_
      refine VW.goto 96 dL_act_85 (by decide) ?_
      have e2 : lastOf ys = 0 := if_pos (by omega)
      refine VW.istore (lv' := [(0, _), (1, _), (2, _), (3, _), (4, _), (5, _), (6, _), (7, _), (8, _), (9, _), (10, _), (11, _), (12, _), (13, _), (14, _), (15, _)]) dL_act_96 (by decide) rfl ?_
      obtain ⟨g, hg9⟩ : ∃ g : Nat, (g : Int) = goN xs ys e (1 + r1) := ⟨(goN xs ys e (1 + r1)).toNat, by
        have bx := stepW_b (dx := tbo 3 e) (last_b ok3)
        have b5 := stepW_b (dx := tbo 4 e) (last_b ok4)
        have hgn : goN xs ys e (1 + r1) = min (1 + r1) (min (stepsW (lastOf xs) (tbo 3 e)) (stepsW (lastOf ys) (tbo 4 e))) := rfl
        omega⟩
      have key := lp_gs (G := G) (l := l) hst hg hl ht hI hN hk hm hsh (x := x) (act := act) (y := y) (w := 1 + r1) he ⟨by omega, by omega⟩ (fun j hj => by rw [hj, ← hg9]; exact act_go2 (G := G) (l := l) hst hg hl ht hI hN hk hm hsh he ⟨by omega, by omega⟩ hg9) g 0 (by omega) (by omega)
      rw [e1] at key
      rw [e2] at key
      exact key
end PAC
