/-! ===== the law ===== -/
theorem and31 {z : Int} (h : R32 z) : Int32.ofInt z &&& Int32.ofInt 31 = Int32.ofInt (z % 32) := by
  apply Int32.toBitVec_inj.mp
  rw [Int32.toBitVec_and]
  show BitVec.ofInt 32 z &&& BitVec.ofInt 32 31 = BitVec.ofInt 32 (z % 32)
  apply BitVec.eq_of_toNat_eq
  rw [BitVec.toNat_and, BitVec.toNat_ofInt, BitVec.toNat_ofInt, BitVec.toNat_ofInt]
  show (z % 4294967296).toNat &&& 31 = ((z % 32) % 4294967296).toNat
  rw [show (31 : Nat) = 2 ^ 5 - 1 from rfl, Nat.and_two_pow_sub_one_eq_mod]
  show (z % 4294967296).toNat % 32 = _
  omega
section PLAW
variable {G : GT} {l : Launch} {N : Nat} {sh : Nat → ShT} {μ μ' : Mem}
theorem VW.hx {z : Option Nat} {M M' : MD} {pc idx : Nat} {lv : List (Nat × Value)} {rest st av : List Value} {k n : Nat} {Φ : RT → Prop} {Ψ : Int → Mem → Prop} (cf : CfH M M' idx av.length) (hd : decode (mC M) pc = .ok (.invokestatic idx, 3)) (hst : st = av.reverse ++ rest) (hrest : (rest.map fun v => v.category).sum ≤ 8)
    (h : Hx G l N sh M' av μ Ψ) (kk : ∀ a μ' c s, c ≤ 1 → s ≤ 6 → Ψ a μ' → VW G l z M (pc + 3) lv (vI a :: rest) (N, sh, μ') (k + c) (n + s) Φ) : VW G l z M pc lv st (N, sh, μ) k n Φ := by
  obtain ⟨r, hr, a, μ', c, s, e, hc, hs, hΨ⟩ := h
  subst e
  exact VW.callH cf hd hst hrest ⟨_, hr, some (vI a), rfl, kk a μ' c s hc hs hΨ⟩
theorem hasA0_low (h : hasA μ (mk [] [] [] S0 [] [])) (g : ∀ i, i < 273 → μ' i = μ i) : hasA μ' (mk [] [] [] S0 [] []) := by
  obtain ⟨⟨hP, hC, hS, hZ, hB, tx, ty, hT⟩, v1, v2, v3, v4, v5, v6, v7⟩ := h
  refine ⟨⟨⟨hP.1.agm (g _ (by omega)) (g _ (by omega)), hP.2.1.agm (g _ (by omega)) (g _ (by omega)), hP.2.2⟩, ⟨hC.1.agm (fun x h1 h2 => g x (by omega)), by rw [g 7 (by omega)]; exact hC.2.1, hC.2.2.1, fun i hi => absurd hi (by simp)⟩, hS.agm (g _ (by omega)) (g _ (by omega)), ⟨fun j hj => (hZ.1 j hj).agm (fun x h1 h2 => g x (by omega)), by rw [g 33 (by omega)]; exact hZ.2.1, by rw [g 33 (by omega)]; exact hZ.2.2.1, hZ.2.2.2.1, fun k hk => absurd hk (by simp)⟩, hB.agm (g _ (by omega)) (g _ (by omega)), tx, ty, ⟨hT.1.agm (g _ (by omega)) (g _ (by omega)), hT.2.1.agm (g _ (by omega)) (g _ (by omega)), hT.2.2⟩⟩, v1.agm (g _ (by omega)) (g _ (by omega)), v2.agm (g _ (by omega)) (g _ (by omega)), v3.agm (g _ (by omega)) (g _ (by omega)), v4.agm (g _ (by omega)) (g _ (by omega)), by rw [g 229 (by omega)]; exact v5, v6.agm (g _ (by omega)) (g _ (by omega)), v7.agm (g _ (by omega)) (g _ (by omega))⟩
theorem okA0 : okA (mk [] [] [] S0 [] []) := ⟨⟨⟨rfl, by simp, (by intro x hx; cases hx), (by intro x hx; cases hx)⟩, ⟨by simp, (by intro x hx; cases hx), List.nodup_nil⟩, rfl, by decide, by decide, by decide, by decide, by decide⟩, ⟨by simp, (by intro x hx; cases hx)⟩, by simp, (by intro x hx; cases hx)⟩
def lwF : RT → Prop := fun r => ∃ w c s, r = (.inl (some (vI 1)), w, c, s) ∧ c ≤ 5000 ∧ s ≤ 50000
theorem lp_law (hst : l.stackTraces = false) (hn : gXn G ≤ 1536) (hX : ∀ j, R32 (gXv G j)) (hg : isG 286 sh) (hm : isM 286 sh) (h285 : sh 285 = sL 1) : ∀ (n : Nat) (i : Int) (k m : Nat) (μ : Mem) (A : AS), 0 ≤ i → i ≤ gXn G → (gXn G : Int) ≤ i + n → (k : Int) ≤ 286 + i → (m : Int) ≤ 3721 + 6 * i → hasA μ A → hasMA μ A → okA A → VW G l (some 0) M_L_law 23 [(0, .ref (gXb G)), (1, .ref (gB G + 0)), (2, .ref (gB G + 273)), (3, .ref (gB G + 285)), (4, vI i)] [] (286, sh, μ) k m lwF := by
  intro n
  induction n with
  | zero =>
    intro i k m μ A hi0 hi1 hi2 hk hmm hA hMA okk
    refine VW.iload dL_law_23 rfl ?_
    refine VW.aload_n dL_law_25 rfl ?_
    refine VW.slen dL_law_26 ?_
    refine VW.iconst dL_law_27 ?_
    refine VW.isub dL_law_28 ?_
    refine VW.icmp_gt 1423 ⟨by omega, by omega⟩ ⟨by omega, by omega⟩ dL_law_29 (by decide) (fun c29 => ?_) (fun c29 => by omega)
    refine VW.iconst dL_law_1423 ?_
    refine VW.ireturn dL_law_1424 rfl rfl ?_
    exact ⟨_, _, _, rfl, by omega, by omega⟩
  | succ n ih =>
    intro i k m μ A hi0 hi1 hi2 hk hmm hA hMA okk
    obtain ⟨⟨⟨xs, ys⟩, C, S⟩, Z, B⟩ := A
    have hG : hasG μ xs ys C S Z B := hA
    have hM : hasM μ xs ys C S Z B := hMA
    refine VW.iload dL_law_23 rfl ?_
    refine VW.aload_n dL_law_25 rfl ?_
    refine VW.slen dL_law_26 ?_
    refine VW.iconst dL_law_27 ?_
    refine VW.isub dL_law_28 ?_
    refine VW.icmp_gt 1423 ⟨by omega, by omega⟩ ⟨by omega, by omega⟩ dL_law_29 (by decide) (fun c29 => ?_) (fun c29 => ?_)
    · refine VW.iconst dL_law_1423 ?_
      refine VW.ireturn dL_law_1424 rfl rfl ?_
      exact ⟨_, _, _, rfl, by omega, by omega⟩
    · refine VW.aload_n dL_law_32 rfl ?_
      refine VW.iload dL_law_33 rfl ?_
      refine VW.sload dL_law_35 (by omega) (by omega) (by omega) ?_
      refine VW.bipush dL_law_36 rfl ?_
      refine VW.iand (x := (gXv G i.toNat % 32)) dL_law_38 (and31 (hX _)) ?_
      by_cases hsw : 0 ≤ (gXv G i.toNat % 32) ∧ (gXv G i.toNat % 32) ≤ 26
      · have hcs : (gXv G i.toNat % 32) = 0 ∨ (gXv G i.toNat % 32) = 1 ∨ (gXv G i.toNat % 32) = 2 ∨ (gXv G i.toNat % 32) = 3 ∨ (gXv G i.toNat % 32) = 4 ∨ (gXv G i.toNat % 32) = 5 ∨ (gXv G i.toNat % 32) = 6 ∨ (gXv G i.toNat % 32) = 7 ∨ (gXv G i.toNat % 32) = 8 ∨ (gXv G i.toNat % 32) = 9 ∨ (gXv G i.toNat % 32) = 10 ∨ (gXv G i.toNat % 32) = 11 ∨ (gXv G i.toNat % 32) = 12 ∨ (gXv G i.toNat % 32) = 13 ∨ (gXv G i.toNat % 32) = 14 ∨ (gXv G i.toNat % 32) = 15 ∨ (gXv G i.toNat % 32) = 16 ∨ (gXv G i.toNat % 32) = 17 ∨ (gXv G i.toNat % 32) = 18 ∨ (gXv G i.toNat % 32) = 19 ∨ (gXv G i.toNat % 32) = 20 ∨ (gXv G i.toNat % 32) = 21 ∨ (gXv G i.toNat % 32) = 22 ∨ (gXv G i.toNat % 32) = 23 ∨ (gXv G i.toNat % 32) = 24 ∨ (gXv G i.toNat % 32) = 25 ∨ (gXv G i.toNat % 32) = 26 := by omega
        rcases hcs with hcv | hcv | hcv | hcv | hcv | hcv | hcv | hcv | hcv | hcv | hcv | hcv | hcv | hcv | hcv | hcv | hcv | hcv | hcv | hcv | hcv | hcv | hcv | hcv | hcv | hcv | hcv
        · refine VW.tswIn 160 ⟨by omega, by omega⟩ dL_law_39 (by omega) (by omega) (by rw [hcv]; rfl) (by decide) ?_
          refine VW.aload_n dL_law_160 rfl ?_
          refine VW.aload_n dL_law_161 rfl ?_
          refine VW.iload dL_law_162 rfl ?_
          refine VW.iconst dL_law_164 ?_
          refine VW.iadd dL_law_165 ?_
          refine VW.sload dL_law_166 (by omega) (by omega) (by omega) ?_
          refine VW.aload_n dL_law_167 rfl ?_
          refine VW.iload dL_law_168 rfl ?_
          refine VW.iconst dL_law_170 ?_
          refine VW.iadd dL_law_171 ?_
          refine VW.sload dL_law_172 (by omega) (by omega) (by omega) ?_
          refine VW.aload_n dL_law_173 rfl ?_
          have hkk : (opPoint xs ys C S Z B (gXv G (i + 1).toNat) (gXv G (i + 2).toNat)).1.1 = 0 ∨ (opPoint xs ys C S Z B (gXv G (i + 1).toNat) (gXv G (i + 2).toNat)).1.1 = 1 ∨ (opPoint xs ys C S Z B (gXv G (i + 1).toNat) (gXv G (i + 2).toNat)).1.1 = 2 := kk_point
          refine VW.hx (av := [.ref (gB G + 0), vI (gXv G (i + 1).toNat), vI (gXv G (i + 2).toNat), .ref (gB G + 285)]) ch_L_law_L_point dL_law_174 rfl (Nat.le_of_ble_eq_true rfl) (l_point hst ⟨by omega, hg.2.1⟩ ⟨by omega, h285⟩ (g_point hst hg hG okk (hX _) (hX _)) hkk) (fun a1 μ1 c1 s1 hc1 hs1 h1 => ?_)
          obtain ⟨rfl, ho1, hA1, hf1⟩ := h1
          have hM1 := hM.same hf1
          refine VW.istore (lv' := [(0, _), (1, _), (2, _), (3, _), (4, _), (5, _)]) dL_law_177 (by decide) rfl ?_
          refine VW.aload_n dL_law_179 rfl ?_
          refine VW.aload_n dL_law_180 rfl ?_
          refine VW.iload dL_law_181 rfl ?_
          refine VW.iconst dL_law_183 ?_
          refine VW.iadd dL_law_184 ?_
          refine VW.sload dL_law_185 (by omega) (by omega) (by omega) ?_
          refine VW.aload_n dL_law_186 rfl ?_
          refine VW.iload dL_law_187 rfl ?_
          refine VW.iconst dL_law_189 ?_
          refine VW.iadd dL_law_190 ?_
          refine VW.sload dL_law_191 (by omega) (by omega) (by omega) ?_
          refine VW.fiV2 cv_L_law_X8_point dL_law_192 (Nat.le_of_ble_eq_true rfl) (by omega) hm.2.1 (t_point hst hm hM1 okk (hX _) (hX _)) (fun r2 μ2 h2 => ?_)
          obtain ⟨rfl, h5, hM2, hf2⟩ := h2
          have hA2 : hasA μ2 (opPoint xs ys C S Z B (gXv G (i + 1).toNat) (gXv G (i + 2).toNat)).2 := hA1.keep (frK_frm hf2 (by decide)) (by omega)
          have ok2 : okA (opPoint xs ys C S Z B (gXv G (i + 1).toNat) (gXv G (i + 2).toNat)).2 := okA_point okk _ _
          refine VW.istore (lv' := [(0, _), (1, _), (2, _), (3, _), (4, _), (5, _), (6, _)]) dL_law_195 (by decide) rfl ?_
          refine VW.aload_n dL_law_197 rfl ?_
          refine VW.pV0 cv_L_law_X8_thrown dL_law_198 (Nat.le_of_ble_eq_true rfl) (by omega) hm.2.1 (t_thrown hst hm) ?_
          rw [h5]
          refine VW.iload dL_law_201 rfl ?_
          refine VW.icmp_eqS 208 dL_law_203 (by decide) ?_
          refine VW.iload dL_law_208 rfl ?_
          refine VW.if_ne 225 ⟨by omega, by omega⟩ dL_law_210 (by decide) (fun c210 => ?_) (fun c210 => ?_)
          · refine VW.goto 1417 dL_law_225 (by decide) ?_
            refine VW.iinc (lv' := [(0, _), (1, _), (2, _), (3, _), (4, _), (5, _), (6, _)]) dL_law_1417 rfl (by decide) rfl ?_
            refine VW.goto 23 dL_law_1420 (by decide) ?_
            refine VW.sub ?_ [0, 1, 2, 3, 4] rfl
            first
            | exact ih (i + 3) _ _ _ _ (by omega) (by omega) (by omega) (by omega) (by omega) hA2 hM2 ok2
            | exact ih (i + 3) _ _ _ _ (by omega) (by omega) (by omega) (by omega) (by omega) hA hMA okk
          · refine VW.aload_n dL_law_213 rfl ?_
            refine VW.iconst dL_law_214 ?_
            refine VW.laload dL_law_215 (by omega) h285 (by omega) (by omega) (by decide) ?_
            rw [show μ2 285 (0 : Int).toNat = w32 (opPoint xs ys C S Z B (gXv G (i + 1).toNat) (gXv G (i + 2).toNat)).1.2 from (congrFun (hf2.1 285 (by decide) (by decide)) 0).trans (ho1 c210)]
            refine VW.iload dL_law_216 rfl ?_
            rw [if_pos c210]
            refine VW.i2lw dL_law_218 ?_
            refine VW.lcmpS dL_law_219 ?_
            refine VW.if_eq 225 (by decide) dL_law_220 (by decide) (fun _ => ?_) (fun c220 => absurd c220 (by decide))
            refine VW.goto 1417 dL_law_225 (by decide) ?_
            refine VW.iinc (lv' := [(0, _), (1, _), (2, _), (3, _), (4, _), (5, _), (6, _)]) dL_law_1417 rfl (by decide) rfl ?_
            refine VW.goto 23 dL_law_1420 (by decide) ?_
            refine VW.sub ?_ [0, 1, 2, 3, 4] rfl
            first
            | exact ih (i + 3) _ _ _ _ (by omega) (by omega) (by omega) (by omega) (by omega) hA2 hM2 ok2
            | exact ih (i + 3) _ _ _ _ (by omega) (by omega) (by omega) (by omega) (by omega) hA hMA okk
        · refine VW.tswIn 228 ⟨by omega, by omega⟩ dL_law_39 (by omega) (by omega) (by rw [hcv]; rfl) (by decide) ?_
          refine VW.aload_n dL_law_228 rfl ?_
          refine VW.aload_n dL_law_229 rfl ?_
          refine VW.iload dL_law_230 rfl ?_
          refine VW.iconst dL_law_232 ?_
          refine VW.iadd dL_law_233 ?_
          refine VW.sload dL_law_234 (by omega) (by omega) (by omega) ?_
          refine VW.aload_n dL_law_235 rfl ?_
          refine VW.iload dL_law_236 rfl ?_
          refine VW.iconst dL_law_238 ?_
          refine VW.iadd dL_law_239 ?_
          refine VW.sload dL_law_240 (by omega) (by omega) (by omega) ?_
          refine VW.aload_n dL_law_241 rfl ?_
          have hkk : (opGo xs ys C S Z B (gXv G (i + 1).toNat) (gXv G (i + 2).toNat)).1.1 = 0 ∨ (opGo xs ys C S Z B (gXv G (i + 1).toNat) (gXv G (i + 2).toNat)).1.1 = 1 ∨ (opGo xs ys C S Z B (gXv G (i + 1).toNat) (gXv G (i + 2).toNat)).1.1 = 2 := kk_go
          refine VW.hx (av := [.ref (gB G + 0), vI (gXv G (i + 1).toNat), vI (gXv G (i + 2).toNat), .ref (gB G + 285)]) ch_L_law_L_go dL_law_242 rfl (Nat.le_of_ble_eq_true rfl) (l_go hst ⟨by omega, hg.2.1⟩ ⟨by omega, h285⟩ (g_go hst hg hG okk (hX _) (hX _)) hkk) (fun a1 μ1 c1 s1 hc1 hs1 h1 => ?_)
          obtain ⟨rfl, ho1, hA1, hf1⟩ := h1
          have hM1 := hM.same hf1
          refine VW.istore (lv' := [(0, _), (1, _), (2, _), (3, _), (4, _), (5, _)]) dL_law_245 (by decide) rfl ?_
          refine VW.aload_n dL_law_247 rfl ?_
          refine VW.aload_n dL_law_248 rfl ?_
          refine VW.iload dL_law_249 rfl ?_
          refine VW.iconst dL_law_251 ?_
          refine VW.iadd dL_law_252 ?_
          refine VW.sload dL_law_253 (by omega) (by omega) (by omega) ?_
          refine VW.aload_n dL_law_254 rfl ?_
          refine VW.iload dL_law_255 rfl ?_
          refine VW.iconst dL_law_257 ?_
          refine VW.iadd dL_law_258 ?_
          refine VW.sload dL_law_259 (by omega) (by omega) (by omega) ?_
          refine VW.fiV2 cv_L_law_X8_go dL_law_260 (Nat.le_of_ble_eq_true rfl) (by omega) hm.2.1 (t_go hst hm hM1 okk (hX _) (hX _)) (fun r2 μ2 h2 => ?_)
          obtain ⟨rfl, h5, hM2, hf2⟩ := h2
          have hA2 : hasA μ2 (opGo xs ys C S Z B (gXv G (i + 1).toNat) (gXv G (i + 2).toNat)).2 := hA1.keep (frK_frm hf2 (by decide)) (by omega)
          have ok2 : okA (opGo xs ys C S Z B (gXv G (i + 1).toNat) (gXv G (i + 2).toNat)).2 := okA_go okk _ _
          refine VW.istore (lv' := [(0, _), (1, _), (2, _), (3, _), (4, _), (5, _), (6, _)]) dL_law_263 (by decide) rfl ?_
          refine VW.aload_n dL_law_265 rfl ?_
          refine VW.pV0 cv_L_law_X8_thrown dL_law_266 (Nat.le_of_ble_eq_true rfl) (by omega) hm.2.1 (t_thrown hst hm) ?_
          rw [h5]
          refine VW.iload dL_law_269 rfl ?_
          refine VW.icmp_eqS 276 dL_law_271 (by decide) ?_
          refine VW.iload dL_law_276 rfl ?_
          refine VW.if_ne 293 ⟨by omega, by omega⟩ dL_law_278 (by decide) (fun c278 => ?_) (fun c278 => ?_)
          · refine VW.goto 1417 dL_law_293 (by decide) ?_
            refine VW.iinc (lv' := [(0, _), (1, _), (2, _), (3, _), (4, _), (5, _), (6, _)]) dL_law_1417 rfl (by decide) rfl ?_
            refine VW.goto 23 dL_law_1420 (by decide) ?_
            refine VW.sub ?_ [0, 1, 2, 3, 4] rfl
            first
            | exact ih (i + 3) _ _ _ _ (by omega) (by omega) (by omega) (by omega) (by omega) hA2 hM2 ok2
            | exact ih (i + 3) _ _ _ _ (by omega) (by omega) (by omega) (by omega) (by omega) hA hMA okk
          · refine VW.aload_n dL_law_281 rfl ?_
            refine VW.iconst dL_law_282 ?_
            refine VW.laload dL_law_283 (by omega) h285 (by omega) (by omega) (by decide) ?_
            rw [show μ2 285 (0 : Int).toNat = w32 (opGo xs ys C S Z B (gXv G (i + 1).toNat) (gXv G (i + 2).toNat)).1.2 from (congrFun (hf2.1 285 (by decide) (by decide)) 0).trans (ho1 c278)]
            refine VW.iload dL_law_284 rfl ?_
            rw [if_pos c278]
            refine VW.i2lw dL_law_286 ?_
            refine VW.lcmpS dL_law_287 ?_
            refine VW.if_eq 293 (by decide) dL_law_288 (by decide) (fun _ => ?_) (fun c288 => absurd c288 (by decide))
            refine VW.goto 1417 dL_law_293 (by decide) ?_
            refine VW.iinc (lv' := [(0, _), (1, _), (2, _), (3, _), (4, _), (5, _), (6, _)]) dL_law_1417 rfl (by decide) rfl ?_
            refine VW.goto 23 dL_law_1420 (by decide) ?_
            refine VW.sub ?_ [0, 1, 2, 3, 4] rfl
            first
            | exact ih (i + 3) _ _ _ _ (by omega) (by omega) (by omega) (by omega) (by omega) hA2 hM2 ok2
            | exact ih (i + 3) _ _ _ _ (by omega) (by omega) (by omega) (by omega) (by omega) hA hMA okk
        · refine VW.tswIn 296 ⟨by omega, by omega⟩ dL_law_39 (by omega) (by omega) (by rw [hcv]; rfl) (by decide) ?_
          refine VW.aload_n dL_law_296 rfl ?_
          refine VW.aload_n dL_law_297 rfl ?_
          refine VW.iload dL_law_298 rfl ?_
          refine VW.iconst dL_law_300 ?_
          refine VW.iadd dL_law_301 ?_
          refine VW.sload dL_law_302 (by omega) (by omega) (by omega) ?_
          refine VW.aload_n dL_law_303 rfl ?_
          have hkk : (opBack xs ys C S Z B (gXv G (i + 1).toNat)).1.1 = 0 ∨ (opBack xs ys C S Z B (gXv G (i + 1).toNat)).1.1 = 1 := kk_back
          refine VW.hx (av := [.ref (gB G + 0), vI (gXv G (i + 1).toNat), .ref (gB G + 285)]) ch_L_law_L_back dL_law_304 rfl (Nat.le_of_ble_eq_true rfl) (l_back hst ⟨by omega, hg.2.1⟩ ⟨by omega, h285⟩ (g_back hst hg hG okk (hX _)) hkk) (fun a1 μ1 c1 s1 hc1 hs1 h1 => ?_)
          obtain ⟨rfl, ho1, hA1, hf1⟩ := h1
          have hM1 := hM.same hf1
          refine VW.istore (lv' := [(0, _), (1, _), (2, _), (3, _), (4, _), (5, _)]) dL_law_307 (by decide) rfl ?_
          refine VW.aload_n dL_law_309 rfl ?_
          refine VW.aload_n dL_law_310 rfl ?_
          refine VW.iload dL_law_311 rfl ?_
          refine VW.iconst dL_law_313 ?_
          refine VW.iadd dL_law_314 ?_
          refine VW.sload dL_law_315 (by omega) (by omega) (by omega) ?_
          refine VW.fiV1 cv_L_law_X8_back dL_law_316 (Nat.le_of_ble_eq_true rfl) (by omega) hm.2.1 (t_back hst hm hM1 okk (hX _)) (fun r2 μ2 h2 => ?_)
          obtain ⟨rfl, h5, hM2, hf2⟩ := h2
          have hA2 : hasA μ2 (opBack xs ys C S Z B (gXv G (i + 1).toNat)).2 := hA1.keep (frK_frm hf2 (by decide)) (by omega)
          have ok2 : okA (opBack xs ys C S Z B (gXv G (i + 1).toNat)).2 := okA_back okk _
          refine VW.istore (lv' := [(0, _), (1, _), (2, _), (3, _), (4, _), (5, _), (6, _)]) dL_law_319 (by decide) rfl ?_
          refine VW.aload_n dL_law_321 rfl ?_
          refine VW.pV0 cv_L_law_X8_thrown dL_law_322 (Nat.le_of_ble_eq_true rfl) (by omega) hm.2.1 (t_thrown hst hm) ?_
          rw [h5]
          refine VW.iload dL_law_325 rfl ?_
          refine VW.icmp_eqS 332 dL_law_327 (by decide) ?_
          refine VW.iload dL_law_332 rfl ?_
          refine VW.if_ne 349 ⟨by omega, by omega⟩ dL_law_334 (by decide) (fun c334 => ?_) (fun c334 => ?_)
          · refine VW.goto 1417 dL_law_349 (by decide) ?_
            refine VW.iinc (lv' := [(0, _), (1, _), (2, _), (3, _), (4, _), (5, _), (6, _)]) dL_law_1417 rfl (by decide) rfl ?_
            refine VW.goto 23 dL_law_1420 (by decide) ?_
            refine VW.sub ?_ [0, 1, 2, 3, 4] rfl
            first
            | exact ih (i + 3) _ _ _ _ (by omega) (by omega) (by omega) (by omega) (by omega) hA2 hM2 ok2
            | exact ih (i + 3) _ _ _ _ (by omega) (by omega) (by omega) (by omega) (by omega) hA hMA okk
          · refine VW.aload_n dL_law_337 rfl ?_
            refine VW.iconst dL_law_338 ?_
            refine VW.laload dL_law_339 (by omega) h285 (by omega) (by omega) (by decide) ?_
            rw [show μ2 285 (0 : Int).toNat = w32 (opBack xs ys C S Z B (gXv G (i + 1).toNat)).1.2 from (congrFun (hf2.1 285 (by decide) (by decide)) 0).trans (ho1 c334)]
            refine VW.iload dL_law_340 rfl ?_
            rw [if_pos c334]
            refine VW.i2lw dL_law_342 ?_
            refine VW.lcmpS dL_law_343 ?_
            refine VW.if_eq 349 (by decide) dL_law_344 (by decide) (fun _ => ?_) (fun c344 => absurd c344 (by decide))
            refine VW.goto 1417 dL_law_349 (by decide) ?_
            refine VW.iinc (lv' := [(0, _), (1, _), (2, _), (3, _), (4, _), (5, _), (6, _)]) dL_law_1417 rfl (by decide) rfl ?_
            refine VW.goto 23 dL_law_1420 (by decide) ?_
            refine VW.sub ?_ [0, 1, 2, 3, 4] rfl
            first
            | exact ih (i + 3) _ _ _ _ (by omega) (by omega) (by omega) (by omega) (by omega) hA2 hM2 ok2
            | exact ih (i + 3) _ _ _ _ (by omega) (by omega) (by omega) (by omega) (by omega) hA hMA okk
        · refine VW.tswIn 352 ⟨by omega, by omega⟩ dL_law_39 (by omega) (by omega) (by rw [hcv]; rfl) (by decide) ?_
          refine VW.aload_n dL_law_352 rfl ?_
          refine VW.fiV0 cv_L_law_X7_begin dL_law_353 (Nat.le_of_ble_eq_true rfl) (by omega) hg.2.1 (gPo_z (v := (xs.length : Int)) (A := (opBegin xs ys C S Z B).2) rfl (g_begin hst hg hG okk)) (fun r1 μ1 h1 => ?_)
          obtain ⟨rfl, hA1, hf1⟩ := h1
          have hM1 := hM.same (fun i h1 h2 => hf1 i (by omega))
          refine VW.aload_n dL_law_356 rfl ?_
          refine VW.fiV0 cv_L_law_X8_begin dL_law_357 (Nat.le_of_ble_eq_true rfl) (by omega) hm.2.1 (t_begin hst hm hM1 okk) (fun r2 μ2 h2 => ?_)
          obtain ⟨q2, -, hM2, hf2⟩ := h2
          replace q2 : r2 = (xs.length : Int) := q2
          subst q2
          have hA2 : hasA μ2 (opBegin xs ys C S Z B).2 := hA1.keep (frK_frm hf2 (by decide)) (by omega)
          have ok2 : okA (opBegin xs ys C S Z B).2 := okA_begin okk
          refine VW.icmp_eqS 1417 dL_law_360 (by decide) ?_
          refine VW.iinc (lv' := [(0, _), (1, _), (2, _), (3, _), (4, _)]) dL_law_1417 rfl (by decide) rfl ?_
          refine VW.goto 23 dL_law_1420 (by decide) ?_
          refine VW.sub ?_ [0, 1, 2, 3, 4] rfl
          first
          | exact ih (i + 3) _ _ _ _ (by omega) (by omega) (by omega) (by omega) (by omega) hA2 hM2 ok2
          | exact ih (i + 3) _ _ _ _ (by omega) (by omega) (by omega) (by omega) (by omega) hA hMA okk
        · refine VW.tswIn 365 ⟨by omega, by omega⟩ dL_law_39 (by omega) (by omega) (by rw [hcv]; rfl) (by decide) ?_
          refine VW.aload_n dL_law_365 rfl ?_
          refine VW.aload_n dL_law_366 rfl ?_
          refine VW.iload dL_law_367 rfl ?_
          refine VW.iconst dL_law_369 ?_
          refine VW.iadd dL_law_370 ?_
          refine VW.sload dL_law_371 (by omega) (by omega) (by omega) ?_
          refine VW.aload_n dL_law_372 rfl ?_
          have hkk : (opTurn xs ys C S Z B (gXv G (i + 1).toNat)).1.1 = 0 ∨ (opTurn xs ys C S Z B (gXv G (i + 1).toNat)).1.1 = 1 ∨ (opTurn xs ys C S Z B (gXv G (i + 1).toNat)).1.1 = 2 := kk_turn
          refine VW.hx (av := [.ref (gB G + 0), vI (gXv G (i + 1).toNat), .ref (gB G + 285)]) ch_L_law_L_turn dL_law_373 rfl (Nat.le_of_ble_eq_true rfl) (l_turn hst ⟨by omega, hg.2.1⟩ ⟨by omega, h285⟩ (g_turn hst hg hG okk (hX _)) hkk) (fun a1 μ1 c1 s1 hc1 hs1 h1 => ?_)
          obtain ⟨rfl, ho1, hA1, hf1⟩ := h1
          have hM1 := hM.same hf1
          refine VW.istore (lv' := [(0, _), (1, _), (2, _), (3, _), (4, _), (5, _)]) dL_law_376 (by decide) rfl ?_
          refine VW.aload_n dL_law_378 rfl ?_
          refine VW.aload_n dL_law_379 rfl ?_
          refine VW.iload dL_law_380 rfl ?_
          refine VW.iconst dL_law_382 ?_
          refine VW.iadd dL_law_383 ?_
          refine VW.sload dL_law_384 (by omega) (by omega) (by omega) ?_
          refine VW.fiV1 cv_L_law_X8_turn dL_law_385 (Nat.le_of_ble_eq_true rfl) (by omega) hm.2.1 (t_turn hst hm hM1 okk (hX _)) (fun r2 μ2 h2 => ?_)
          obtain ⟨rfl, h5, hM2, hf2⟩ := h2
          have hA2 : hasA μ2 (opTurn xs ys C S Z B (gXv G (i + 1).toNat)).2 := hA1.keep (frK_frm hf2 (by decide)) (by omega)
          have ok2 : okA (opTurn xs ys C S Z B (gXv G (i + 1).toNat)).2 := okA_turn okk _
          refine VW.istore (lv' := [(0, _), (1, _), (2, _), (3, _), (4, _), (5, _), (6, _)]) dL_law_388 (by decide) rfl ?_
          refine VW.aload_n dL_law_390 rfl ?_
          refine VW.pV0 cv_L_law_X8_thrown dL_law_391 (Nat.le_of_ble_eq_true rfl) (by omega) hm.2.1 (t_thrown hst hm) ?_
          rw [h5]
          refine VW.iload dL_law_394 rfl ?_
          refine VW.icmp_eqS 401 dL_law_396 (by decide) ?_
          refine VW.iload dL_law_401 rfl ?_
          refine VW.if_ne 418 ⟨by omega, by omega⟩ dL_law_403 (by decide) (fun c403 => ?_) (fun c403 => ?_)
          · refine VW.goto 1417 dL_law_418 (by decide) ?_
            refine VW.iinc (lv' := [(0, _), (1, _), (2, _), (3, _), (4, _), (5, _), (6, _)]) dL_law_1417 rfl (by decide) rfl ?_
            refine VW.goto 23 dL_law_1420 (by decide) ?_
            refine VW.sub ?_ [0, 1, 2, 3, 4] rfl
            first
            | exact ih (i + 3) _ _ _ _ (by omega) (by omega) (by omega) (by omega) (by omega) hA2 hM2 ok2
            | exact ih (i + 3) _ _ _ _ (by omega) (by omega) (by omega) (by omega) (by omega) hA hMA okk
          · refine VW.aload_n dL_law_406 rfl ?_
            refine VW.iconst dL_law_407 ?_
            refine VW.laload dL_law_408 (by omega) h285 (by omega) (by omega) (by decide) ?_
            rw [show μ2 285 (0 : Int).toNat = w32 (opTurn xs ys C S Z B (gXv G (i + 1).toNat)).1.2 from (congrFun (hf2.1 285 (by decide) (by decide)) 0).trans (ho1 c403)]
            refine VW.iload dL_law_409 rfl ?_
            rw [if_pos c403]
            refine VW.i2lw dL_law_411 ?_
            refine VW.lcmpS dL_law_412 ?_
            refine VW.if_eq 418 (by decide) dL_law_413 (by decide) (fun _ => ?_) (fun c413 => absurd c413 (by decide))
            refine VW.goto 1417 dL_law_418 (by decide) ?_
            refine VW.iinc (lv' := [(0, _), (1, _), (2, _), (3, _), (4, _), (5, _), (6, _)]) dL_law_1417 rfl (by decide) rfl ?_
            refine VW.goto 23 dL_law_1420 (by decide) ?_
            refine VW.sub ?_ [0, 1, 2, 3, 4] rfl
            first
            | exact ih (i + 3) _ _ _ _ (by omega) (by omega) (by omega) (by omega) (by omega) hA2 hM2 ok2
            | exact ih (i + 3) _ _ _ _ (by omega) (by omega) (by omega) (by omega) (by omega) hA hMA okk
        · refine VW.tswIn 421 ⟨by omega, by omega⟩ dL_law_39 (by omega) (by omega) (by rw [hcv]; rfl) (by decide) ?_
          refine VW.aload_n dL_law_421 rfl ?_
          refine VW.aload_n dL_law_422 rfl ?_
          have hkk : (opLearn xs ys C S Z B).1.1 = 0 ∨ (opLearn xs ys C S Z B).1.1 = 1 := kk_learn
          refine VW.hx (av := [.ref (gB G + 0), .ref (gB G + 285)]) ch_L_law_L_learn dL_law_423 rfl (Nat.le_of_ble_eq_true rfl) (l_learn hst ⟨by omega, hg.2.1⟩ ⟨by omega, h285⟩ (g_learn hst hg hG okk ) hkk) (fun a1 μ1 c1 s1 hc1 hs1 h1 => ?_)
          obtain ⟨rfl, ho1, hA1, hf1⟩ := h1
          have hM1 := hM.same hf1
          refine VW.istore (lv' := [(0, _), (1, _), (2, _), (3, _), (4, _), (5, _)]) dL_law_426 (by decide) rfl ?_
          refine VW.aload_n dL_law_428 rfl ?_
          refine VW.fiV0 cv_L_law_X8_learn dL_law_429 (Nat.le_of_ble_eq_true rfl) (by omega) hm.2.1 (t_learn hst hm hM1 okk ) (fun r2 μ2 h2 => ?_)
          obtain ⟨rfl, h5, hM2, hf2⟩ := h2
          have hA2 : hasA μ2 (opLearn xs ys C S Z B).2 := hA1.keep (frK_frm hf2 (by decide)) (by omega)
          have ok2 : okA (opLearn xs ys C S Z B).2 := okA_learn okk
          refine VW.istore (lv' := [(0, _), (1, _), (2, _), (3, _), (4, _), (5, _), (6, _)]) dL_law_432 (by decide) rfl ?_
          refine VW.aload_n dL_law_434 rfl ?_
          refine VW.pV0 cv_L_law_X8_thrown dL_law_435 (Nat.le_of_ble_eq_true rfl) (by omega) hm.2.1 (t_thrown hst hm) ?_
          rw [h5]
          refine VW.iload dL_law_438 rfl ?_
          refine VW.icmp_eqS 445 dL_law_440 (by decide) ?_
          refine VW.iload dL_law_445 rfl ?_
          refine VW.if_ne 462 ⟨by omega, by omega⟩ dL_law_447 (by decide) (fun c447 => ?_) (fun c447 => ?_)
          · refine VW.goto 1417 dL_law_462 (by decide) ?_
            refine VW.iinc (lv' := [(0, _), (1, _), (2, _), (3, _), (4, _), (5, _), (6, _)]) dL_law_1417 rfl (by decide) rfl ?_
            refine VW.goto 23 dL_law_1420 (by decide) ?_
            refine VW.sub ?_ [0, 1, 2, 3, 4] rfl
            first
            | exact ih (i + 3) _ _ _ _ (by omega) (by omega) (by omega) (by omega) (by omega) hA2 hM2 ok2
            | exact ih (i + 3) _ _ _ _ (by omega) (by omega) (by omega) (by omega) (by omega) hA hMA okk
          · refine VW.aload_n dL_law_450 rfl ?_
            refine VW.iconst dL_law_451 ?_
            refine VW.laload dL_law_452 (by omega) h285 (by omega) (by omega) (by decide) ?_
            rw [show μ2 285 (0 : Int).toNat = w32 (opLearn xs ys C S Z B).1.2 from (congrFun (hf2.1 285 (by decide) (by decide)) 0).trans (ho1 c447)]
            refine VW.iload dL_law_453 rfl ?_
            rw [if_pos c447]
            refine VW.i2lw dL_law_455 ?_
            refine VW.lcmpS dL_law_456 ?_
            refine VW.if_eq 462 (by decide) dL_law_457 (by decide) (fun _ => ?_) (fun c457 => absurd c457 (by decide))
            refine VW.goto 1417 dL_law_462 (by decide) ?_
            refine VW.iinc (lv' := [(0, _), (1, _), (2, _), (3, _), (4, _), (5, _), (6, _)]) dL_law_1417 rfl (by decide) rfl ?_
            refine VW.goto 23 dL_law_1420 (by decide) ?_
            refine VW.sub ?_ [0, 1, 2, 3, 4] rfl
            first
            | exact ih (i + 3) _ _ _ _ (by omega) (by omega) (by omega) (by omega) (by omega) hA2 hM2 ok2
            | exact ih (i + 3) _ _ _ _ (by omega) (by omega) (by omega) (by omega) (by omega) hA hMA okk
        · refine VW.tswIn 465 ⟨by omega, by omega⟩ dL_law_39 (by omega) (by omega) (by rw [hcv]; rfl) (by decide) ?_
          refine VW.aload_n dL_law_465 rfl ?_
          refine VW.aload_n dL_law_466 rfl ?_
          have hkk : (opRead xs ys C S Z B).1.1 = 0 ∨ (opRead xs ys C S Z B).1.1 = 1 ∨ (opRead xs ys C S Z B).1.1 = 2 := kk_read
          refine VW.hx (av := [.ref (gB G + 0), .ref (gB G + 285)]) ch_L_law_L_read dL_law_467 rfl (Nat.le_of_ble_eq_true rfl) (l_read hst ⟨by omega, hg.2.1⟩ ⟨by omega, h285⟩ (g_read hst hg hG okk ) hkk) (fun a1 μ1 c1 s1 hc1 hs1 h1 => ?_)
          obtain ⟨rfl, ho1, hA1, hf1⟩ := h1
          have hM1 := hM.same hf1
          refine VW.istore (lv' := [(0, _), (1, _), (2, _), (3, _), (4, _), (5, _)]) dL_law_470 (by decide) rfl ?_
          refine VW.aload_n dL_law_472 rfl ?_
          refine VW.fiV0 cv_L_law_X8_read dL_law_473 (Nat.le_of_ble_eq_true rfl) (by omega) hm.2.1 (t_read hst hm hM1 okk ) (fun r2 μ2 h2 => ?_)
          obtain ⟨rfl, h5, hM2, hf2⟩ := h2
          have hA2 : hasA μ2 (opRead xs ys C S Z B).2 := hA1.keep (frK_frm hf2 (by decide)) (by omega)
          have ok2 : okA (opRead xs ys C S Z B).2 := okA_read okk
          refine VW.istore (lv' := [(0, _), (1, _), (2, _), (3, _), (4, _), (5, _), (6, _)]) dL_law_476 (by decide) rfl ?_
          refine VW.aload_n dL_law_478 rfl ?_
          refine VW.pV0 cv_L_law_X8_thrown dL_law_479 (Nat.le_of_ble_eq_true rfl) (by omega) hm.2.1 (t_thrown hst hm) ?_
          rw [h5]
          refine VW.iload dL_law_482 rfl ?_
          refine VW.icmp_eqS 489 dL_law_484 (by decide) ?_
          refine VW.iload dL_law_489 rfl ?_
          refine VW.if_ne 506 ⟨by omega, by omega⟩ dL_law_491 (by decide) (fun c491 => ?_) (fun c491 => ?_)
          · refine VW.goto 1417 dL_law_506 (by decide) ?_
            refine VW.iinc (lv' := [(0, _), (1, _), (2, _), (3, _), (4, _), (5, _), (6, _)]) dL_law_1417 rfl (by decide) rfl ?_
            refine VW.goto 23 dL_law_1420 (by decide) ?_
            refine VW.sub ?_ [0, 1, 2, 3, 4] rfl
            first
            | exact ih (i + 3) _ _ _ _ (by omega) (by omega) (by omega) (by omega) (by omega) hA2 hM2 ok2
            | exact ih (i + 3) _ _ _ _ (by omega) (by omega) (by omega) (by omega) (by omega) hA hMA okk
          · refine VW.aload_n dL_law_494 rfl ?_
            refine VW.iconst dL_law_495 ?_
            refine VW.laload dL_law_496 (by omega) h285 (by omega) (by omega) (by decide) ?_
            rw [show μ2 285 (0 : Int).toNat = w32 (opRead xs ys C S Z B).1.2 from (congrFun (hf2.1 285 (by decide) (by decide)) 0).trans (ho1 c491)]
            refine VW.iload dL_law_497 rfl ?_
            rw [if_pos c491]
            refine VW.i2lw dL_law_499 ?_
            refine VW.lcmpS dL_law_500 ?_
            refine VW.if_eq 506 (by decide) dL_law_501 (by decide) (fun _ => ?_) (fun c501 => absurd c501 (by decide))
            refine VW.goto 1417 dL_law_506 (by decide) ?_
            refine VW.iinc (lv' := [(0, _), (1, _), (2, _), (3, _), (4, _), (5, _), (6, _)]) dL_law_1417 rfl (by decide) rfl ?_
            refine VW.goto 23 dL_law_1420 (by decide) ?_
            refine VW.sub ?_ [0, 1, 2, 3, 4] rfl
            first
            | exact ih (i + 3) _ _ _ _ (by omega) (by omega) (by omega) (by omega) (by omega) hA2 hM2 ok2
            | exact ih (i + 3) _ _ _ _ (by omega) (by omega) (by omega) (by omega) (by omega) hA hMA okk
        · refine VW.tswIn 509 ⟨by omega, by omega⟩ dL_law_39 (by omega) (by omega) (by rw [hcv]; rfl) (by decide) ?_
          refine VW.aload_n dL_law_509 rfl ?_
          refine VW.aload_n dL_law_510 rfl ?_
          refine VW.iload dL_law_511 rfl ?_
          refine VW.iconst dL_law_513 ?_
          refine VW.iadd dL_law_514 ?_
          refine VW.sload dL_law_515 (by omega) (by omega) (by omega) ?_
          refine VW.aload_n dL_law_516 rfl ?_
          have hkk : (opForget xs ys C S Z B (gXv G (i + 1).toNat)).1.1 = 0 ∨ (opForget xs ys C S Z B (gXv G (i + 1).toNat)).1.1 = 1 := kk_forget
          refine VW.hx (av := [.ref (gB G + 0), vI (gXv G (i + 1).toNat), .ref (gB G + 285)]) ch_L_law_L_forget dL_law_517 rfl (Nat.le_of_ble_eq_true rfl) (l_forget hst ⟨by omega, hg.2.1⟩ ⟨by omega, h285⟩ (g_forget hst hg hG okk (hX _)) hkk) (fun a1 μ1 c1 s1 hc1 hs1 h1 => ?_)
          obtain ⟨rfl, ho1, hA1, hf1⟩ := h1
          have hM1 := hM.same hf1
          refine VW.istore (lv' := [(0, _), (1, _), (2, _), (3, _), (4, _), (5, _)]) dL_law_520 (by decide) rfl ?_
          refine VW.aload_n dL_law_522 rfl ?_
          refine VW.aload_n dL_law_523 rfl ?_
          refine VW.iload dL_law_524 rfl ?_
          refine VW.iconst dL_law_526 ?_
          refine VW.iadd dL_law_527 ?_
          refine VW.sload dL_law_528 (by omega) (by omega) (by omega) ?_
          refine VW.fiV1 cv_L_law_X8_forget dL_law_529 (Nat.le_of_ble_eq_true rfl) (by omega) hm.2.1 (t_forget hst hm hM1 okk (hX _)) (fun r2 μ2 h2 => ?_)
          obtain ⟨rfl, h5, hM2, hf2⟩ := h2
          have hA2 : hasA μ2 (opForget xs ys C S Z B (gXv G (i + 1).toNat)).2 := hA1.keep (frK_frm hf2 (by decide)) (by omega)
          have ok2 : okA (opForget xs ys C S Z B (gXv G (i + 1).toNat)).2 := okA_forget okk _
          refine VW.istore (lv' := [(0, _), (1, _), (2, _), (3, _), (4, _), (5, _), (6, _)]) dL_law_532 (by decide) rfl ?_
          refine VW.aload_n dL_law_534 rfl ?_
          refine VW.pV0 cv_L_law_X8_thrown dL_law_535 (Nat.le_of_ble_eq_true rfl) (by omega) hm.2.1 (t_thrown hst hm) ?_
          rw [h5]
          refine VW.iload dL_law_538 rfl ?_
          refine VW.icmp_eqS 545 dL_law_540 (by decide) ?_
          refine VW.iload dL_law_545 rfl ?_
          refine VW.if_ne 562 ⟨by omega, by omega⟩ dL_law_547 (by decide) (fun c547 => ?_) (fun c547 => ?_)
          · refine VW.goto 1417 dL_law_562 (by decide) ?_
            refine VW.iinc (lv' := [(0, _), (1, _), (2, _), (3, _), (4, _), (5, _), (6, _)]) dL_law_1417 rfl (by decide) rfl ?_
            refine VW.goto 23 dL_law_1420 (by decide) ?_
            refine VW.sub ?_ [0, 1, 2, 3, 4] rfl
            first
            | exact ih (i + 3) _ _ _ _ (by omega) (by omega) (by omega) (by omega) (by omega) hA2 hM2 ok2
            | exact ih (i + 3) _ _ _ _ (by omega) (by omega) (by omega) (by omega) (by omega) hA hMA okk
          · refine VW.aload_n dL_law_550 rfl ?_
            refine VW.iconst dL_law_551 ?_
            refine VW.laload dL_law_552 (by omega) h285 (by omega) (by omega) (by decide) ?_
            rw [show μ2 285 (0 : Int).toNat = w32 (opForget xs ys C S Z B (gXv G (i + 1).toNat)).1.2 from (congrFun (hf2.1 285 (by decide) (by decide)) 0).trans (ho1 c547)]
            refine VW.iload dL_law_553 rfl ?_
            rw [if_pos c547]
            refine VW.i2lw dL_law_555 ?_
            refine VW.lcmpS dL_law_556 ?_
            refine VW.if_eq 562 (by decide) dL_law_557 (by decide) (fun _ => ?_) (fun c557 => absurd c557 (by decide))
            refine VW.goto 1417 dL_law_562 (by decide) ?_
            refine VW.iinc (lv' := [(0, _), (1, _), (2, _), (3, _), (4, _), (5, _), (6, _)]) dL_law_1417 rfl (by decide) rfl ?_
            refine VW.goto 23 dL_law_1420 (by decide) ?_
            refine VW.sub ?_ [0, 1, 2, 3, 4] rfl
            first
            | exact ih (i + 3) _ _ _ _ (by omega) (by omega) (by omega) (by omega) (by omega) hA2 hM2 ok2
            | exact ih (i + 3) _ _ _ _ (by omega) (by omega) (by omega) (by omega) (by omega) hA hMA okk
        · refine VW.tswIn 565 ⟨by omega, by omega⟩ dL_law_39 (by omega) (by omega) (by rw [hcv]; rfl) (by decide) ?_
          refine VW.aload_n dL_law_565 rfl ?_
          refine VW.aload_n dL_law_566 rfl ?_
          refine VW.iload dL_law_567 rfl ?_
          refine VW.iconst dL_law_569 ?_
          refine VW.iadd dL_law_570 ?_
          refine VW.sload dL_law_571 (by omega) (by omega) (by omega) ?_
          refine VW.aload_n dL_law_572 rfl ?_
          refine VW.iload dL_law_573 rfl ?_
          refine VW.iconst dL_law_575 ?_
          refine VW.iadd dL_law_576 ?_
          refine VW.sload dL_law_577 (by omega) (by omega) (by omega) ?_
          refine VW.aload_n dL_law_578 rfl ?_
          have hkk : (opSet xs ys C S Z B (gXv G (i + 1).toNat) (gXv G (i + 2).toNat)).1.1 = 0 ∨ (opSet xs ys C S Z B (gXv G (i + 1).toNat) (gXv G (i + 2).toNat)).1.1 = 1 ∨ (opSet xs ys C S Z B (gXv G (i + 1).toNat) (gXv G (i + 2).toNat)).1.1 = 2 ∨ (opSet xs ys C S Z B (gXv G (i + 1).toNat) (gXv G (i + 2).toNat)).1.1 = 3 := kk_set
          refine VW.hx (av := [.ref (gB G + 0), vI (gXv G (i + 1).toNat), vI (gXv G (i + 2).toNat), .ref (gB G + 285)]) ch_L_law_L_set dL_law_579 rfl (Nat.le_of_ble_eq_true rfl) (l_set hst ⟨by omega, hg.2.1⟩ ⟨by omega, h285⟩ (g_set hst hg hG okk (hX _) (hX _)) hkk) (fun a1 μ1 c1 s1 hc1 hs1 h1 => ?_)
          obtain ⟨rfl, ho1, hA1, hf1⟩ := h1
          have hM1 := hM.same hf1
          refine VW.istore (lv' := [(0, _), (1, _), (2, _), (3, _), (4, _), (5, _)]) dL_law_582 (by decide) rfl ?_
          refine VW.aload_n dL_law_584 rfl ?_
          refine VW.aload_n dL_law_585 rfl ?_
          refine VW.iload dL_law_586 rfl ?_
          refine VW.iconst dL_law_588 ?_
          refine VW.iadd dL_law_589 ?_
          refine VW.sload dL_law_590 (by omega) (by omega) (by omega) ?_
          refine VW.aload_n dL_law_591 rfl ?_
          refine VW.iload dL_law_592 rfl ?_
          refine VW.iconst dL_law_594 ?_
          refine VW.iadd dL_law_595 ?_
          refine VW.sload dL_law_596 (by omega) (by omega) (by omega) ?_
          refine VW.fiV2 cv_L_law_X8_set dL_law_597 (Nat.le_of_ble_eq_true rfl) (by omega) hm.2.1 (tm_set hst hm hM1 okk (hX _) (hX _)) (fun r2 μ2 h2 => ?_)
          obtain ⟨rfl, h5, hM2, hf2⟩ := h2
          have hA2 : hasA μ2 (opSet xs ys C S Z B (gXv G (i + 1).toNat) (gXv G (i + 2).toNat)).2 := hA1.keep (frK_frm hf2 (by decide)) (by omega)
          have ok2 : okA (opSet xs ys C S Z B (gXv G (i + 1).toNat) (gXv G (i + 2).toNat)).2 := okA_set okk _ _
          refine VW.istore (lv' := [(0, _), (1, _), (2, _), (3, _), (4, _), (5, _), (6, _)]) dL_law_600 (by decide) rfl ?_
          refine VW.aload_n dL_law_602 rfl ?_
          refine VW.pV0 cv_L_law_X8_thrown dL_law_603 (Nat.le_of_ble_eq_true rfl) (by omega) hm.2.1 (t_thrown hst hm) ?_
          rw [h5]
          refine VW.iload dL_law_606 rfl ?_
          refine VW.icmp_eqS 613 dL_law_608 (by decide) ?_
          refine VW.iload dL_law_613 rfl ?_
          refine VW.if_ne 630 ⟨by omega, by omega⟩ dL_law_615 (by decide) (fun c615 => ?_) (fun c615 => ?_)
          · refine VW.goto 1417 dL_law_630 (by decide) ?_
            refine VW.iinc (lv' := [(0, _), (1, _), (2, _), (3, _), (4, _), (5, _), (6, _)]) dL_law_1417 rfl (by decide) rfl ?_
            refine VW.goto 23 dL_law_1420 (by decide) ?_
            refine VW.sub ?_ [0, 1, 2, 3, 4] rfl
            first
            | exact ih (i + 3) _ _ _ _ (by omega) (by omega) (by omega) (by omega) (by omega) hA2 hM2 ok2
            | exact ih (i + 3) _ _ _ _ (by omega) (by omega) (by omega) (by omega) (by omega) hA hMA okk
          · refine VW.aload_n dL_law_618 rfl ?_
            refine VW.iconst dL_law_619 ?_
            refine VW.laload dL_law_620 (by omega) h285 (by omega) (by omega) (by decide) ?_
            rw [show μ2 285 (0 : Int).toNat = w32 (opSet xs ys C S Z B (gXv G (i + 1).toNat) (gXv G (i + 2).toNat)).1.2 from (congrFun (hf2.1 285 (by decide) (by decide)) 0).trans (ho1 c615)]
            refine VW.iload dL_law_621 rfl ?_
            rw [if_pos c615]
            refine VW.i2lw dL_law_623 ?_
            refine VW.lcmpS dL_law_624 ?_
            refine VW.if_eq 630 (by decide) dL_law_625 (by decide) (fun _ => ?_) (fun c625 => absurd c625 (by decide))
            refine VW.goto 1417 dL_law_630 (by decide) ?_
            refine VW.iinc (lv' := [(0, _), (1, _), (2, _), (3, _), (4, _), (5, _), (6, _)]) dL_law_1417 rfl (by decide) rfl ?_
            refine VW.goto 23 dL_law_1420 (by decide) ?_
            refine VW.sub ?_ [0, 1, 2, 3, 4] rfl
            first
            | exact ih (i + 3) _ _ _ _ (by omega) (by omega) (by omega) (by omega) (by omega) hA2 hM2 ok2
            | exact ih (i + 3) _ _ _ _ (by omega) (by omega) (by omega) (by omega) (by omega) hA hMA okk
        · refine VW.tswIn 633 ⟨by omega, by omega⟩ dL_law_39 (by omega) (by omega) (by rw [hcv]; rfl) (by decide) ?_
          refine VW.aload_n dL_law_633 rfl ?_
          refine VW.aload_n dL_law_634 rfl ?_
          refine VW.iload dL_law_635 rfl ?_
          refine VW.iconst dL_law_637 ?_
          refine VW.iadd dL_law_638 ?_
          refine VW.sload dL_law_639 (by omega) (by omega) (by omega) ?_
          refine VW.aload_n dL_law_640 rfl ?_
          have hkk : (opAppend xs ys C S Z B (gXv G (i + 1).toNat)).1.1 = 0 ∨ (opAppend xs ys C S Z B (gXv G (i + 1).toNat)).1.1 = 1 ∨ (opAppend xs ys C S Z B (gXv G (i + 1).toNat)).1.1 = 2 := kk_append
          refine VW.hx (av := [.ref (gB G + 0), vI (gXv G (i + 1).toNat), .ref (gB G + 285)]) ch_L_law_L_append dL_law_641 rfl (Nat.le_of_ble_eq_true rfl) (l_append hst ⟨by omega, hg.2.1⟩ ⟨by omega, h285⟩ (g_append hst hg hG okk (hX _)) hkk) (fun a1 μ1 c1 s1 hc1 hs1 h1 => ?_)
          obtain ⟨rfl, ho1, hA1, hf1⟩ := h1
          have hM1 := hM.same hf1
          refine VW.istore (lv' := [(0, _), (1, _), (2, _), (3, _), (4, _), (5, _)]) dL_law_644 (by decide) rfl ?_
          refine VW.aload_n dL_law_646 rfl ?_
          refine VW.aload_n dL_law_647 rfl ?_
          refine VW.iload dL_law_648 rfl ?_
          refine VW.iconst dL_law_650 ?_
          refine VW.iadd dL_law_651 ?_
          refine VW.sload dL_law_652 (by omega) (by omega) (by omega) ?_
          refine VW.fiV1 cv_L_law_X8_append dL_law_653 (Nat.le_of_ble_eq_true rfl) (by omega) hm.2.1 (t_append hst hm hM1 okk (hX _)) (fun r2 μ2 h2 => ?_)
          obtain ⟨rfl, h5, hM2, hf2⟩ := h2
          have hA2 : hasA μ2 (opAppend xs ys C S Z B (gXv G (i + 1).toNat)).2 := hA1.keep (frK_frm hf2 (by decide)) (by omega)
          have ok2 : okA (opAppend xs ys C S Z B (gXv G (i + 1).toNat)).2 := okA_append okk _
          refine VW.istore (lv' := [(0, _), (1, _), (2, _), (3, _), (4, _), (5, _), (6, _)]) dL_law_656 (by decide) rfl ?_
          refine VW.aload_n dL_law_658 rfl ?_
          refine VW.pV0 cv_L_law_X8_thrown dL_law_659 (Nat.le_of_ble_eq_true rfl) (by omega) hm.2.1 (t_thrown hst hm) ?_
          rw [h5]
          refine VW.iload dL_law_662 rfl ?_
          refine VW.icmp_eqS 669 dL_law_664 (by decide) ?_
          refine VW.iload dL_law_669 rfl ?_
          refine VW.if_ne 686 ⟨by omega, by omega⟩ dL_law_671 (by decide) (fun c671 => ?_) (fun c671 => ?_)
          · refine VW.goto 1417 dL_law_686 (by decide) ?_
            refine VW.iinc (lv' := [(0, _), (1, _), (2, _), (3, _), (4, _), (5, _), (6, _)]) dL_law_1417 rfl (by decide) rfl ?_
            refine VW.goto 23 dL_law_1420 (by decide) ?_
            refine VW.sub ?_ [0, 1, 2, 3, 4] rfl
            first
            | exact ih (i + 3) _ _ _ _ (by omega) (by omega) (by omega) (by omega) (by omega) hA2 hM2 ok2
            | exact ih (i + 3) _ _ _ _ (by omega) (by omega) (by omega) (by omega) (by omega) hA hMA okk
          · refine VW.aload_n dL_law_674 rfl ?_
            refine VW.iconst dL_law_675 ?_
            refine VW.laload dL_law_676 (by omega) h285 (by omega) (by omega) (by decide) ?_
            rw [show μ2 285 (0 : Int).toNat = w32 (opAppend xs ys C S Z B (gXv G (i + 1).toNat)).1.2 from (congrFun (hf2.1 285 (by decide) (by decide)) 0).trans (ho1 c671)]
            refine VW.iload dL_law_677 rfl ?_
            rw [if_pos c671]
            refine VW.i2lw dL_law_679 ?_
            refine VW.lcmpS dL_law_680 ?_
            refine VW.if_eq 686 (by decide) dL_law_681 (by decide) (fun _ => ?_) (fun c681 => absurd c681 (by decide))
            refine VW.goto 1417 dL_law_686 (by decide) ?_
            refine VW.iinc (lv' := [(0, _), (1, _), (2, _), (3, _), (4, _), (5, _), (6, _)]) dL_law_1417 rfl (by decide) rfl ?_
            refine VW.goto 23 dL_law_1420 (by decide) ?_
            refine VW.sub ?_ [0, 1, 2, 3, 4] rfl
            first
            | exact ih (i + 3) _ _ _ _ (by omega) (by omega) (by omega) (by omega) (by omega) hA2 hM2 ok2
            | exact ih (i + 3) _ _ _ _ (by omega) (by omega) (by omega) (by omega) (by omega) hA hMA okk
        · refine VW.tswIn 689 ⟨by omega, by omega⟩ dL_law_39 (by omega) (by omega) (by rw [hcv]; rfl) (by decide) ?_
          refine VW.aload_n dL_law_689 rfl ?_
          refine VW.fiV0 cv_L_law_X7_clearBuffer dL_law_690 (Nat.le_of_ble_eq_true rfl) (by omega) hg.2.1 (gPo_z (v := (B.length : Int)) (A := (opClear xs ys C S Z B).2) rfl (g_clearBuffer hst hg hG okk)) (fun r1 μ1 h1 => ?_)
          obtain ⟨rfl, hA1, hf1⟩ := h1
          have hM1 := hM.same (fun i h1 h2 => hf1 i (by omega))
          refine VW.aload_n dL_law_693 rfl ?_
          refine VW.fiV0 cv_L_law_X8_clearBuffer dL_law_694 (Nat.le_of_ble_eq_true rfl) (by omega) hm.2.1 (t_clearBuffer hst hm hM1 okk) (fun r2 μ2 h2 => ?_)
          obtain ⟨q2, -, hM2, hf2⟩ := h2
          replace q2 : r2 = (B.length : Int) := q2
          subst q2
          have hA2 : hasA μ2 (opClear xs ys C S Z B).2 := hA1.keep (frK_frm hf2 (by decide)) (by omega)
          have ok2 : okA (opClear xs ys C S Z B).2 := okA_clear okk
          refine VW.icmp_eqS 1417 dL_law_697 (by decide) ?_
          refine VW.iinc (lv' := [(0, _), (1, _), (2, _), (3, _), (4, _)]) dL_law_1417 rfl (by decide) rfl ?_
          refine VW.goto 23 dL_law_1420 (by decide) ?_
          refine VW.sub ?_ [0, 1, 2, 3, 4] rfl
          first
          | exact ih (i + 3) _ _ _ _ (by omega) (by omega) (by omega) (by omega) (by omega) hA2 hM2 ok2
          | exact ih (i + 3) _ _ _ _ (by omega) (by omega) (by omega) (by omega) (by omega) hA hMA okk
        · refine VW.tswIn 702 ⟨by omega, by omega⟩ dL_law_39 (by omega) (by omega) (by rw [hcv]; rfl) (by decide) ?_
          refine VW.aload_n dL_law_702 rfl ?_
          refine VW.pV0 cv_L_law_X7_firstError dL_law_703 (Nat.le_of_ble_eq_true rfl) (by omega) hg.2.1 (g_firstError hst hg hG.1.2.2.2.2.1 okk.2.2.2) ?_
          refine VW.aload_n dL_law_706 rfl ?_
          refine VW.fiV0 cv_L_law_X8_firstError dL_law_707 (Nat.le_of_ble_eq_true rfl) (by omega) hm.2.1 (t_firstError hst hm hM okk) (fun r2 μ2 h2 => ?_)
          obtain ⟨rfl, hM2, hf2⟩ := h2
          have hA2 : hasA μ2 (mk xs ys C S Z B) := hasA.keep hA (frK_frm hf2 (by decide)) (by omega)
          have ok2 : okA (mk xs ys C S Z B) := okk
          replace hM2 : hasMA μ2 (mk xs ys C S Z B) := hM2
          refine VW.icmp_eqS 1417 dL_law_710 (by decide) ?_
          refine VW.iinc (lv' := [(0, _), (1, _), (2, _), (3, _), (4, _)]) dL_law_1417 rfl (by decide) rfl ?_
          refine VW.goto 23 dL_law_1420 (by decide) ?_
          refine VW.sub ?_ [0, 1, 2, 3, 4] rfl
          first
          | exact ih (i + 3) _ _ _ _ (by omega) (by omega) (by omega) (by omega) (by omega) hA2 hM2 ok2
          | exact ih (i + 3) _ _ _ _ (by omega) (by omega) (by omega) (by omega) (by omega) hA hMA okk
        · refine VW.tswIn 715 ⟨by omega, by omega⟩ dL_law_39 (by omega) (by omega) (by rw [hcv]; rfl) (by decide) ?_
          refine VW.aload_n dL_law_715 rfl ?_
          refine VW.aload_n dL_law_716 rfl ?_
          have hkk : (opUndo xs ys C S Z B).1.1 = 0 ∨ (opUndo xs ys C S Z B).1.1 = 1 := kk_undo
          refine VW.hx (av := [.ref (gB G + 0), .ref (gB G + 285)]) ch_L_law_L_undo dL_law_717 rfl (Nat.le_of_ble_eq_true rfl) (l_undo hst ⟨by omega, hg.2.1⟩ ⟨by omega, h285⟩ (g_undo hst hg hG okk ) hkk) (fun a1 μ1 c1 s1 hc1 hs1 h1 => ?_)
          obtain ⟨rfl, ho1, hA1, hf1⟩ := h1
          have hM1 := hM.same hf1
          refine VW.istore (lv' := [(0, _), (1, _), (2, _), (3, _), (4, _), (5, _)]) dL_law_720 (by decide) rfl ?_
          refine VW.aload_n dL_law_722 rfl ?_
          refine VW.fiV0 cv_L_law_X8_undo dL_law_723 (Nat.le_of_ble_eq_true rfl) (by omega) hm.2.1 (t_undo hst hm hM1 okk ) (fun r2 μ2 h2 => ?_)
          obtain ⟨rfl, h5, hM2, hf2⟩ := h2
          have hA2 : hasA μ2 (opUndo xs ys C S Z B).2 := hA1.keep (frK_frm hf2 (by decide)) (by omega)
          have ok2 : okA (opUndo xs ys C S Z B).2 := okA_undo okk
          refine VW.istore (lv' := [(0, _), (1, _), (2, _), (3, _), (4, _), (5, _), (6, _)]) dL_law_726 (by decide) rfl ?_
          refine VW.aload_n dL_law_728 rfl ?_
          refine VW.pV0 cv_L_law_X8_thrown dL_law_729 (Nat.le_of_ble_eq_true rfl) (by omega) hm.2.1 (t_thrown hst hm) ?_
          rw [h5]
          refine VW.iload dL_law_732 rfl ?_
          refine VW.icmp_eqS 739 dL_law_734 (by decide) ?_
          refine VW.iload dL_law_739 rfl ?_
          refine VW.if_ne 756 ⟨by omega, by omega⟩ dL_law_741 (by decide) (fun c741 => ?_) (fun c741 => ?_)
          · refine VW.goto 1417 dL_law_756 (by decide) ?_
            refine VW.iinc (lv' := [(0, _), (1, _), (2, _), (3, _), (4, _), (5, _), (6, _)]) dL_law_1417 rfl (by decide) rfl ?_
            refine VW.goto 23 dL_law_1420 (by decide) ?_
            refine VW.sub ?_ [0, 1, 2, 3, 4] rfl
            first
            | exact ih (i + 3) _ _ _ _ (by omega) (by omega) (by omega) (by omega) (by omega) hA2 hM2 ok2
            | exact ih (i + 3) _ _ _ _ (by omega) (by omega) (by omega) (by omega) (by omega) hA hMA okk
          · refine VW.aload_n dL_law_744 rfl ?_
            refine VW.iconst dL_law_745 ?_
            refine VW.laload dL_law_746 (by omega) h285 (by omega) (by omega) (by decide) ?_
            rw [show μ2 285 (0 : Int).toNat = w32 (opUndo xs ys C S Z B).1.2 from (congrFun (hf2.1 285 (by decide) (by decide)) 0).trans (ho1 c741)]
            refine VW.iload dL_law_747 rfl ?_
            rw [if_pos c741]
            refine VW.i2lw dL_law_749 ?_
            refine VW.lcmpS dL_law_750 ?_
            refine VW.if_eq 756 (by decide) dL_law_751 (by decide) (fun _ => ?_) (fun c751 => absurd c751 (by decide))
            refine VW.goto 1417 dL_law_756 (by decide) ?_
            refine VW.iinc (lv' := [(0, _), (1, _), (2, _), (3, _), (4, _), (5, _), (6, _)]) dL_law_1417 rfl (by decide) rfl ?_
            refine VW.goto 23 dL_law_1420 (by decide) ?_
            refine VW.sub ?_ [0, 1, 2, 3, 4] rfl
            first
            | exact ih (i + 3) _ _ _ _ (by omega) (by omega) (by omega) (by omega) (by omega) hA2 hM2 ok2
            | exact ih (i + 3) _ _ _ _ (by omega) (by omega) (by omega) (by omega) (by omega) hA hMA okk
        · refine VW.tswIn 759 ⟨by omega, by omega⟩ dL_law_39 (by omega) (by omega) (by rw [hcv]; rfl) (by decide) ?_
          refine VW.aload_n dL_law_759 rfl ?_
          refine VW.aload_n dL_law_760 rfl ?_
          refine VW.iload dL_law_761 rfl ?_
          refine VW.iconst dL_law_763 ?_
          refine VW.iadd dL_law_764 ?_
          refine VW.sload dL_law_765 (by omega) (by omega) (by omega) ?_
          refine VW.aload_n dL_law_766 rfl ?_
          refine VW.iload dL_law_767 rfl ?_
          refine VW.iconst dL_law_769 ?_
          refine VW.iadd dL_law_770 ?_
          refine VW.sload dL_law_771 (by omega) (by omega) (by omega) ?_
          refine VW.aload_n dL_law_772 rfl ?_
          have hkk : (lkPointOf xs ys (gXv G (i + 1).toNat) (gXv G (i + 2).toNat)).1 = 0 ∨ (lkPointOf xs ys (gXv G (i + 1).toNat) (gXv G (i + 2).toNat)).1 = 1 ∨ (lkPointOf xs ys (gXv G (i + 1).toNat) (gXv G (i + 2).toNat)).1 = 2 := kk_pointOf
          refine VW.hx (av := [.ref (gB G + 0), vI (gXv G (i + 1).toNat), vI (gXv G (i + 2).toNat), .ref (gB G + 285)]) ch_L_law_L_pointOf dL_law_773 rfl (Nat.le_of_ble_eq_true rfl) (l_pointOf hst ⟨by omega, hg.2.1⟩ ⟨by omega, h285⟩ (g_pointOf hst hg hG okk (hX _) (hX _)) hkk) (fun a1 μ1 c1 s1 hc1 hs1 h1 => ?_)
          obtain ⟨rfl, ho1, hA1, hf1⟩ := h1
          have hM1 := hM.same hf1
          refine VW.istore (lv' := [(0, _), (1, _), (2, _), (3, _), (4, _), (5, _)]) dL_law_776 (by decide) rfl ?_
          refine VW.aload_n dL_law_778 rfl ?_
          refine VW.aload_n dL_law_779 rfl ?_
          refine VW.iload dL_law_780 rfl ?_
          refine VW.iconst dL_law_782 ?_
          refine VW.iadd dL_law_783 ?_
          refine VW.sload dL_law_784 (by omega) (by omega) (by omega) ?_
          refine VW.aload_n dL_law_785 rfl ?_
          refine VW.iload dL_law_786 rfl ?_
          refine VW.iconst dL_law_788 ?_
          refine VW.iadd dL_law_789 ?_
          refine VW.sload dL_law_790 (by omega) (by omega) (by omega) ?_
          refine VW.fiV2 cv_L_law_X8_pointOf dL_law_791 (Nat.le_of_ble_eq_true rfl) (by omega) hm.2.1 (t_pointOf hst hm hM1 okk.1 (hX _) (hX _)) (fun r2 μ2 h2 => ?_)
          obtain ⟨rfl, h5, hf2⟩ := h2
          have hA2 : hasA μ2 (mk xs ys C S Z B) := hA1.keep (frK_frm hf2 (by decide)) (by omega)
          have hM2 : hasMA μ2 (mk xs ys C S Z B) := hM1.keepL hf2
          have ok2 : okA (mk xs ys C S Z B) := okk
          refine VW.istore (lv' := [(0, _), (1, _), (2, _), (3, _), (4, _), (5, _), (6, _)]) dL_law_794 (by decide) rfl ?_
          refine VW.aload_n dL_law_796 rfl ?_
          refine VW.pV0 cv_L_law_X8_thrown dL_law_797 (Nat.le_of_ble_eq_true rfl) (by omega) hm.2.1 (t_thrown hst hm) ?_
          rw [h5]
          refine VW.iload dL_law_800 rfl ?_
          refine VW.icmp_eqS 807 dL_law_802 (by decide) ?_
          refine VW.iload dL_law_807 rfl ?_
          refine VW.if_ne 824 ⟨by omega, by omega⟩ dL_law_809 (by decide) (fun c809 => ?_) (fun c809 => ?_)
          · refine VW.goto 1417 dL_law_824 (by decide) ?_
            refine VW.iinc (lv' := [(0, _), (1, _), (2, _), (3, _), (4, _), (5, _), (6, _)]) dL_law_1417 rfl (by decide) rfl ?_
            refine VW.goto 23 dL_law_1420 (by decide) ?_
            refine VW.sub ?_ [0, 1, 2, 3, 4] rfl
            first
            | exact ih (i + 3) _ _ _ _ (by omega) (by omega) (by omega) (by omega) (by omega) hA2 hM2 ok2
            | exact ih (i + 3) _ _ _ _ (by omega) (by omega) (by omega) (by omega) (by omega) hA hMA okk
          · refine VW.aload_n dL_law_812 rfl ?_
            refine VW.iconst dL_law_813 ?_
            refine VW.laload dL_law_814 (by omega) h285 (by omega) (by omega) (by decide) ?_
            rw [show μ2 285 (0 : Int).toNat = w32 (lkPointOf xs ys (gXv G (i + 1).toNat) (gXv G (i + 2).toNat)).2 from (congrFun (hf2.1 285 (by decide) (by decide)) 0).trans (ho1 c809)]
            refine VW.iload dL_law_815 rfl ?_
            rw [if_pos c809]
            refine VW.i2lw dL_law_817 ?_
            refine VW.lcmpS dL_law_818 ?_
            refine VW.if_eq 824 (by decide) dL_law_819 (by decide) (fun _ => ?_) (fun c819 => absurd c819 (by decide))
            refine VW.goto 1417 dL_law_824 (by decide) ?_
            refine VW.iinc (lv' := [(0, _), (1, _), (2, _), (3, _), (4, _), (5, _), (6, _)]) dL_law_1417 rfl (by decide) rfl ?_
            refine VW.goto 23 dL_law_1420 (by decide) ?_
            refine VW.sub ?_ [0, 1, 2, 3, 4] rfl
            first
            | exact ih (i + 3) _ _ _ _ (by omega) (by omega) (by omega) (by omega) (by omega) hA2 hM2 ok2
            | exact ih (i + 3) _ _ _ _ (by omega) (by omega) (by omega) (by omega) (by omega) hA hMA okk
        · refine VW.tswIn 827 ⟨by omega, by omega⟩ dL_law_39 (by omega) (by omega) (by rw [hcv]; rfl) (by decide) ?_
          refine VW.aload_n dL_law_827 rfl ?_
          refine VW.aload_n dL_law_828 rfl ?_
          refine VW.iload dL_law_829 rfl ?_
          refine VW.iconst dL_law_831 ?_
          refine VW.iadd dL_law_832 ?_
          refine VW.sload dL_law_833 (by omega) (by omega) (by omega) ?_
          refine VW.aload_n dL_law_834 rfl ?_
          refine VW.iload dL_law_835 rfl ?_
          refine VW.iconst dL_law_837 ?_
          refine VW.iadd dL_law_838 ?_
          refine VW.sload dL_law_839 (by omega) (by omega) (by omega) ?_
          refine VW.aload_n dL_law_840 rfl ?_
          have hkk : (lkRun xs ys S (gXv G (i + 1).toNat) (gXv G (i + 2).toNat)).1 = 0 ∨ (lkRun xs ys S (gXv G (i + 1).toNat) (gXv G (i + 2).toNat)).1 = 1 := kk_run
          refine VW.hx (av := [.ref (gB G + 0), vI (gXv G (i + 1).toNat), vI (gXv G (i + 2).toNat), .ref (gB G + 285)]) ch_L_law_L_run dL_law_841 rfl (Nat.le_of_ble_eq_true rfl) (l_run hst ⟨by omega, hg.2.1⟩ ⟨by omega, h285⟩ (g_run hst hg hG okk (hX _) (hX _)) hkk) (fun a1 μ1 c1 s1 hc1 hs1 h1 => ?_)
          obtain ⟨rfl, ho1, hA1, hf1⟩ := h1
          have hM1 := hM.same hf1
          refine VW.istore (lv' := [(0, _), (1, _), (2, _), (3, _), (4, _), (5, _)]) dL_law_844 (by decide) rfl ?_
          refine VW.aload_n dL_law_846 rfl ?_
          refine VW.aload_n dL_law_847 rfl ?_
          refine VW.iload dL_law_848 rfl ?_
          refine VW.iconst dL_law_850 ?_
          refine VW.iadd dL_law_851 ?_
          refine VW.sload dL_law_852 (by omega) (by omega) (by omega) ?_
          refine VW.aload_n dL_law_853 rfl ?_
          refine VW.iload dL_law_854 rfl ?_
          refine VW.iconst dL_law_856 ?_
          refine VW.iadd dL_law_857 ?_
          refine VW.sload dL_law_858 (by omega) (by omega) (by omega) ?_
          refine VW.fiV2 cv_L_law_X8_run dL_law_859 (Nat.le_of_ble_eq_true rfl) (by omega) hm.2.1 (t_run hst hm hM1 okk.1 (hX _) (hX _)) (fun r2 μ2 h2 => ?_)
          obtain ⟨rfl, h5, hf2⟩ := h2
          have hA2 : hasA μ2 (mk xs ys C S Z B) := hA1.keep (frK_frm hf2 (by decide)) (by omega)
          have hM2 : hasMA μ2 (mk xs ys C S Z B) := hM1.keepL hf2
          have ok2 : okA (mk xs ys C S Z B) := okk
          refine VW.istore (lv' := [(0, _), (1, _), (2, _), (3, _), (4, _), (5, _), (6, _)]) dL_law_862 (by decide) rfl ?_
          refine VW.aload_n dL_law_864 rfl ?_
          refine VW.pV0 cv_L_law_X8_thrown dL_law_865 (Nat.le_of_ble_eq_true rfl) (by omega) hm.2.1 (t_thrown hst hm) ?_
          rw [h5]
          refine VW.iload dL_law_868 rfl ?_
          refine VW.icmp_eqS 875 dL_law_870 (by decide) ?_
          refine VW.iload dL_law_875 rfl ?_
          refine VW.if_ne 892 ⟨by omega, by omega⟩ dL_law_877 (by decide) (fun c877 => ?_) (fun c877 => ?_)
          · refine VW.goto 1417 dL_law_892 (by decide) ?_
            refine VW.iinc (lv' := [(0, _), (1, _), (2, _), (3, _), (4, _), (5, _), (6, _)]) dL_law_1417 rfl (by decide) rfl ?_
            refine VW.goto 23 dL_law_1420 (by decide) ?_
            refine VW.sub ?_ [0, 1, 2, 3, 4] rfl
            first
            | exact ih (i + 3) _ _ _ _ (by omega) (by omega) (by omega) (by omega) (by omega) hA2 hM2 ok2
            | exact ih (i + 3) _ _ _ _ (by omega) (by omega) (by omega) (by omega) (by omega) hA hMA okk
          · refine VW.aload_n dL_law_880 rfl ?_
            refine VW.iconst dL_law_881 ?_
            refine VW.laload dL_law_882 (by omega) h285 (by omega) (by omega) (by decide) ?_
            rw [show μ2 285 (0 : Int).toNat = w32 (lkRun xs ys S (gXv G (i + 1).toNat) (gXv G (i + 2).toNat)).2 from (congrFun (hf2.1 285 (by decide) (by decide)) 0).trans (ho1 c877)]
            refine VW.iload dL_law_883 rfl ?_
            rw [if_pos c877]
            refine VW.i2lw dL_law_885 ?_
            refine VW.lcmpS dL_law_886 ?_
            refine VW.if_eq 892 (by decide) dL_law_887 (by decide) (fun _ => ?_) (fun c887 => absurd c887 (by decide))
            refine VW.goto 1417 dL_law_892 (by decide) ?_
            refine VW.iinc (lv' := [(0, _), (1, _), (2, _), (3, _), (4, _), (5, _), (6, _)]) dL_law_1417 rfl (by decide) rfl ?_
            refine VW.goto 23 dL_law_1420 (by decide) ?_
            refine VW.sub ?_ [0, 1, 2, 3, 4] rfl
            first
            | exact ih (i + 3) _ _ _ _ (by omega) (by omega) (by omega) (by omega) (by omega) hA2 hM2 ok2
            | exact ih (i + 3) _ _ _ _ (by omega) (by omega) (by omega) (by omega) (by omega) hA hMA okk
        · refine VW.tswIn 895 ⟨by omega, by omega⟩ dL_law_39 (by omega) (by omega) (by rw [hcv]; rfl) (by decide) ?_
          refine VW.aload_n dL_law_895 rfl ?_
          refine VW.aload_n dL_law_896 rfl ?_
          refine VW.iload dL_law_897 rfl ?_
          refine VW.iconst dL_law_899 ?_
          refine VW.iadd dL_law_900 ?_
          refine VW.sload dL_law_901 (by omega) (by omega) (by omega) ?_
          refine VW.aload_n dL_law_902 rfl ?_
          have hkk : (lkStroke xs ys S (gXv G (i + 1).toNat)).1 = 0 ∨ (lkStroke xs ys S (gXv G (i + 1).toNat)).1 = 1 := kk_stroke
          refine VW.hx (av := [.ref (gB G + 0), vI (gXv G (i + 1).toNat), .ref (gB G + 285)]) ch_L_law_L_stroke dL_law_903 rfl (Nat.le_of_ble_eq_true rfl) (l_stroke hst ⟨by omega, hg.2.1⟩ ⟨by omega, h285⟩ (g_stroke hst hg hG okk (hX _)) hkk) (fun a1 μ1 c1 s1 hc1 hs1 h1 => ?_)
          obtain ⟨rfl, ho1, hA1, hf1⟩ := h1
          have hM1 := hM.same hf1
          refine VW.istore (lv' := [(0, _), (1, _), (2, _), (3, _), (4, _), (5, _)]) dL_law_906 (by decide) rfl ?_
          refine VW.aload_n dL_law_908 rfl ?_
          refine VW.aload_n dL_law_909 rfl ?_
          refine VW.iload dL_law_910 rfl ?_
          refine VW.iconst dL_law_912 ?_
          refine VW.iadd dL_law_913 ?_
          refine VW.sload dL_law_914 (by omega) (by omega) (by omega) ?_
          refine VW.fiV1 cv_L_law_X8_stroke dL_law_915 (Nat.le_of_ble_eq_true rfl) (by omega) hm.2.1 (t_stroke hst hm hM1 okk.1 (hX _)) (fun r2 μ2 h2 => ?_)
          obtain ⟨rfl, h5, hf2⟩ := h2
          have hA2 : hasA μ2 (mk xs ys C S Z B) := hA1.keep (frK_frm hf2 (by decide)) (by omega)
          have hM2 : hasMA μ2 (mk xs ys C S Z B) := hM1.keepL hf2
          have ok2 : okA (mk xs ys C S Z B) := okk
          refine VW.istore (lv' := [(0, _), (1, _), (2, _), (3, _), (4, _), (5, _), (6, _)]) dL_law_918 (by decide) rfl ?_
          refine VW.aload_n dL_law_920 rfl ?_
          refine VW.pV0 cv_L_law_X8_thrown dL_law_921 (Nat.le_of_ble_eq_true rfl) (by omega) hm.2.1 (t_thrown hst hm) ?_
          rw [h5]
          refine VW.iload dL_law_924 rfl ?_
          refine VW.icmp_eqS 931 dL_law_926 (by decide) ?_
          refine VW.iload dL_law_931 rfl ?_
          refine VW.if_ne 948 ⟨by omega, by omega⟩ dL_law_933 (by decide) (fun c933 => ?_) (fun c933 => ?_)
          · refine VW.goto 1417 dL_law_948 (by decide) ?_
            refine VW.iinc (lv' := [(0, _), (1, _), (2, _), (3, _), (4, _), (5, _), (6, _)]) dL_law_1417 rfl (by decide) rfl ?_
            refine VW.goto 23 dL_law_1420 (by decide) ?_
            refine VW.sub ?_ [0, 1, 2, 3, 4] rfl
            first
            | exact ih (i + 3) _ _ _ _ (by omega) (by omega) (by omega) (by omega) (by omega) hA2 hM2 ok2
            | exact ih (i + 3) _ _ _ _ (by omega) (by omega) (by omega) (by omega) (by omega) hA hMA okk
          · refine VW.aload_n dL_law_936 rfl ?_
            refine VW.iconst dL_law_937 ?_
            refine VW.laload dL_law_938 (by omega) h285 (by omega) (by omega) (by decide) ?_
            rw [show μ2 285 (0 : Int).toNat = w32 (lkStroke xs ys S (gXv G (i + 1).toNat)).2 from (congrFun (hf2.1 285 (by decide) (by decide)) 0).trans (ho1 c933)]
            refine VW.iload dL_law_939 rfl ?_
            rw [if_pos c933]
            refine VW.i2lw dL_law_941 ?_
            refine VW.lcmpS dL_law_942 ?_
            refine VW.if_eq 948 (by decide) dL_law_943 (by decide) (fun _ => ?_) (fun c943 => absurd c943 (by decide))
            refine VW.goto 1417 dL_law_948 (by decide) ?_
            refine VW.iinc (lv' := [(0, _), (1, _), (2, _), (3, _), (4, _), (5, _), (6, _)]) dL_law_1417 rfl (by decide) rfl ?_
            refine VW.goto 23 dL_law_1420 (by decide) ?_
            refine VW.sub ?_ [0, 1, 2, 3, 4] rfl
            first
            | exact ih (i + 3) _ _ _ _ (by omega) (by omega) (by omega) (by omega) (by omega) hA2 hM2 ok2
            | exact ih (i + 3) _ _ _ _ (by omega) (by omega) (by omega) (by omega) (by omega) hA hMA okk
        · refine VW.tswIn 951 ⟨by omega, by omega⟩ dL_law_39 (by omega) (by omega) (by rw [hcv]; rfl) (by decide) ?_
          refine VW.aload_n dL_law_951 rfl ?_
          refine VW.aload_n dL_law_952 rfl ?_
          refine VW.iload dL_law_953 rfl ?_
          refine VW.iconst dL_law_955 ?_
          refine VW.iadd dL_law_956 ?_
          refine VW.sload dL_law_957 (by omega) (by omega) (by omega) ?_
          refine VW.aload_n dL_law_958 rfl ?_
          refine VW.iload dL_law_959 rfl ?_
          refine VW.iconst dL_law_961 ?_
          refine VW.iadd dL_law_962 ?_
          refine VW.sload dL_law_963 (by omega) (by omega) (by omega) ?_
          refine VW.aload_n dL_law_964 rfl ?_
          have hkk : (lkStrokeOf C (gXv G (i + 1).toNat) (gXv G (i + 2).toNat)).1 = 0 ∨ (lkStrokeOf C (gXv G (i + 1).toNat) (gXv G (i + 2).toNat)).1 = 1 ∨ (lkStrokeOf C (gXv G (i + 1).toNat) (gXv G (i + 2).toNat)).1 = 2 := kk_strokeOf
          refine VW.hx (av := [.ref (gB G + 0), vI (gXv G (i + 1).toNat), vI (gXv G (i + 2).toNat), .ref (gB G + 285)]) ch_L_law_L_strokeOf dL_law_965 rfl (Nat.le_of_ble_eq_true rfl) (l_strokeOf hst ⟨by omega, hg.2.1⟩ ⟨by omega, h285⟩ (g_strokeOf hst hg hG okk (hX _) (hX _)) hkk) (fun a1 μ1 c1 s1 hc1 hs1 h1 => ?_)
          obtain ⟨rfl, ho1, hA1, hf1⟩ := h1
          have hM1 := hM.same hf1
          refine VW.istore (lv' := [(0, _), (1, _), (2, _), (3, _), (4, _), (5, _)]) dL_law_968 (by decide) rfl ?_
          refine VW.aload_n dL_law_970 rfl ?_
          refine VW.aload_n dL_law_971 rfl ?_
          refine VW.iload dL_law_972 rfl ?_
          refine VW.iconst dL_law_974 ?_
          refine VW.iadd dL_law_975 ?_
          refine VW.sload dL_law_976 (by omega) (by omega) (by omega) ?_
          refine VW.aload_n dL_law_977 rfl ?_
          refine VW.iload dL_law_978 rfl ?_
          refine VW.iconst dL_law_980 ?_
          refine VW.iadd dL_law_981 ?_
          refine VW.sload dL_law_982 (by omega) (by omega) (by omega) ?_
          refine VW.fiV2 cv_L_law_X8_strokeOf dL_law_983 (Nat.le_of_ble_eq_true rfl) (by omega) hm.2.1 (t_strokeOf hst hm hM1 okk.1 (hX _) (hX _)) (fun r2 μ2 h2 => ?_)
          obtain ⟨rfl, h5, hf2⟩ := h2
          have hA2 : hasA μ2 (mk xs ys C S Z B) := hA1.keep (frK_frm hf2 (by decide)) (by omega)
          have hM2 : hasMA μ2 (mk xs ys C S Z B) := hM1.keepL hf2
          have ok2 : okA (mk xs ys C S Z B) := okk
          refine VW.istore (lv' := [(0, _), (1, _), (2, _), (3, _), (4, _), (5, _), (6, _)]) dL_law_986 (by decide) rfl ?_
          refine VW.aload_n dL_law_988 rfl ?_
          refine VW.pV0 cv_L_law_X8_thrown dL_law_989 (Nat.le_of_ble_eq_true rfl) (by omega) hm.2.1 (t_thrown hst hm) ?_
          rw [h5]
          refine VW.iload dL_law_992 rfl ?_
          refine VW.icmp_eqS 999 dL_law_994 (by decide) ?_
          refine VW.iload dL_law_999 rfl ?_
          refine VW.if_ne 1016 ⟨by omega, by omega⟩ dL_law_1001 (by decide) (fun c1001 => ?_) (fun c1001 => ?_)
          · refine VW.goto 1417 dL_law_1016 (by decide) ?_
            refine VW.iinc (lv' := [(0, _), (1, _), (2, _), (3, _), (4, _), (5, _), (6, _)]) dL_law_1417 rfl (by decide) rfl ?_
            refine VW.goto 23 dL_law_1420 (by decide) ?_
            refine VW.sub ?_ [0, 1, 2, 3, 4] rfl
            first
            | exact ih (i + 3) _ _ _ _ (by omega) (by omega) (by omega) (by omega) (by omega) hA2 hM2 ok2
            | exact ih (i + 3) _ _ _ _ (by omega) (by omega) (by omega) (by omega) (by omega) hA hMA okk
          · refine VW.aload_n dL_law_1004 rfl ?_
            refine VW.iconst dL_law_1005 ?_
            refine VW.laload dL_law_1006 (by omega) h285 (by omega) (by omega) (by decide) ?_
            rw [show μ2 285 (0 : Int).toNat = w32 (lkStrokeOf C (gXv G (i + 1).toNat) (gXv G (i + 2).toNat)).2 from (congrFun (hf2.1 285 (by decide) (by decide)) 0).trans (ho1 c1001)]
            refine VW.iload dL_law_1007 rfl ?_
            rw [if_pos c1001]
            refine VW.i2lw dL_law_1009 ?_
            refine VW.lcmpS dL_law_1010 ?_
            refine VW.if_eq 1016 (by decide) dL_law_1011 (by decide) (fun _ => ?_) (fun c1011 => absurd c1011 (by decide))
            refine VW.goto 1417 dL_law_1016 (by decide) ?_
            refine VW.iinc (lv' := [(0, _), (1, _), (2, _), (3, _), (4, _), (5, _), (6, _)]) dL_law_1417 rfl (by decide) rfl ?_
            refine VW.goto 23 dL_law_1420 (by decide) ?_
            refine VW.sub ?_ [0, 1, 2, 3, 4] rfl
            first
            | exact ih (i + 3) _ _ _ _ (by omega) (by omega) (by omega) (by omega) (by omega) hA2 hM2 ok2
            | exact ih (i + 3) _ _ _ _ (by omega) (by omega) (by omega) (by omega) (by omega) hA hMA okk
        · refine VW.tswIn 1019 ⟨by omega, by omega⟩ dL_law_39 (by omega) (by omega) (by rw [hcv]; rfl) (by decide) ?_
          refine VW.aload_n dL_law_1019 rfl ?_
          refine VW.aload_n dL_law_1020 rfl ?_
          refine VW.iload dL_law_1021 rfl ?_
          refine VW.iconst dL_law_1023 ?_
          refine VW.iadd dL_law_1024 ?_
          refine VW.sload dL_law_1025 (by omega) (by omega) (by omega) ?_
          refine VW.aload_n dL_law_1026 rfl ?_
          refine VW.iload dL_law_1027 rfl ?_
          refine VW.iconst dL_law_1029 ?_
          refine VW.iadd dL_law_1030 ?_
          refine VW.sload dL_law_1031 (by omega) (by omega) (by omega) ?_
          refine VW.aload_n dL_law_1032 rfl ?_
          have hkk : (lkDistance xs ys C S (gXv G (i + 1).toNat) (gXv G (i + 2).toNat)).1 = 0 ∨ (lkDistance xs ys C S (gXv G (i + 1).toNat) (gXv G (i + 2).toNat)).1 = 1 := kk_distance
          refine VW.hx (av := [.ref (gB G + 0), vI (gXv G (i + 1).toNat), vI (gXv G (i + 2).toNat), .ref (gB G + 285)]) ch_L_law_L_distance dL_law_1033 rfl (Nat.le_of_ble_eq_true rfl) (l_distance hst ⟨by omega, hg.2.1⟩ ⟨by omega, h285⟩ (g_distance hst hg hG okk (hX _) (hX _)) hkk) (fun a1 μ1 c1 s1 hc1 hs1 h1 => ?_)
          obtain ⟨rfl, ho1, hA1, hf1⟩ := h1
          have hM1 := hM.same hf1
          refine VW.istore (lv' := [(0, _), (1, _), (2, _), (3, _), (4, _), (5, _)]) dL_law_1036 (by decide) rfl ?_
          refine VW.aload_n dL_law_1038 rfl ?_
          refine VW.aload_n dL_law_1039 rfl ?_
          refine VW.iload dL_law_1040 rfl ?_
          refine VW.iconst dL_law_1042 ?_
          refine VW.iadd dL_law_1043 ?_
          refine VW.sload dL_law_1044 (by omega) (by omega) (by omega) ?_
          refine VW.aload_n dL_law_1045 rfl ?_
          refine VW.iload dL_law_1046 rfl ?_
          refine VW.iconst dL_law_1048 ?_
          refine VW.iadd dL_law_1049 ?_
          refine VW.sload dL_law_1050 (by omega) (by omega) (by omega) ?_
          refine VW.fiV2 cv_L_law_X8_distance dL_law_1051 (Nat.le_of_ble_eq_true rfl) (by omega) hm.2.1 (t_distance hst hm hM1 okk.1 (hX _) (hX _)) (fun r2 μ2 h2 => ?_)
          obtain ⟨rfl, h5, hf2⟩ := h2
          have hA2 : hasA μ2 (mk xs ys C S Z B) := hA1.keep (frK_frm hf2 (by decide)) (by omega)
          have hM2 : hasMA μ2 (mk xs ys C S Z B) := hM1.keepL hf2
          have ok2 : okA (mk xs ys C S Z B) := okk
          refine VW.istore (lv' := [(0, _), (1, _), (2, _), (3, _), (4, _), (5, _), (6, _)]) dL_law_1054 (by decide) rfl ?_
          refine VW.aload_n dL_law_1056 rfl ?_
          refine VW.pV0 cv_L_law_X8_thrown dL_law_1057 (Nat.le_of_ble_eq_true rfl) (by omega) hm.2.1 (t_thrown hst hm) ?_
          rw [h5]
          refine VW.iload dL_law_1060 rfl ?_
          refine VW.icmp_eqS 1067 dL_law_1062 (by decide) ?_
          refine VW.iload dL_law_1067 rfl ?_
          refine VW.if_ne 1084 ⟨by omega, by omega⟩ dL_law_1069 (by decide) (fun c1069 => ?_) (fun c1069 => ?_)
          · refine VW.goto 1417 dL_law_1084 (by decide) ?_
            refine VW.iinc (lv' := [(0, _), (1, _), (2, _), (3, _), (4, _), (5, _), (6, _)]) dL_law_1417 rfl (by decide) rfl ?_
            refine VW.goto 23 dL_law_1420 (by decide) ?_
            refine VW.sub ?_ [0, 1, 2, 3, 4] rfl
            first
            | exact ih (i + 3) _ _ _ _ (by omega) (by omega) (by omega) (by omega) (by omega) hA2 hM2 ok2
            | exact ih (i + 3) _ _ _ _ (by omega) (by omega) (by omega) (by omega) (by omega) hA hMA okk
          · refine VW.aload_n dL_law_1072 rfl ?_
            refine VW.iconst dL_law_1073 ?_
            refine VW.laload dL_law_1074 (by omega) h285 (by omega) (by omega) (by decide) ?_
            rw [show μ2 285 (0 : Int).toNat = w32 (lkDistance xs ys C S (gXv G (i + 1).toNat) (gXv G (i + 2).toNat)).2 from (congrFun (hf2.1 285 (by decide) (by decide)) 0).trans (ho1 c1069)]
            refine VW.iload dL_law_1075 rfl ?_
            rw [if_pos c1069]
            refine VW.i2lw dL_law_1077 ?_
            refine VW.lcmpS dL_law_1078 ?_
            refine VW.if_eq 1084 (by decide) dL_law_1079 (by decide) (fun _ => ?_) (fun c1079 => absurd c1079 (by decide))
            refine VW.goto 1417 dL_law_1084 (by decide) ?_
            refine VW.iinc (lv' := [(0, _), (1, _), (2, _), (3, _), (4, _), (5, _), (6, _)]) dL_law_1417 rfl (by decide) rfl ?_
            refine VW.goto 23 dL_law_1420 (by decide) ?_
            refine VW.sub ?_ [0, 1, 2, 3, 4] rfl
            first
            | exact ih (i + 3) _ _ _ _ (by omega) (by omega) (by omega) (by omega) (by omega) hA2 hM2 ok2
            | exact ih (i + 3) _ _ _ _ (by omega) (by omega) (by omega) (by omega) (by omega) hA hMA okk
        · refine VW.tswIn 1087 ⟨by omega, by omega⟩ dL_law_39 (by omega) (by omega) (by rw [hcv]; rfl) (by decide) ?_
          refine VW.aload_n dL_law_1087 rfl ?_
          refine VW.aload_n dL_law_1088 rfl ?_
          refine VW.iload dL_law_1089 rfl ?_
          refine VW.iconst dL_law_1091 ?_
          refine VW.iadd dL_law_1092 ?_
          refine VW.sload dL_law_1093 (by omega) (by omega) (by omega) ?_
          refine VW.aload_n dL_law_1094 rfl ?_
          have hkk : (lkReading xs ys C S (gXv G (i + 1).toNat)).1 = 0 ∨ (lkReading xs ys C S (gXv G (i + 1).toNat)).1 = 1 := kk_reading
          refine VW.hx (av := [.ref (gB G + 0), vI (gXv G (i + 1).toNat), .ref (gB G + 285)]) ch_L_law_L_reading dL_law_1095 rfl (Nat.le_of_ble_eq_true rfl) (l_reading hst ⟨by omega, hg.2.1⟩ ⟨by omega, h285⟩ (g_reading hst hg hG okk (hX _)) hkk) (fun a1 μ1 c1 s1 hc1 hs1 h1 => ?_)
          obtain ⟨rfl, ho1, hA1, hf1⟩ := h1
          have hM1 := hM.same hf1
          refine VW.istore (lv' := [(0, _), (1, _), (2, _), (3, _), (4, _), (5, _)]) dL_law_1098 (by decide) rfl ?_
          refine VW.aload_n dL_law_1100 rfl ?_
          refine VW.aload_n dL_law_1101 rfl ?_
          refine VW.iload dL_law_1102 rfl ?_
          refine VW.iconst dL_law_1104 ?_
          refine VW.iadd dL_law_1105 ?_
          refine VW.sload dL_law_1106 (by omega) (by omega) (by omega) ?_
          refine VW.fiV1 cv_L_law_X8_reading dL_law_1107 (Nat.le_of_ble_eq_true rfl) (by omega) hm.2.1 (t_reading hst hm hM1 okk.1 (hX _)) (fun r2 μ2 h2 => ?_)
          obtain ⟨rfl, h5, hf2⟩ := h2
          have hA2 : hasA μ2 (mk xs ys C S Z B) := hA1.keep (frK_frm hf2 (by decide)) (by omega)
          have hM2 : hasMA μ2 (mk xs ys C S Z B) := hM1.keepL hf2
          have ok2 : okA (mk xs ys C S Z B) := okk
          refine VW.istore (lv' := [(0, _), (1, _), (2, _), (3, _), (4, _), (5, _), (6, _)]) dL_law_1110 (by decide) rfl ?_
          refine VW.aload_n dL_law_1112 rfl ?_
          refine VW.pV0 cv_L_law_X8_thrown dL_law_1113 (Nat.le_of_ble_eq_true rfl) (by omega) hm.2.1 (t_thrown hst hm) ?_
          rw [h5]
          refine VW.iload dL_law_1116 rfl ?_
          refine VW.icmp_eqS 1123 dL_law_1118 (by decide) ?_
          refine VW.iload dL_law_1123 rfl ?_
          refine VW.if_ne 1140 ⟨by omega, by omega⟩ dL_law_1125 (by decide) (fun c1125 => ?_) (fun c1125 => ?_)
          · refine VW.goto 1417 dL_law_1140 (by decide) ?_
            refine VW.iinc (lv' := [(0, _), (1, _), (2, _), (3, _), (4, _), (5, _), (6, _)]) dL_law_1417 rfl (by decide) rfl ?_
            refine VW.goto 23 dL_law_1420 (by decide) ?_
            refine VW.sub ?_ [0, 1, 2, 3, 4] rfl
            first
            | exact ih (i + 3) _ _ _ _ (by omega) (by omega) (by omega) (by omega) (by omega) hA2 hM2 ok2
            | exact ih (i + 3) _ _ _ _ (by omega) (by omega) (by omega) (by omega) (by omega) hA hMA okk
          · refine VW.aload_n dL_law_1128 rfl ?_
            refine VW.iconst dL_law_1129 ?_
            refine VW.laload dL_law_1130 (by omega) h285 (by omega) (by omega) (by decide) ?_
            rw [show μ2 285 (0 : Int).toNat = w32 (lkReading xs ys C S (gXv G (i + 1).toNat)).2 from (congrFun (hf2.1 285 (by decide) (by decide)) 0).trans (ho1 c1125)]
            refine VW.iload dL_law_1131 rfl ?_
            rw [if_pos c1125]
            refine VW.i2lw dL_law_1133 ?_
            refine VW.lcmpS dL_law_1134 ?_
            refine VW.if_eq 1140 (by decide) dL_law_1135 (by decide) (fun _ => ?_) (fun c1135 => absurd c1135 (by decide))
            refine VW.goto 1417 dL_law_1140 (by decide) ?_
            refine VW.iinc (lv' := [(0, _), (1, _), (2, _), (3, _), (4, _), (5, _), (6, _)]) dL_law_1417 rfl (by decide) rfl ?_
            refine VW.goto 23 dL_law_1420 (by decide) ?_
            refine VW.sub ?_ [0, 1, 2, 3, 4] rfl
            first
            | exact ih (i + 3) _ _ _ _ (by omega) (by omega) (by omega) (by omega) (by omega) hA2 hM2 ok2
            | exact ih (i + 3) _ _ _ _ (by omega) (by omega) (by omega) (by omega) (by omega) hA hMA okk
        · refine VW.tswIn 1143 ⟨by omega, by omega⟩ dL_law_39 (by omega) (by omega) (by rw [hcv]; rfl) (by decide) ?_
          refine VW.aload_n dL_law_1143 rfl ?_
          refine VW.aload_n dL_law_1144 rfl ?_
          refine VW.iload dL_law_1145 rfl ?_
          refine VW.iconst dL_law_1147 ?_
          refine VW.iadd dL_law_1148 ?_
          refine VW.sload dL_law_1149 (by omega) (by omega) (by omega) ?_
          refine VW.aload_n dL_law_1150 rfl ?_
          have hkk : (lkCount xs ys C S Z (gXv G (i + 1).toNat)).1 = 0 ∨ (lkCount xs ys C S Z (gXv G (i + 1).toNat)).1 = 1 := kk_count
          refine VW.hx (av := [.ref (gB G + 0), vI (gXv G (i + 1).toNat), .ref (gB G + 285)]) ch_L_law_L_count dL_law_1151 rfl (Nat.le_of_ble_eq_true rfl) (l_count hst ⟨by omega, hg.2.1⟩ ⟨by omega, h285⟩ (g_count hst hg hG okk (hX _)) hkk) (fun a1 μ1 c1 s1 hc1 hs1 h1 => ?_)
          obtain ⟨rfl, ho1, hA1, hf1⟩ := h1
          have hM1 := hM.same hf1
          refine VW.istore (lv' := [(0, _), (1, _), (2, _), (3, _), (4, _), (5, _)]) dL_law_1154 (by decide) rfl ?_
          refine VW.aload_n dL_law_1156 rfl ?_
          refine VW.aload_n dL_law_1157 rfl ?_
          refine VW.iload dL_law_1158 rfl ?_
          refine VW.iconst dL_law_1160 ?_
          refine VW.iadd dL_law_1161 ?_
          refine VW.sload dL_law_1162 (by omega) (by omega) (by omega) ?_
          refine VW.fiV1 cv_L_law_X8_count dL_law_1163 (Nat.le_of_ble_eq_true rfl) (by omega) hm.2.1 (t_count hst hm hM1 okk.1 (hX _)) (fun r2 μ2 h2 => ?_)
          obtain ⟨rfl, h5, hf2⟩ := h2
          have hA2 : hasA μ2 (mk xs ys C S Z B) := hA1.keep (frK_frm hf2 (by decide)) (by omega)
          have hM2 : hasMA μ2 (mk xs ys C S Z B) := hM1.keepL hf2
          have ok2 : okA (mk xs ys C S Z B) := okk
          refine VW.istore (lv' := [(0, _), (1, _), (2, _), (3, _), (4, _), (5, _), (6, _)]) dL_law_1166 (by decide) rfl ?_
          refine VW.aload_n dL_law_1168 rfl ?_
          refine VW.pV0 cv_L_law_X8_thrown dL_law_1169 (Nat.le_of_ble_eq_true rfl) (by omega) hm.2.1 (t_thrown hst hm) ?_
          rw [h5]
          refine VW.iload dL_law_1172 rfl ?_
          refine VW.icmp_eqS 1179 dL_law_1174 (by decide) ?_
          refine VW.iload dL_law_1179 rfl ?_
          refine VW.if_ne 1196 ⟨by omega, by omega⟩ dL_law_1181 (by decide) (fun c1181 => ?_) (fun c1181 => ?_)
          · refine VW.goto 1417 dL_law_1196 (by decide) ?_
            refine VW.iinc (lv' := [(0, _), (1, _), (2, _), (3, _), (4, _), (5, _), (6, _)]) dL_law_1417 rfl (by decide) rfl ?_
            refine VW.goto 23 dL_law_1420 (by decide) ?_
            refine VW.sub ?_ [0, 1, 2, 3, 4] rfl
            first
            | exact ih (i + 3) _ _ _ _ (by omega) (by omega) (by omega) (by omega) (by omega) hA2 hM2 ok2
            | exact ih (i + 3) _ _ _ _ (by omega) (by omega) (by omega) (by omega) (by omega) hA hMA okk
          · refine VW.aload_n dL_law_1184 rfl ?_
            refine VW.iconst dL_law_1185 ?_
            refine VW.laload dL_law_1186 (by omega) h285 (by omega) (by omega) (by decide) ?_
            rw [show μ2 285 (0 : Int).toNat = w32 (lkCount xs ys C S Z (gXv G (i + 1).toNat)).2 from (congrFun (hf2.1 285 (by decide) (by decide)) 0).trans (ho1 c1181)]
            refine VW.iload dL_law_1187 rfl ?_
            rw [if_pos c1181]
            refine VW.i2lw dL_law_1189 ?_
            refine VW.lcmpS dL_law_1190 ?_
            refine VW.if_eq 1196 (by decide) dL_law_1191 (by decide) (fun _ => ?_) (fun c1191 => absurd c1191 (by decide))
            refine VW.goto 1417 dL_law_1196 (by decide) ?_
            refine VW.iinc (lv' := [(0, _), (1, _), (2, _), (3, _), (4, _), (5, _), (6, _)]) dL_law_1417 rfl (by decide) rfl ?_
            refine VW.goto 23 dL_law_1420 (by decide) ?_
            refine VW.sub ?_ [0, 1, 2, 3, 4] rfl
            first
            | exact ih (i + 3) _ _ _ _ (by omega) (by omega) (by omega) (by omega) (by omega) hA2 hM2 ok2
            | exact ih (i + 3) _ _ _ _ (by omega) (by omega) (by omega) (by omega) (by omega) hA hMA okk
        · refine VW.tswIn 1199 ⟨by omega, by omega⟩ dL_law_39 (by omega) (by omega) (by rw [hcv]; rfl) (by decide) ?_
          refine VW.aload_n dL_law_1199 rfl ?_
          refine VW.aload_n dL_law_1200 rfl ?_
          refine VW.iload dL_law_1201 rfl ?_
          refine VW.iconst dL_law_1203 ?_
          refine VW.iadd dL_law_1204 ?_
          refine VW.sload dL_law_1205 (by omega) (by omega) (by omega) ?_
          refine VW.aload_n dL_law_1206 rfl ?_
          have hkk : (lkSetting S (gXv G (i + 1).toNat)).1 = 0 ∨ (lkSetting S (gXv G (i + 1).toNat)).1 = 1 := kk_setting
          refine VW.hx (av := [.ref (gB G + 0), vI (gXv G (i + 1).toNat), .ref (gB G + 285)]) ch_L_law_L_setting dL_law_1207 rfl (Nat.le_of_ble_eq_true rfl) (l_setting hst ⟨by omega, hg.2.1⟩ ⟨by omega, h285⟩ (g_setting hst hg hG okk (hX _)) hkk) (fun a1 μ1 c1 s1 hc1 hs1 h1 => ?_)
          obtain ⟨rfl, ho1, hA1, hf1⟩ := h1
          have hM1 := hM.same hf1
          refine VW.istore (lv' := [(0, _), (1, _), (2, _), (3, _), (4, _), (5, _)]) dL_law_1210 (by decide) rfl ?_
          refine VW.aload_n dL_law_1212 rfl ?_
          refine VW.aload_n dL_law_1213 rfl ?_
          refine VW.iload dL_law_1214 rfl ?_
          refine VW.iconst dL_law_1216 ?_
          refine VW.iadd dL_law_1217 ?_
          refine VW.sload dL_law_1218 (by omega) (by omega) (by omega) ?_
          refine VW.fiV1 cv_L_law_X8_setting dL_law_1219 (Nat.le_of_ble_eq_true rfl) (by omega) hm.2.1 (t_setting hst hm hM1 okk.1 (hX _)) (fun r2 μ2 h2 => ?_)
          obtain ⟨rfl, h5, hf2⟩ := h2
          have hA2 : hasA μ2 (mk xs ys C S Z B) := hA1.keep (frK_frm hf2 (by decide)) (by omega)
          have hM2 : hasMA μ2 (mk xs ys C S Z B) := hM1.keepL hf2
          have ok2 : okA (mk xs ys C S Z B) := okk
          refine VW.istore (lv' := [(0, _), (1, _), (2, _), (3, _), (4, _), (5, _), (6, _)]) dL_law_1222 (by decide) rfl ?_
          refine VW.aload_n dL_law_1224 rfl ?_
          refine VW.pV0 cv_L_law_X8_thrown dL_law_1225 (Nat.le_of_ble_eq_true rfl) (by omega) hm.2.1 (t_thrown hst hm) ?_
          rw [h5]
          refine VW.iload dL_law_1228 rfl ?_
          refine VW.icmp_eqS 1235 dL_law_1230 (by decide) ?_
          refine VW.iload dL_law_1235 rfl ?_
          refine VW.if_ne 1252 ⟨by omega, by omega⟩ dL_law_1237 (by decide) (fun c1237 => ?_) (fun c1237 => ?_)
          · refine VW.goto 1417 dL_law_1252 (by decide) ?_
            refine VW.iinc (lv' := [(0, _), (1, _), (2, _), (3, _), (4, _), (5, _), (6, _)]) dL_law_1417 rfl (by decide) rfl ?_
            refine VW.goto 23 dL_law_1420 (by decide) ?_
            refine VW.sub ?_ [0, 1, 2, 3, 4] rfl
            first
            | exact ih (i + 3) _ _ _ _ (by omega) (by omega) (by omega) (by omega) (by omega) hA2 hM2 ok2
            | exact ih (i + 3) _ _ _ _ (by omega) (by omega) (by omega) (by omega) (by omega) hA hMA okk
          · refine VW.aload_n dL_law_1240 rfl ?_
            refine VW.iconst dL_law_1241 ?_
            refine VW.laload dL_law_1242 (by omega) h285 (by omega) (by omega) (by decide) ?_
            rw [show μ2 285 (0 : Int).toNat = w32 (lkSetting S (gXv G (i + 1).toNat)).2 from (congrFun (hf2.1 285 (by decide) (by decide)) 0).trans (ho1 c1237)]
            refine VW.iload dL_law_1243 rfl ?_
            rw [if_pos c1237]
            refine VW.i2lw dL_law_1245 ?_
            refine VW.lcmpS dL_law_1246 ?_
            refine VW.if_eq 1252 (by decide) dL_law_1247 (by decide) (fun _ => ?_) (fun c1247 => absurd c1247 (by decide))
            refine VW.goto 1417 dL_law_1252 (by decide) ?_
            refine VW.iinc (lv' := [(0, _), (1, _), (2, _), (3, _), (4, _), (5, _), (6, _)]) dL_law_1417 rfl (by decide) rfl ?_
            refine VW.goto 23 dL_law_1420 (by decide) ?_
            refine VW.sub ?_ [0, 1, 2, 3, 4] rfl
            first
            | exact ih (i + 3) _ _ _ _ (by omega) (by omega) (by omega) (by omega) (by omega) hA2 hM2 ok2
            | exact ih (i + 3) _ _ _ _ (by omega) (by omega) (by omega) (by omega) (by omega) hA hMA okk
        · refine VW.tswIn 1255 ⟨by omega, by omega⟩ dL_law_39 (by omega) (by omega) (by rw [hcv]; rfl) (by decide) ?_
          refine VW.aload_n dL_law_1255 rfl ?_
          refine VW.aload_n dL_law_1256 rfl ?_
          refine VW.iload dL_law_1257 rfl ?_
          refine VW.iconst dL_law_1259 ?_
          refine VW.iadd dL_law_1260 ?_
          refine VW.sload dL_law_1261 (by omega) (by omega) (by omega) ?_
          refine VW.aload_n dL_law_1262 rfl ?_
          refine VW.iload dL_law_1263 rfl ?_
          refine VW.iconst dL_law_1265 ?_
          refine VW.iadd dL_law_1266 ?_
          refine VW.sload dL_law_1267 (by omega) (by omega) (by omega) ?_
          refine VW.aload_n dL_law_1268 rfl ?_
          have hkk : (lkIfPoint xs ys C S (gXv G (i + 1).toNat) (gXv G (i + 2).toNat)).1 = 0 ∨ (lkIfPoint xs ys C S (gXv G (i + 1).toNat) (gXv G (i + 2).toNat)).1 = 1 := kk_ifPoint
          refine VW.hx (av := [.ref (gB G + 0), vI (gXv G (i + 1).toNat), vI (gXv G (i + 2).toNat), .ref (gB G + 285)]) ch_L_law_L_ifPoint dL_law_1269 rfl (Nat.le_of_ble_eq_true rfl) (l_ifPoint hst ⟨by omega, hg.2.1⟩ ⟨by omega, h285⟩ (g_ifPoint hst hg hG okk (hX _) (hX _)) hkk) (fun a1 μ1 c1 s1 hc1 hs1 h1 => ?_)
          obtain ⟨rfl, ho1, hA1, hf1⟩ := h1
          have hM1 := hM.same hf1
          refine VW.istore (lv' := [(0, _), (1, _), (2, _), (3, _), (4, _), (5, _)]) dL_law_1272 (by decide) rfl ?_
          refine VW.aload_n dL_law_1274 rfl ?_
          refine VW.aload_n dL_law_1275 rfl ?_
          refine VW.iload dL_law_1276 rfl ?_
          refine VW.iconst dL_law_1278 ?_
          refine VW.iadd dL_law_1279 ?_
          refine VW.sload dL_law_1280 (by omega) (by omega) (by omega) ?_
          refine VW.aload_n dL_law_1281 rfl ?_
          refine VW.iload dL_law_1282 rfl ?_
          refine VW.iconst dL_law_1284 ?_
          refine VW.iadd dL_law_1285 ?_
          refine VW.sload dL_law_1286 (by omega) (by omega) (by omega) ?_
          refine VW.fiV2 cv_L_law_X8_ifPoint dL_law_1287 (Nat.le_of_ble_eq_true rfl) (by omega) hm.2.1 (t_ifPoint hst hm hM1 okk.1 (hX _) (hX _)) (fun r2 μ2 h2 => ?_)
          obtain ⟨rfl, h5, hf2⟩ := h2
          have hA2 : hasA μ2 (mk xs ys C S Z B) := hA1.keep (frK_frm hf2 (by decide)) (by omega)
          have hM2 : hasMA μ2 (mk xs ys C S Z B) := hM1.keepL hf2
          have ok2 : okA (mk xs ys C S Z B) := okk
          refine VW.istore (lv' := [(0, _), (1, _), (2, _), (3, _), (4, _), (5, _), (6, _)]) dL_law_1290 (by decide) rfl ?_
          refine VW.aload_n dL_law_1292 rfl ?_
          refine VW.pV0 cv_L_law_X8_thrown dL_law_1293 (Nat.le_of_ble_eq_true rfl) (by omega) hm.2.1 (t_thrown hst hm) ?_
          rw [h5]
          refine VW.iload dL_law_1296 rfl ?_
          refine VW.icmp_eqS 1303 dL_law_1298 (by decide) ?_
          refine VW.iload dL_law_1303 rfl ?_
          refine VW.if_ne 1320 ⟨by omega, by omega⟩ dL_law_1305 (by decide) (fun c1305 => ?_) (fun c1305 => ?_)
          · refine VW.goto 1417 dL_law_1320 (by decide) ?_
            refine VW.iinc (lv' := [(0, _), (1, _), (2, _), (3, _), (4, _), (5, _), (6, _)]) dL_law_1417 rfl (by decide) rfl ?_
            refine VW.goto 23 dL_law_1420 (by decide) ?_
            refine VW.sub ?_ [0, 1, 2, 3, 4] rfl
            first
            | exact ih (i + 3) _ _ _ _ (by omega) (by omega) (by omega) (by omega) (by omega) hA2 hM2 ok2
            | exact ih (i + 3) _ _ _ _ (by omega) (by omega) (by omega) (by omega) (by omega) hA hMA okk
          · refine VW.aload_n dL_law_1308 rfl ?_
            refine VW.iconst dL_law_1309 ?_
            refine VW.laload dL_law_1310 (by omega) h285 (by omega) (by omega) (by decide) ?_
            rw [show μ2 285 (0 : Int).toNat = w32 (lkIfPoint xs ys C S (gXv G (i + 1).toNat) (gXv G (i + 2).toNat)).2 from (congrFun (hf2.1 285 (by decide) (by decide)) 0).trans (ho1 c1305)]
            refine VW.iload dL_law_1311 rfl ?_
            rw [if_pos c1305]
            refine VW.i2lw dL_law_1313 ?_
            refine VW.lcmpS dL_law_1314 ?_
            refine VW.if_eq 1320 (by decide) dL_law_1315 (by decide) (fun _ => ?_) (fun c1315 => absurd c1315 (by decide))
            refine VW.goto 1417 dL_law_1320 (by decide) ?_
            refine VW.iinc (lv' := [(0, _), (1, _), (2, _), (3, _), (4, _), (5, _), (6, _)]) dL_law_1417 rfl (by decide) rfl ?_
            refine VW.goto 23 dL_law_1420 (by decide) ?_
            refine VW.sub ?_ [0, 1, 2, 3, 4] rfl
            first
            | exact ih (i + 3) _ _ _ _ (by omega) (by omega) (by omega) (by omega) (by omega) hA2 hM2 ok2
            | exact ih (i + 3) _ _ _ _ (by omega) (by omega) (by omega) (by omega) (by omega) hA hMA okk
        · refine VW.tswIn 1323 ⟨by omega, by omega⟩ dL_law_39 (by omega) (by omega) (by rw [hcv]; rfl) (by decide) ?_
          refine VW.aload_n dL_law_1323 rfl ?_
          refine VW.pV0 cv_L_law_X7_against dL_law_1324 (Nat.le_of_ble_eq_true rfl) (by omega) hg.2.1 (g_against hst hg hG okk) ?_
          refine VW.aload_n dL_law_1327 rfl ?_
          refine VW.fiV0 cv_L_law_X8_against dL_law_1328 (Nat.le_of_ble_eq_true rfl) (by omega) hm.2.1 (t_against hst hm hM okk.1) (fun r2 μ2 h2 => ?_)
          obtain ⟨rfl, hf2⟩ := h2
          have hA2 : hasA μ2 (mk xs ys C S Z B) := hasA.keep hA (frK_frm hf2 (by decide)) (by omega)
          have hM2 : hasMA μ2 (mk xs ys C S Z B) := hM.keepL hf2
          have ok2 : okA (mk xs ys C S Z B) := okk
          refine VW.icmp_eqS 1417 dL_law_1331 (by decide) ?_
          refine VW.iinc (lv' := [(0, _), (1, _), (2, _), (3, _), (4, _)]) dL_law_1417 rfl (by decide) rfl ?_
          refine VW.goto 23 dL_law_1420 (by decide) ?_
          refine VW.sub ?_ [0, 1, 2, 3, 4] rfl
          first
          | exact ih (i + 3) _ _ _ _ (by omega) (by omega) (by omega) (by omega) (by omega) hA2 hM2 ok2
          | exact ih (i + 3) _ _ _ _ (by omega) (by omega) (by omega) (by omega) (by omega) hA hMA okk
        · refine VW.tswIn 1336 ⟨by omega, by omega⟩ dL_law_39 (by omega) (by omega) (by rw [hcv]; rfl) (by decide) ?_
          refine VW.aload_n dL_law_1336 rfl ?_
          refine VW.fiV0 cv_L_law_X7_mostForgiven dL_law_1337 (Nat.le_of_ble_eq_true rfl) (by omega) hg.2.1 (g_mostForgiven hst hg hG okk) (fun r1 μ1 h1 => ?_)
          obtain ⟨rfl, hf1⟩ := h1
          have hA1 : hasA μ1 (mk xs ys C S Z B) := hasG.keep hG hf1 (by omega) (by omega)
          have hM1 := hM.same (fun i h1 h2 => hf1 i (by omega))
          refine VW.aload_n dL_law_1340 rfl ?_
          refine VW.fiV0 cv_L_law_X8_mostForgiven dL_law_1341 (Nat.le_of_ble_eq_true rfl) (by omega) hm.2.1 (t_mostForgiven hst hm hM1 okk.1) (fun r2 μ2 h2 => ?_)
          obtain ⟨rfl, hf2⟩ := h2
          have hA2 : hasA μ2 (mk xs ys C S Z B) := hasA.keep hA1 (frK_frm hf2 (by decide)) (by omega)
          have hM2 : hasMA μ2 (mk xs ys C S Z B) := hM1.keepL hf2
          have ok2 : okA (mk xs ys C S Z B) := okk
          refine VW.icmp_eqS 1417 dL_law_1344 (by decide) ?_
          refine VW.iinc (lv' := [(0, _), (1, _), (2, _), (3, _), (4, _)]) dL_law_1417 rfl (by decide) rfl ?_
          refine VW.goto 23 dL_law_1420 (by decide) ?_
          refine VW.sub ?_ [0, 1, 2, 3, 4] rfl
          first
          | exact ih (i + 3) _ _ _ _ (by omega) (by omega) (by omega) (by omega) (by omega) hA2 hM2 ok2
          | exact ih (i + 3) _ _ _ _ (by omega) (by omega) (by omega) (by omega) (by omega) hA hMA okk
        · refine VW.tswIn 1349 ⟨by omega, by omega⟩ dL_law_39 (by omega) (by omega) (by rw [hcv]; rfl) (by decide) ?_
          refine VW.aload_n dL_law_1349 rfl ?_
          refine VW.pV0 cv_L_law_X7_straightness dL_law_1350 (Nat.le_of_ble_eq_true rfl) (by omega) hg.2.1 (g_straightness hst hg hG okk) ?_
          refine VW.aload_n dL_law_1353 rfl ?_
          refine VW.fiV0 cv_L_law_X8_straightness dL_law_1354 (Nat.le_of_ble_eq_true rfl) (by omega) hm.2.1 (t_straightness hst hm hM okk.1) (fun r2 μ2 h2 => ?_)
          obtain ⟨rfl, hf2⟩ := h2
          have hA2 : hasA μ2 (mk xs ys C S Z B) := hasA.keep hA (frK_frm hf2 (by decide)) (by omega)
          have hM2 : hasMA μ2 (mk xs ys C S Z B) := hM.keepL hf2
          have ok2 : okA (mk xs ys C S Z B) := okk
          refine VW.icmp_eqS 1417 dL_law_1357 (by decide) ?_
          refine VW.iinc (lv' := [(0, _), (1, _), (2, _), (3, _), (4, _)]) dL_law_1417 rfl (by decide) rfl ?_
          refine VW.goto 23 dL_law_1420 (by decide) ?_
          refine VW.sub ?_ [0, 1, 2, 3, 4] rfl
          first
          | exact ih (i + 3) _ _ _ _ (by omega) (by omega) (by omega) (by omega) (by omega) hA2 hM2 ok2
          | exact ih (i + 3) _ _ _ _ (by omega) (by omega) (by omega) (by omega) (by omega) hA hMA okk
        · refine VW.tswIn 1362 ⟨by omega, by omega⟩ dL_law_39 (by omega) (by omega) (by rw [hcv]; rfl) (by decide) ?_
          refine VW.aload_n dL_law_1362 rfl ?_
          refine VW.uV0 cv_L_law_X7_doubt dL_law_1363 (Nat.le_of_ble_eq_true rfl) (by omega) hg.2.1 (g_doubt hst hg hG okk) ?_
          refine VW.dstore (lv' := [(0, _), (1, _), (2, _), (3, _), (4, _), (5, _)]) dL_law_1366 (by decide) rfl ?_
          refine VW.aload_n dL_law_1368 rfl ?_
          refine VW.fdV0 cv_L_law_X8_doubt dL_law_1369 (Nat.le_of_ble_eq_true rfl) (by omega) hm.2.1 (t_doubt hst hm hM okk.1) (fun r2 μ2 h2 => ?_)
          obtain ⟨rfl, hf2⟩ := h2
          have hA2 : hasA μ2 (mk xs ys C S Z B) := hasA.keep hA (frK_frm hf2 (by decide)) (by omega)
          have hM2 : hasMA μ2 (mk xs ys C S Z B) := hM.keepL hf2
          have ok2 : okA (mk xs ys C S Z B) := okk
          refine VW.dstore (lv' := [(0, _), (1, _), (2, _), (3, _), (4, _), (5, _), (7, _)]) dL_law_1372 (by decide) rfl ?_
          refine VW.dload dL_law_1374 rfl ?_
          refine VW.dload dL_law_1376 rfl ?_
          refine VW.dcmp (x := 0) dL_law_1378 (by rw [dbt_s okk.1]; rfl) ?_
          refine VW.if_eq 1400 ⟨by omega, by omega⟩ dL_law_1379 (by decide) (fun c1379 => ?_) (fun c1379 => absurd rfl c1379)
          refine VW.goto 1417 dL_law_1400 (by decide) ?_
          refine VW.iinc (lv' := [(0, _), (1, _), (2, _), (3, _), (4, _), (5, _), (7, _)]) dL_law_1417 rfl (by decide) rfl ?_
          refine VW.goto 23 dL_law_1420 (by decide) ?_
          refine VW.sub ?_ [0, 1, 2, 3, 4] rfl
          first
          | exact ih (i + 3) _ _ _ _ (by omega) (by omega) (by omega) (by omega) (by omega) hA2 hM2 ok2
          | exact ih (i + 3) _ _ _ _ (by omega) (by omega) (by omega) (by omega) (by omega) hA hMA okk
        · refine VW.tswIn 1403 ⟨by omega, by omega⟩ dL_law_39 (by omega) (by omega) (by rw [hcv]; rfl) (by decide) ?_
          refine VW.aload_n dL_law_1403 rfl ?_
          refine VW.flV0 cv_L_law_X7_digest dL_law_1404 (Nat.le_of_ble_eq_true rfl) (by omega) hg.2.1 (g_digest hst hg hG okk) (fun r1 μ1 h1 => ?_)
          obtain ⟨rfl, hA1, hf1⟩ := h1
          replace hA1 : hasA μ1 (mk xs ys C S Z B) := hA1
          have hM1 := hM.same (fun i h1 h2 => hf1 i (by omega))
          refine VW.aload_n dL_law_1407 rfl ?_
          refine VW.flV0 cv_L_law_X8_digest dL_law_1408 (Nat.le_of_ble_eq_true rfl) (by omega) hm.2.1 (t_digest hst hm hM1 okk) (fun r2 μ2 h2 => ?_)
          obtain ⟨rfl, hf2⟩ := h2
          have hA2 : hasA μ2 (mk xs ys C S Z B) := hasA.keep hA1 (frK_frm hf2 (by decide)) (by omega)
          have hM2 : hasMA μ2 (mk xs ys C S Z B) := hM1.keepL hf2
          have ok2 : okA (mk xs ys C S Z B) := okk
          refine VW.lcmpS dL_law_1411 ?_
          refine VW.if_eq 1417 (by decide) dL_law_1412 (by decide) (fun _ => ?_) (fun c1412 => absurd c1412 (by decide))
          refine VW.iinc (lv' := [(0, _), (1, _), (2, _), (3, _), (4, _)]) dL_law_1417 rfl (by decide) rfl ?_
          refine VW.goto 23 dL_law_1420 (by decide) ?_
          refine VW.sub ?_ [0, 1, 2, 3, 4] rfl
          first
          | exact ih (i + 3) _ _ _ _ (by omega) (by omega) (by omega) (by omega) (by omega) hA2 hM2 ok2
          | exact ih (i + 3) _ _ _ _ (by omega) (by omega) (by omega) (by omega) (by omega) hA hMA okk
      · refine VW.tswOut 1417 ⟨by omega, by omega⟩ dL_law_39 (by omega) (by decide) ?_
        refine VW.iinc (lv' := [(0, _), (1, _), (2, _), (3, _), (4, _)]) dL_law_1417 rfl (by decide) rfl ?_
        refine VW.goto 23 dL_law_1420 (by decide) ?_
        refine VW.sub ?_ [0, 1, 2, 3, 4] rfl
        first
        | exact ih (i + 3) _ _ _ _ (by omega) (by omega) (by omega) (by omega) (by omega) hA2 hM2 ok2
        | exact ih (i + 3) _ _ _ _ (by omega) (by omega) (by omega) (by omega) (by omega) hA hMA okk
theorem law_all (hst : l.stackTraces = false) (hn : gXn G ≤ 1536) (hX : ∀ j, R32 (gXv G j)) : VW G l (some 0) M_L_law 0 [(0, .ref (gXb G))] [] (0, sh, μ) 0 0 lwF := by
  refine VW.new (n0 := 0) dL_law_0 na_L_8 rfl (by omega) ?_
  refine VW.nmd (N' := 1) (k' := 1) (n' := 9) (by omega) (by omega) (by omega) (fun shB1 μB1 hB1 mB1 => ?_)
  refine VW.dup dL_law_3 rfl ?_
  refine VW.kI (b := 0) (av := []) (n0 := 0) ci_L_law_X7_init dL_law_4 rfl (Nat.le_of_ble_eq_true rfl) rfl (by omega) (i_gest hst (by rw [hB1]; exact fup_s _ _ _) (fun k => by rw [mB1, fup_s])) (fun shC1 μC1 hC1 => ?_)
  refine VW.astore_n (lv' := [(0, _), (1, _)]) dL_law_7 (by decide) rfl ?_
  refine VW.nmd (N' := 273) (k' := 273) (n' := 2112) (by omega) (by omega) (by omega) (fun shD1 μD1 hD1 mD1 => ?_)
  subst hD1
  subst mD1
  refine VW.new (n0 := 0) dL_law_8 na_L_76 rfl (by omega) ?_
  refine VW.nmd (N' := 274) (k' := 274) (n' := 2130) (by omega) (by omega) (by omega) (fun shB2 μB2 hB2 mB2 => ?_)
  refine VW.dup dL_law_11 rfl ?_
  refine VW.kI (b := 273) (av := []) (n0 := 0) ci_L_law_X8_init dL_law_12 rfl (Nat.le_of_ble_eq_true rfl) rfl (by omega) (i_model hst (by rw [hB2]; exact fup_s _ _ _) (fun k => by rw [mB2, fup_s])) (fun shC2 μC2 hC2 => ?_)
  refine VW.astore_n (lv' := [(0, _), (1, _), (2, _)]) dL_law_15 (by decide) rfl ?_
  refine VW.iconst dL_law_16 ?_
  refine VW.newL (n0 := 0) dL_law_17 wd_1321 rfl (by omega) ⟨by omega, by omega⟩ ?_
  refine VW.nmd (N' := 286) (k' := 286) (n' := 3721) (by omega) (by omega) (by omega) (fun shE μE hE mE => ?_)
  refine VW.astore_n (lv' := [(0, _), (1, _), (2, _), (3, _)]) dL_law_19 (by decide) rfl ?_
  refine VW.iconst dL_law_20 ?_
  refine VW.istore (lv' := [(0, _), (1, _), (2, _), (3, _), (4, _)]) dL_law_21 (by decide) rfl ?_
  have hg : isG 286 shE := hC1.2.1.agr (fun i h1 h2 => by rw [hE, fup_n (by omega), (hC2.1 i (by omega)).1, hB2, fup_n (by omega)]) (by omega)
  have hm : isM 286 shE := hC2.2.1.agr (fun i h1 h2 => by rw [hE]; exact fup_n (by omega)) (by omega)
  have h285 : shE 285 = sL 1 := by rw [hE]; exact fup_s _ _ _
  have hA : hasA μE (mk [] [] [] S0 [] []) := by
    exact hasA0_low hC1.2.2 (fun i h1 => by rw [mE, fup_n (by omega), (hC2.1 i (by omega)).2, mB2, fup_n (by omega)])
  have hMA : hasMA μE (mk [] [] [] S0 [] []) := hC2.2.2.same (fun i h1 h2 => by rw [mE]; exact fup_n h2)
  have ok : okA (mk [] [] [] S0 [] []) := okA0
  exact lp_law hst hn hX hg hm h285 (gXn G) 0 286 3721 μE _ (by omega) (by omega) (by omega) (by omega) (by omega) hA hMA ok
end PLAW
