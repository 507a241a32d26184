/-! ===== digest: the model's ===== -/
theorem idiv4k : ∀ k : Fin 200, Int32.ofInt (k.val : Int) / Int32.ofInt 4 = Int32.ofInt ((k.val : Int) / 4) := by decide +kernel
theorem irem4k : ∀ k : Fin 200, Int32.ofInt (k.val : Int) - Int32.ofInt (k.val : Int) / Int32.ofInt 4 * Int32.ofInt 4 = Int32.ofInt ((k.val : Int) % 4) := by decide +kernel
theorem idiv4 {z : Int} (h : 0 ≤ z ∧ z < 200) : Int32.ofInt z / Int32.ofInt 4 = Int32.ofInt (z / 4) := by
  have e := idiv4k ⟨z.toNat, by omega⟩
  simp only [] at e
  rw [show ((z.toNat : Nat) : Int) = z by omega] at e
  exact e
theorem irem4 {z : Int} (h : 0 ≤ z ∧ z < 200) : Int32.ofInt z - Int32.ofInt z / Int32.ofInt 4 * Int32.ofInt 4 = Int32.ofInt (z % 4) := by
  have e := irem4k ⟨z.toNat, by omega⟩
  simp only [] at e
  rw [show ((z.toNat : Nat) : Int) = z by omega] at e
  exact e
section PDM
variable {G : GT} {l : Launch} {N : Nat} {sh : Nat → ShT} {μ μ' : Mem} {xs ys S B : List Int} {C : List (List Int)} {Z : List St} {c : Int}
theorem mix2 {μ2 μ3 : Mem} {h v : Int} (f : frK aL bL μ μ2) (e : μ2 273 17 = h) (q : μ3 = mup μ2 273 17 (31 * μ2 273 17 + v)) : frK aL bL μ μ3 ∧ μ3 273 17 = 31 * h + v := by
  subst q
  exact ⟨f.tr ((frK_f : frK [] [17] μ2 _).wid (by decide) (by decide)), by rw [mup_s, e]⟩
theorem arr.keepL {μ1 : Mem} {L : List Int} (h : arr μ 276 L) (f : frK aL bL μ μ1) : arr μ1 276 L := fun k hk => by rw [f.1 276 (by decide) (by decide)]; exact h k hk
theorem t_mix (hst : l.stackTraces = false) (hm : isM N sh) : Zv G l N sh M_X8_mix [.ref (gB G + 273), vL c] μ (fun μ' => μ' = mup μ 273 17 (31 * μ 273 17 + c)) := by
  refine Fx.of hst rfl (by decide +kernel) (Nat.le_of_ble_eq_true rfl) rfl ?_
  refine VW.aload_n dX8_mix_0 rfl ?_
  refine VW.ldc2 (a := 31) dX8_mix_1 wd_1302 ?_
  refine VW.aload_n dX8_mix_4 rfl ?_
  refine VW.getL dX8_mix_5 fa_X8_269 (by have := hm.1; omega) hm.2.1 rfl ?_
  refine VW.lmul dX8_mix_8 ?_
  refine VW.lload_n dX8_mix_9 rfl ?_
  refine VW.ladd dX8_mix_10 ?_
  refine VW.putL dX8_mix_11 fp_X8_269 (by have := hm.1; omega) hm.2.1 rfl ?_
  refine VW.vreturn dX8_mix_14 rfl ?_
  exact fxP.vv rfl
theorem lp_mp1 (hst : l.stackTraces = false) (hm : isM N sh) (h0 : hasM μ xs ys C S Z B) (ok : okA (mk xs ys C S Z B)) {H : Int} {Φ : RT → Prop} : ∀ (n : Nat) (i h : Int) (μ1 : Mem), 0 ≤ i → i + n = 4 * (xs.length : Int) → frK aL bL μ μ1 → μ1 273 17 = h → mf (fun k => ptV xs ys (k / 4) (k % 4)) n i h = H → (∀ μ2, frK aL bL μ μ2 → μ2 273 17 = H → VW G l none M_X8_mixPath 35 [(0, .ref (gB G + 273)), (1, vI (4 * (xs.length : Int)))] [] (N, sh, μ2) 0 0 Φ) → VW G l none M_X8_mixPath 2 [(0, .ref (gB G + 273)), (1, vI (i))] [] (N, sh, μ1) 0 0 Φ := by
  obtain ⟨ok0, ⟨ok9, ok10⟩, ok11, ok12⟩ := okA.un ok
  have okS0 : okS ((xs, ys), C, S) := ok.1
  obtain ⟨⟨ok1, ok2, ok3, ok4⟩, ⟨ok5, ok6, ok7⟩, ok8⟩ := okS.un okS0
  obtain ⟨hz, hn, hh, hb, hB⟩ := id h0
  have rk := rn_ok ok3 ok4 (by omega : xs.length ≤ 41)
  have rk2 := rk.2.1
  have sk := stk_ok (S := S) ok3 ok4 (by omega : xs.length ≤ 41)
  have sk1 := sk.1
  intro n
  induction n with
  | zero =>
    intro i h μ1 hi0 hi1 hf1 e1 e K
    have z1 := hz.keep hf1 (by decide)
    have n1 : μ1 273 1 = (Z.length : Int) := (hf1.2 1 (by decide)).trans hn
    have b1 : μ1 273 3 = (B.length : Int) := (hf1.2 3 (by decide)).trans hb
    have z51 : μ1 274 5 = (xs.length : Int) := z1.2.1
    have z61 : μ1 274 6 = (C.length : Int) := z1.2.2.1
    refine VW.iload_n dX8_mixPath_2 rfl ?_
    refine VW.iconst dX8_mixPath_3 ?_
    refine VW.aload_n dX8_mixPath_4 rfl ?_
    refine VW.getR dX8_mixPath_5 fa_X8_7 (by have := hm.1; omega) hm.2.1 rfl ?_
    refine VW.iconst dX8_mixPath_8 ?_
    refine VW.iaload dX8_mixPath_9 (by have := hm.1; omega) hm.2.2.1 (by omega) (by omega) (by decide) ?_
    rw [show (5 : Int).toNat = 5 from rfl, z51]
    refine VW.imul dX8_mixPath_10 ?_
    refine VW.icmp_ge 35 ⟨by omega, by omega⟩ ⟨by omega, by omega⟩ dX8_mixPath_11 (by decide) (fun c11 => ?_) (fun c11 => by omega)
    obtain rfl : i = 4 * (xs.length : Int) := by omega
    subst e
    exact K μ1 hf1 e1
  | succ n ih =>
    intro i h μ1 hi0 hi1 hf1 e1 e K
    have z1 := hz.keep hf1 (by decide)
    have n1 : μ1 273 1 = (Z.length : Int) := (hf1.2 1 (by decide)).trans hn
    have b1 : μ1 273 3 = (B.length : Int) := (hf1.2 3 (by decide)).trans hb
    have z51 : μ1 274 5 = (xs.length : Int) := z1.2.1
    have z61 : μ1 274 6 = (C.length : Int) := z1.2.2.1
    refine VW.iload_n dX8_mixPath_2 rfl ?_
    refine VW.iconst dX8_mixPath_3 ?_
    refine VW.aload_n dX8_mixPath_4 rfl ?_
    refine VW.getR dX8_mixPath_5 fa_X8_7 (by have := hm.1; omega) hm.2.1 rfl ?_
    refine VW.iconst dX8_mixPath_8 ?_
    refine VW.iaload dX8_mixPath_9 (by have := hm.1; omega) hm.2.2.1 (by omega) (by omega) (by decide) ?_
    rw [show (5 : Int).toNat = 5 from rfl, z51]
    refine VW.imul dX8_mixPath_10 ?_
    refine VW.icmp_ge 35 ⟨by omega, by omega⟩ ⟨by omega, by omega⟩ dX8_mixPath_11 (by decide) (fun c11 => by omega) (fun c11 => ?_)
    refine VW.aload_n dX8_mixPath_14 rfl ?_
    refine VW.aload_n dX8_mixPath_15 rfl ?_
    refine VW.iload_n dX8_mixPath_16 rfl ?_
    refine VW.iconst dX8_mixPath_17 ?_
    refine VW.idiv (x := (i / 4)) dX8_mixPath_18 (i32_ne0 (by decide)) (idiv4 ⟨by omega, by omega⟩) ?_
    refine VW.iload_n dX8_mixPath_19 rfl ?_
    refine VW.iconst dX8_mixPath_20 ?_
    refine VW.irem (x := (i % 4)) dX8_mixPath_21 (i32_ne0 (by decide)) (irem4 ⟨by omega, by omega⟩) ?_
    refine VW.fiV2 cv_X8_mixPath_X8_pointNow dX8_mixPath_22 (Nat.le_of_ble_eq_true rfl) (by have := hm.1; omega) hm.2.1 (t_pointNow hst hm z1 okS0 (p := i / 4) (w := i % 4) ⟨by omega, by omega⟩ ⟨by omega, by omega⟩) (fun r2 μ2 h2 => ?_)
    obtain ⟨q2, g2⟩ := h2
    replace q2 : r2 = ptV xs ys (i / 4) (i % 4) := q2
    subst q2
    have e2 := (g2.2 17 (by decide)).trans e1
    have hf2 := hf1.tr (g2.wid (by decide) (by decide))
    refine VW.i2lw dX8_mixPath_25 ?_
    refine VW.fvV1 cv_X8_mixPath_X8_mix dX8_mixPath_26 (Nat.le_of_ble_eq_true rfl) (by have := hm.1; omega) hm.2.1 (t_mix hst hm) (fun μ3 h3 => ?_)
    obtain ⟨hf3, e3⟩ := mix2 (v := w32 (ptV xs ys (i / 4) (i % 4))) hf2 e2 h3
    refine VW.iinc (lv' := [(0, _), (1, _)]) dX8_mixPath_29 rfl (by decide) rfl ?_
    refine VW.goto 2 dX8_mixPath_32 (by decide) ?_
    exact ih (i + 1) _ μ3 (by omega) (by omega) hf3 e3 e K
theorem lp_mp2 (hst : l.stackTraces = false) (hm : isM N sh) (h0 : hasM μ xs ys C S Z B) (ok : okA (mk xs ys C S Z B)) {H : Int} {Φ : RT → Prop} : ∀ (n : Nat) (i h : Int) (μ1 : Mem), 0 ≤ i → i + n = 4 * ((rnD xs ys).length : Int) → frK aL bL μ μ1 → μ1 273 17 = h → mf (fun k => rnV xs ys S (k / 4) (k % 4)) n i h = H → (∀ μ2, frK aL bL μ μ2 → μ2 273 17 = H → VW G l none M_X8_mixPath 70 [(0, .ref (gB G + 273)), (1, vI ((rnD xs ys).length : Int)), (2, vI (4 * ((rnD xs ys).length : Int)))] [] (N, sh, μ2) 0 0 Φ) → VW G l none M_X8_mixPath 42 [(0, .ref (gB G + 273)), (1, vI ((rnD xs ys).length : Int)), (2, vI (i))] [] (N, sh, μ1) 0 0 Φ := by
  obtain ⟨ok0, ⟨ok9, ok10⟩, ok11, ok12⟩ := okA.un ok
  have okS0 : okS ((xs, ys), C, S) := ok.1
  obtain ⟨⟨ok1, ok2, ok3, ok4⟩, ⟨ok5, ok6, ok7⟩, ok8⟩ := okS.un okS0
  obtain ⟨hz, hn, hh, hb, hB⟩ := id h0
  have rk := rn_ok ok3 ok4 (by omega : xs.length ≤ 41)
  have rk2 := rk.2.1
  have sk := stk_ok (S := S) ok3 ok4 (by omega : xs.length ≤ 41)
  have sk1 := sk.1
  intro n
  induction n with
  | zero =>
    intro i h μ1 hi0 hi1 hf1 e1 e K
    have z1 := hz.keep hf1 (by decide)
    have n1 : μ1 273 1 = (Z.length : Int) := (hf1.2 1 (by decide)).trans hn
    have b1 : μ1 273 3 = (B.length : Int) := (hf1.2 3 (by decide)).trans hb
    have z51 : μ1 274 5 = (xs.length : Int) := z1.2.1
    have z61 : μ1 274 6 = (C.length : Int) := z1.2.2.1
    refine VW.iload_n dX8_mixPath_42 rfl ?_
    refine VW.iconst dX8_mixPath_43 ?_
    refine VW.iload_n dX8_mixPath_44 rfl ?_
    refine VW.imul dX8_mixPath_45 ?_
    refine VW.icmp_ge 70 ⟨by omega, by omega⟩ ⟨by omega, by omega⟩ dX8_mixPath_46 (by decide) (fun c46 => ?_) (fun c46 => by omega)
    obtain rfl : i = 4 * ((rnD xs ys).length : Int) := by omega
    subst e
    exact K μ1 hf1 e1
  | succ n ih =>
    intro i h μ1 hi0 hi1 hf1 e1 e K
    have z1 := hz.keep hf1 (by decide)
    have n1 : μ1 273 1 = (Z.length : Int) := (hf1.2 1 (by decide)).trans hn
    have b1 : μ1 273 3 = (B.length : Int) := (hf1.2 3 (by decide)).trans hb
    have z51 : μ1 274 5 = (xs.length : Int) := z1.2.1
    have z61 : μ1 274 6 = (C.length : Int) := z1.2.2.1
    refine VW.iload_n dX8_mixPath_42 rfl ?_
    refine VW.iconst dX8_mixPath_43 ?_
    refine VW.iload_n dX8_mixPath_44 rfl ?_
    refine VW.imul dX8_mixPath_45 ?_
    refine VW.icmp_ge 70 ⟨by omega, by omega⟩ ⟨by omega, by omega⟩ dX8_mixPath_46 (by decide) (fun c46 => by omega) (fun c46 => ?_)
    refine VW.aload_n dX8_mixPath_49 rfl ?_
    refine VW.aload_n dX8_mixPath_50 rfl ?_
    refine VW.iload_n dX8_mixPath_51 rfl ?_
    refine VW.iconst dX8_mixPath_52 ?_
    refine VW.idiv (x := (i / 4)) dX8_mixPath_53 (i32_ne0 (by decide)) (idiv4 ⟨by omega, by omega⟩) ?_
    refine VW.iload_n dX8_mixPath_54 rfl ?_
    refine VW.iconst dX8_mixPath_55 ?_
    refine VW.irem (x := (i % 4)) dX8_mixPath_56 (i32_ne0 (by decide)) (irem4 ⟨by omega, by omega⟩) ?_
    refine VW.fiV2 cv_X8_mixPath_X8_runNow dX8_mixPath_57 (Nat.le_of_ble_eq_true rfl) (by have := hm.1; omega) hm.2.1 (Fx.mono (t_runNow hst hm z1 okS0 (p := i / 4) (w := i % 4) ⟨by omega, by omega⟩ ⟨by omega, by omega⟩) (by rintro o μ2 ⟨v, rfl, x, rfl, q, g⟩; exact ⟨_, rfl, _, rfl, q.trans (if_neg (by omega)), g⟩) : Zi G l N sh M_X8_runNow _ _ (fun r μ' => r = rnV xs ys S (i / 4) (i % 4) ∧ frK aL bN μ1 μ')) (fun r2 μ2 h2 => ?_)
    obtain ⟨q2, g2⟩ := h2
    replace q2 : r2 = rnV xs ys S (i / 4) (i % 4) := q2
    subst q2
    have e2 := (g2.2 17 (by decide)).trans e1
    have hf2 := hf1.tr (g2.wid (by decide) (by decide))
    refine VW.i2lw dX8_mixPath_60 ?_
    refine VW.fvV1 cv_X8_mixPath_X8_mix dX8_mixPath_61 (Nat.le_of_ble_eq_true rfl) (by have := hm.1; omega) hm.2.1 (t_mix hst hm) (fun μ3 h3 => ?_)
    obtain ⟨hf3, e3⟩ := mix2 (v := w32 (rnV xs ys S (i / 4) (i % 4))) hf2 e2 h3
    refine VW.iinc (lv' := [(0, _), (1, _), (2, _)]) dX8_mixPath_64 rfl (by decide) rfl ?_
    refine VW.goto 42 dX8_mixPath_67 (by decide) ?_
    exact ih (i + 1) _ μ3 (by omega) (by omega) hf3 e3 e K
theorem lp_mp3 (hst : l.stackTraces = false) (hm : isM N sh) (h0 : hasM μ xs ys C S Z B) (ok : okA (mk xs ys C S Z B)) {H : Int} {Φ : RT → Prop} : ∀ (n : Nat) (i h : Int) (μ1 : Mem), 0 ≤ i → i + n = ((stk xs ys S).length : Int) → frK aL bL μ μ1 → μ1 273 17 = h → mf (rat (stk xs ys S)) n i h = H → (∀ μ2, frK aL bL μ μ2 → μ2 273 17 = H → VW G l none M_X8_mixPath 98 [(0, .ref (gB G + 273)), (1, vI ((rnD xs ys).length : Int)), (2, vI ((stk xs ys S).length : Int)), (3, vI (((stk xs ys S).length : Int)))] [] (N, sh, μ2) 0 0 Φ) → VW G l none M_X8_mixPath 77 [(0, .ref (gB G + 273)), (1, vI ((rnD xs ys).length : Int)), (2, vI ((stk xs ys S).length : Int)), (3, vI (i))] [] (N, sh, μ1) 0 0 Φ := by
  obtain ⟨ok0, ⟨ok9, ok10⟩, ok11, ok12⟩ := okA.un ok
  have okS0 : okS ((xs, ys), C, S) := ok.1
  obtain ⟨⟨ok1, ok2, ok3, ok4⟩, ⟨ok5, ok6, ok7⟩, ok8⟩ := okS.un okS0
  obtain ⟨hz, hn, hh, hb, hB⟩ := id h0
  have rk := rn_ok ok3 ok4 (by omega : xs.length ≤ 41)
  have rk2 := rk.2.1
  have sk := stk_ok (S := S) ok3 ok4 (by omega : xs.length ≤ 41)
  have sk1 := sk.1
  intro n
  induction n with
  | zero =>
    intro i h μ1 hi0 hi1 hf1 e1 e K
    have z1 := hz.keep hf1 (by decide)
    have n1 : μ1 273 1 = (Z.length : Int) := (hf1.2 1 (by decide)).trans hn
    have b1 : μ1 273 3 = (B.length : Int) := (hf1.2 3 (by decide)).trans hb
    have z51 : μ1 274 5 = (xs.length : Int) := z1.2.1
    have z61 : μ1 274 6 = (C.length : Int) := z1.2.2.1
    refine VW.iload_n dX8_mixPath_77 rfl ?_
    refine VW.iload_n dX8_mixPath_78 rfl ?_
    refine VW.icmp_ge 98 ⟨by omega, by omega⟩ ⟨by omega, by omega⟩ dX8_mixPath_79 (by decide) (fun c79 => ?_) (fun c79 => by omega)
    obtain rfl : i = ((stk xs ys S).length : Int) := by omega
    subst e
    exact K μ1 hf1 e1
  | succ n ih =>
    intro i h μ1 hi0 hi1 hf1 e1 e K
    have z1 := hz.keep hf1 (by decide)
    have n1 : μ1 273 1 = (Z.length : Int) := (hf1.2 1 (by decide)).trans hn
    have b1 : μ1 273 3 = (B.length : Int) := (hf1.2 3 (by decide)).trans hb
    have z51 : μ1 274 5 = (xs.length : Int) := z1.2.1
    have z61 : μ1 274 6 = (C.length : Int) := z1.2.2.1
    refine VW.iload_n dX8_mixPath_77 rfl ?_
    refine VW.iload_n dX8_mixPath_78 rfl ?_
    refine VW.icmp_ge 98 ⟨by omega, by omega⟩ ⟨by omega, by omega⟩ dX8_mixPath_79 (by decide) (fun c79 => by omega) (fun c79 => ?_)
    refine VW.aload_n dX8_mixPath_82 rfl ?_
    refine VW.aload_n dX8_mixPath_83 rfl ?_
    refine VW.iload_n dX8_mixPath_84 rfl ?_
    refine VW.fiV1 cv_X8_mixPath_X8_strokeNow dX8_mixPath_85 (Nat.le_of_ble_eq_true rfl) (by have := hm.1; omega) hm.2.1 (t_strokeNow hst hm z1 okS0 (p := i) ⟨by omega, by omega⟩) (fun r2 μ2 h2 => ?_)
    obtain ⟨q2, g2⟩ := h2
    replace q2 : r2 = rat (stk xs ys S) i := q2
    subst q2
    have e2 := (g2.2 17 (by decide)).trans e1
    have hf2 := hf1.tr (g2.wid (by decide) (by decide))
    refine VW.i2lw dX8_mixPath_88 ?_
    refine VW.fvV1 cv_X8_mixPath_X8_mix dX8_mixPath_89 (Nat.le_of_ble_eq_true rfl) (by have := hm.1; omega) hm.2.1 (t_mix hst hm) (fun μ3 h3 => ?_)
    obtain ⟨hf3, e3⟩ := mix2 (v := w32 (rat (stk xs ys S) i)) hf2 e2 h3
    refine VW.iinc (lv' := [(0, _), (1, _), (2, _), (3, _)]) dX8_mixPath_92 rfl (by decide) rfl ?_
    refine VW.goto 77 dX8_mixPath_95 (by decide) ?_
    exact ih (i + 1) _ μ3 (by omega) (by omega) hf3 e3 e K
theorem t_mixPath (hst : l.stackTraces = false) (hm : isM N sh) (h0 : hasM μ xs ys C S Z B) (ok : okA (mk xs ys C S Z B)) : Zv G l N sh M_X8_mixPath [.ref (gB G + 273)] μ (fun μ' => frK aL bL μ μ' ∧ μ' 273 17 = pthF xs ys S (μ 273 17)) := by
  refine Fx.of hst rfl (by decide +kernel) (Nat.le_of_ble_eq_true rfl) rfl ?_
  obtain ⟨ok0, ⟨ok9, ok10⟩, ok11, ok12⟩ := okA.un ok
  have okS0 : okS ((xs, ys), C, S) := ok.1
  obtain ⟨⟨ok1, ok2, ok3, ok4⟩, ⟨ok5, ok6, ok7⟩, ok8⟩ := okS.un okS0
  obtain ⟨hz, hn, hh, hb, hB⟩ := id h0
  have rk := rn_ok ok3 ok4 (by omega : xs.length ≤ 41)
  have rk2 := rk.2.1
  have sk := stk_ok (S := S) ok3 ok4 (by omega : xs.length ≤ 41)
  have sk1 := sk.1
  refine VW.iconst dX8_mixPath_0 ?_
  refine VW.istore_n (lv' := [(0, _), (1, _)]) dX8_mixPath_1 (by decide) rfl ?_
  refine lp_mp1 hst hm h0 ok (H := mo (ptV xs ys) xs.length 0 (μ 273 17)) (4 * xs.length) 0 _ μ (by omega) (by omega) frK.rf rfl (mo_flat (ptV xs ys) xs.length 0 _) (fun μ1 hf1 e1 => ?_)
  have z1 := hz.keep hf1 (by decide)
  have n1 : μ1 273 1 = (Z.length : Int) := (hf1.2 1 (by decide)).trans hn
  have b1 : μ1 273 3 = (B.length : Int) := (hf1.2 3 (by decide)).trans hb
  have z51 : μ1 274 5 = (xs.length : Int) := z1.2.1
  have z61 : μ1 274 6 = (C.length : Int) := z1.2.2.1
  refine VW.aload_n dX8_mixPath_35 rfl ?_
  refine VW.fiV0 cv_X8_mixPath_X8_manyRuns dX8_mixPath_36 (Nat.le_of_ble_eq_true rfl) (by have := hm.1; omega) hm.2.1 (t_manyRuns hst hm z1 okS0) (fun r2 μ2 h2 => ?_)
  obtain ⟨rfl, -, -, g2⟩ := h2
  have e2 := (g2.2 17 (by decide)).trans e1
  have hf2 := hf1.tr (g2.wid (by decide) (by decide))
  refine VW.istore_n (lv' := [(0, _), (1, _)]) dX8_mixPath_39 (by decide) rfl ?_
  refine VW.iconst dX8_mixPath_40 ?_
  refine VW.istore_n (lv' := [(0, _), (1, _), (2, _)]) dX8_mixPath_41 (by decide) rfl ?_
  refine lp_mp2 hst hm h0 ok (H := mo (rnV xs ys S) (rnD xs ys).length 0 (mo (ptV xs ys) xs.length 0 (μ 273 17))) (4 * (rnD xs ys).length) 0 _ μ2 (by omega) (by omega) hf2 e2 (mo_flat (rnV xs ys S) (rnD xs ys).length 0 _) (fun μ3 hf3 e3 => ?_)
  refine VW.sub ?_ [0, 1] rfl
  have z3 := hz.keep hf3 (by decide)
  have n3 : μ3 273 1 = (Z.length : Int) := (hf3.2 1 (by decide)).trans hn
  have b3 : μ3 273 3 = (B.length : Int) := (hf3.2 3 (by decide)).trans hb
  have z53 : μ3 274 5 = (xs.length : Int) := z3.2.1
  have z63 : μ3 274 6 = (C.length : Int) := z3.2.2.1
  refine VW.aload_n dX8_mixPath_70 rfl ?_
  refine VW.fiV0 cv_X8_mixPath_X8_manyDirections dX8_mixPath_71 (Nat.le_of_ble_eq_true rfl) (by have := hm.1; omega) hm.2.1 (t_manyDirections hst hm z3 okS0) (fun r4 μ4 h4 => ?_)
  obtain ⟨q4, g4⟩ := h4
  replace q4 : r4 = ((stk xs ys S).length : Int) := q4
  subst q4
  have e4 := (g4.2 17 (by decide)).trans e3
  have hf4 := hf3.tr (g4.wid (by decide) (by decide))
  refine VW.istore_n (lv' := [(0, _), (1, _), (2, _)]) dX8_mixPath_74 (by decide) rfl ?_
  refine VW.iconst dX8_mixPath_75 ?_
  refine VW.istore_n (lv' := [(0, _), (1, _), (2, _), (3, _)]) dX8_mixPath_76 (by decide) rfl ?_
  refine lp_mp3 hst hm h0 ok (H := pthF xs ys S (μ 273 17)) (stk xs ys S).length 0 _ μ4 (by omega) (by omega) hf4 e4 rfl (fun μ5 hf5 e5 => ?_)
  refine VW.vreturn dX8_mixPath_98 rfl ?_
  exact fxP.vv ⟨hf5, e5⟩
theorem lp_mc (hst : l.stackTraces = false) (hm : isM N sh) (h0 : hasM μ xs ys C S Z B) (ok : okA (mk xs ys C S Z B)) {H : Int} {Φ : RT → Prop} (hc : 0 ≤ c ∧ c < C.length) (hc8 : (C.getD c.toNat []).length ≤ 8) : ∀ (n : Nat) (i h : Int) (μ1 : Mem), 0 ≤ i → i + n = ((C.getD c.toNat []).length : Int) → frK aL bL μ μ1 → μ1 273 17 = h → mf (rat (C.getD c.toNat [])) n i h = H → (∀ μ2, frK aL bL μ μ2 → μ2 273 17 = H → VW G l none M_X8_mixCommand 28 [(0, .ref (gB G + 273)), (1, vI c), (2, vI (((C.getD c.toNat []).length : Int)))] [] (N, sh, μ2) 0 0 Φ) → VW G l none M_X8_mixCommand 2 [(0, .ref (gB G + 273)), (1, vI c), (2, vI (i))] [] (N, sh, μ1) 0 0 Φ := by
  obtain ⟨ok0, ⟨ok9, ok10⟩, ok11, ok12⟩ := okA.un ok
  have okS0 : okS ((xs, ys), C, S) := ok.1
  obtain ⟨⟨ok1, ok2, ok3, ok4⟩, ⟨ok5, ok6, ok7⟩, ok8⟩ := okS.un okS0
  obtain ⟨hz, hn, hh, hb, hB⟩ := id h0
  have rk := rn_ok ok3 ok4 (by omega : xs.length ≤ 41)
  have rk2 := rk.2.1
  have sk := stk_ok (S := S) ok3 ok4 (by omega : xs.length ≤ 41)
  have sk1 := sk.1
  intro n
  induction n with
  | zero =>
    intro i h μ1 hi0 hi1 hf1 e1 e K
    have z1 := hz.keep hf1 (by decide)
    have n1 : μ1 273 1 = (Z.length : Int) := (hf1.2 1 (by decide)).trans hn
    have b1 : μ1 273 3 = (B.length : Int) := (hf1.2 3 (by decide)).trans hb
    have z51 : μ1 274 5 = (xs.length : Int) := z1.2.1
    have z61 : μ1 274 6 = (C.length : Int) := z1.2.2.1
    refine VW.iload_n dX8_mixCommand_2 rfl ?_
    refine VW.aload_n dX8_mixCommand_3 rfl ?_
    refine VW.iload_n dX8_mixCommand_4 rfl ?_
    refine VW.pV1 cv_X8_mixCommand_X8_directionsOf dX8_mixCommand_5 (Nat.le_of_ble_eq_true rfl) (by have := hm.1; omega) hm.2.1 (t_directionsOf hst hm z1 okS0 (c := c) hc) ?_
    refine VW.icmp_ge 28 ⟨by omega, by omega⟩ ⟨by omega, by omega⟩ dX8_mixCommand_8 (by decide) (fun c8 => ?_) (fun c8 => by omega)
    obtain rfl : i = ((C.getD c.toNat []).length : Int) := by omega
    subst e
    exact K μ1 hf1 e1
  | succ n ih =>
    intro i h μ1 hi0 hi1 hf1 e1 e K
    have z1 := hz.keep hf1 (by decide)
    have n1 : μ1 273 1 = (Z.length : Int) := (hf1.2 1 (by decide)).trans hn
    have b1 : μ1 273 3 = (B.length : Int) := (hf1.2 3 (by decide)).trans hb
    have z51 : μ1 274 5 = (xs.length : Int) := z1.2.1
    have z61 : μ1 274 6 = (C.length : Int) := z1.2.2.1
    refine VW.iload_n dX8_mixCommand_2 rfl ?_
    refine VW.aload_n dX8_mixCommand_3 rfl ?_
    refine VW.iload_n dX8_mixCommand_4 rfl ?_
    refine VW.pV1 cv_X8_mixCommand_X8_directionsOf dX8_mixCommand_5 (Nat.le_of_ble_eq_true rfl) (by have := hm.1; omega) hm.2.1 (t_directionsOf hst hm z1 okS0 (c := c) hc) ?_
    refine VW.icmp_ge 28 ⟨by omega, by omega⟩ ⟨by omega, by omega⟩ dX8_mixCommand_8 (by decide) (fun c8 => by omega) (fun c8 => ?_)
    refine VW.aload_n dX8_mixCommand_11 rfl ?_
    refine VW.aload_n dX8_mixCommand_12 rfl ?_
    refine VW.iload_n dX8_mixCommand_13 rfl ?_
    refine VW.iload_n dX8_mixCommand_14 rfl ?_
    refine VW.pV2 cv_X8_mixCommand_X8_directionOf dX8_mixCommand_15 (Nat.le_of_ble_eq_true rfl) (by have := hm.1; omega) hm.2.1 (t_directionOf hst hm z1 okS0 (c := c) hc (j := i) ⟨by omega, by omega⟩) ?_
    refine VW.i2lw dX8_mixCommand_18 ?_
    refine VW.fvV1 cv_X8_mixCommand_X8_mix dX8_mixCommand_19 (Nat.le_of_ble_eq_true rfl) (by have := hm.1; omega) hm.2.1 (t_mix hst hm) (fun μ3 h3 => ?_)
    obtain ⟨hf3, e3⟩ := mix2 (v := w32 (rat (C.getD c.toNat []) i)) hf1 e1 h3
    refine VW.iinc (lv' := [(0, _), (1, _), (2, _)]) dX8_mixCommand_22 rfl (by decide) rfl ?_
    refine VW.goto 2 dX8_mixCommand_25 (by decide) ?_
    exact ih (i + 1) _ μ3 (by omega) (by omega) hf3 e3 e K
theorem t_mixCommand (hst : l.stackTraces = false) (hm : isM N sh) (h0 : hasM μ xs ys C S Z B) (ok : okA (mk xs ys C S Z B)) (hc : 0 ≤ c ∧ c < C.length) : Zv G l N sh M_X8_mixCommand [.ref (gB G + 273), vI c] μ (fun μ' => frK aL bL μ μ' ∧ μ' 273 17 = cmS xs ys C S c (μ 273 17)) := by
  refine Fx.of hst rfl (by decide +kernel) (Nat.le_of_ble_eq_true rfl) rfl ?_
  obtain ⟨ok0, ⟨ok9, ok10⟩, ok11, ok12⟩ := okA.un ok
  have okS0 : okS ((xs, ys), C, S) := ok.1
  obtain ⟨⟨ok1, ok2, ok3, ok4⟩, ⟨ok5, ok6, ok7⟩, ok8⟩ := okS.un okS0
  obtain ⟨hz, hn, hh, hb, hB⟩ := id h0
  have rk := rn_ok ok3 ok4 (by omega : xs.length ≤ 41)
  have rk2 := rk.2.1
  have sk := stk_ok (S := S) ok3 ok4 (by omega : xs.length ≤ 41)
  have sk1 := sk.1
  refine VW.iconst dX8_mixCommand_0 ?_
  refine VW.istore_n (lv' := [(0, _), (1, _), (2, _)]) dX8_mixCommand_1 (by decide) rfl ?_
  refine lp_mc hst hm h0 ok (H := mf (rat (C.getD c.toNat [])) (C.getD c.toNat []).length 0 (μ 273 17)) hc (ok6 _ (getD_mem C (by omega))).1 (C.getD c.toNat []).length 0 _ μ (by omega) (by omega) frK.rf rfl rfl (fun μ1 hf1 e1 => ?_)
  have z1 := hz.keep hf1 (by decide)
  have n1 : μ1 273 1 = (Z.length : Int) := (hf1.2 1 (by decide)).trans hn
  have b1 : μ1 273 3 = (B.length : Int) := (hf1.2 3 (by decide)).trans hb
  have z51 : μ1 274 5 = (xs.length : Int) := z1.2.1
  have z61 : μ1 274 6 = (C.length : Int) := z1.2.2.1
  refine VW.aload_n dX8_mixCommand_28 rfl ?_
  refine VW.aload_n dX8_mixCommand_29 rfl ?_
  refine VW.iload_n dX8_mixCommand_30 rfl ?_
  refine VW.fiV1 cv_X8_mixCommand_X8_pathDistance dX8_mixCommand_31 (Nat.le_of_ble_eq_true rfl) (by have := hm.1; omega) hm.2.1 (t_pathDistance hst hm z1 okS0 (c := c) hc) (fun r2 μ2 h2 => ?_)
  obtain ⟨q2, g2⟩ := h2
  replace q2 : r2 = dstOf S (stk xs ys S) (C.getD c.toNat []) := q2
  subst q2
  have e2 := (g2.2 17 (by decide)).trans e1
  have hf2 := hf1.tr (g2.wid (by decide) (by decide))
  refine VW.i2lw dX8_mixCommand_34 ?_
  refine VW.fvV1 cv_X8_mixCommand_X8_mix dX8_mixCommand_35 (Nat.le_of_ble_eq_true rfl) (by have := hm.1; omega) hm.2.1 (t_mix hst hm) (fun μ3 h3 => ?_)
  obtain ⟨hf3, e3⟩ := mix2 (v := w32 (dstOf S (stk xs ys S) (C.getD c.toNat []))) hf2 e2 h3
  refine VW.aload_n dX8_mixCommand_38 rfl ?_
  refine VW.aload_n dX8_mixCommand_39 rfl ?_
  refine VW.iload_n dX8_mixCommand_40 rfl ?_
  refine VW.iconst dX8_mixCommand_41 ?_
  refine VW.fiV2 cv_X8_mixCommand_X8_distanceOf dX8_mixCommand_42 (Nat.le_of_ble_eq_true rfl) (by have := hm.1; omega) hm.2.1 (t_distanceOf hst hm (hz.keep hf3 (by decide)) okS0 (c := c) hc (q := 0) ⟨by omega, by omega⟩) (fun r4 μ4 h4 => ?_)
  obtain ⟨q4, g4⟩ := h4
  replace q4 : r4 = dstOf S (C.getD (0 : Int).toNat []) (C.getD c.toNat []) := q4
  subst q4
  have e4 := (g4.2 17 (by decide)).trans e3
  have hf4 := hf3.tr (g4.wid (by decide) (by decide))
  refine VW.i2lw dX8_mixCommand_45 ?_
  refine VW.fvV1 cv_X8_mixCommand_X8_mix dX8_mixCommand_46 (Nat.le_of_ble_eq_true rfl) (by have := hm.1; omega) hm.2.1 (t_mix hst hm) (fun μ5 h5 => ?_)
  obtain ⟨hf5, e5⟩ := mix2 (v := w32 (dstOf S (C.getD (0 : Int).toNat []) (C.getD c.toNat []))) hf4 e4 h5
  refine VW.vreturn dX8_mixCommand_49 rfl ?_
  exact fxP.vv ⟨hf5, e5⟩
theorem lp_md1 (hst : l.stackTraces = false) (hm : isM N sh) (h0 : hasM μ xs ys C S Z B) (ok : okA (mk xs ys C S Z B)) {H : Int} {Φ : RT → Prop} : ∀ (n : Nat) (i h : Int) (μ1 : Mem), 0 ≤ i → i + n = 9 → frK aL bL μ μ1 → μ1 273 17 = h → mf (cnV xs ys C S Z) n i h = H → (∀ μ2, frK aL bL μ μ2 → μ2 273 17 = H → VW G l none M_X8_digest 36 [(0, .ref (gB G + 273)), (1, vI (9))] [] (N, sh, μ2) 0 0 Φ) → VW G l none M_X8_digest 14 [(0, .ref (gB G + 273)), (1, vI (i))] [] (N, sh, μ1) 0 0 Φ := by
  obtain ⟨ok0, ⟨ok9, ok10⟩, ok11, ok12⟩ := okA.un ok
  have okS0 : okS ((xs, ys), C, S) := ok.1
  obtain ⟨⟨ok1, ok2, ok3, ok4⟩, ⟨ok5, ok6, ok7⟩, ok8⟩ := okS.un okS0
  obtain ⟨hz, hn, hh, hb, hB⟩ := id h0
  have rk := rn_ok ok3 ok4 (by omega : xs.length ≤ 41)
  have rk2 := rk.2.1
  have sk := stk_ok (S := S) ok3 ok4 (by omega : xs.length ≤ 41)
  have sk1 := sk.1
  intro n
  induction n with
  | zero =>
    intro i h μ1 hi0 hi1 hf1 e1 e K
    have z1 := hz.keep hf1 (by decide)
    have n1 : μ1 273 1 = (Z.length : Int) := (hf1.2 1 (by decide)).trans hn
    have b1 : μ1 273 3 = (B.length : Int) := (hf1.2 3 (by decide)).trans hb
    have z51 : μ1 274 5 = (xs.length : Int) := z1.2.1
    have z61 : μ1 274 6 = (C.length : Int) := z1.2.2.1
    refine VW.iload_n dX8_digest_14 rfl ?_
    refine VW.bipush dX8_digest_15 rfl ?_
    refine VW.icmp_ge 36 ⟨by omega, by omega⟩ ⟨by omega, by omega⟩ dX8_digest_17 (by decide) (fun c17 => ?_) (fun c17 => by omega)
    obtain rfl : i = 9 := by omega
    subst e
    exact K μ1 hf1 e1
  | succ n ih =>
    intro i h μ1 hi0 hi1 hf1 e1 e K
    have z1 := hz.keep hf1 (by decide)
    have n1 : μ1 273 1 = (Z.length : Int) := (hf1.2 1 (by decide)).trans hn
    have b1 : μ1 273 3 = (B.length : Int) := (hf1.2 3 (by decide)).trans hb
    have z51 : μ1 274 5 = (xs.length : Int) := z1.2.1
    have z61 : μ1 274 6 = (C.length : Int) := z1.2.2.1
    refine VW.iload_n dX8_digest_14 rfl ?_
    refine VW.bipush dX8_digest_15 rfl ?_
    refine VW.icmp_ge 36 ⟨by omega, by omega⟩ ⟨by omega, by omega⟩ dX8_digest_17 (by decide) (fun c17 => by omega) (fun c17 => ?_)
    refine VW.aload_n dX8_digest_20 rfl ?_
    refine VW.aload_n dX8_digest_21 rfl ?_
    refine VW.iload_n dX8_digest_22 rfl ?_
    refine VW.fiV1 cv_X8_digest_X8_counted dX8_digest_23 (Nat.le_of_ble_eq_true rfl) (by have := hm.1; omega) hm.2.1 (t_counted hst hm z1 okS0 (Z := Z) (w := i) n1 ⟨by omega, by omega⟩) (fun r2 μ2 h2 => ?_)
    obtain ⟨q2, g2⟩ := h2
    replace q2 : r2 = cnV xs ys C S Z i := q2
    subst q2
    have e2 := (g2.2 17 (by decide)).trans e1
    have hf2 := hf1.tr (g2.wid (by decide) (by decide))
    refine VW.i2lw dX8_digest_26 ?_
    refine VW.fvV1 cv_X8_digest_X8_mix dX8_digest_27 (Nat.le_of_ble_eq_true rfl) (by have := hm.1; omega) hm.2.1 (t_mix hst hm) (fun μ3 h3 => ?_)
    obtain ⟨hf3, e3⟩ := mix2 (v := w32 (cnV xs ys C S Z i)) hf2 e2 h3
    refine VW.iinc (lv' := [(0, _), (1, _)]) dX8_digest_30 rfl (by decide) rfl ?_
    refine VW.goto 14 dX8_digest_33 (by decide) ?_
    exact ih (i + 1) _ μ3 (by omega) (by omega) hf3 e3 e K
theorem lp_md2 (hst : l.stackTraces = false) (hm : isM N sh) (h0 : hasM μ xs ys C S Z B) (ok : okA (mk xs ys C S Z B)) {H : Int} {Φ : RT → Prop} : ∀ (n : Nat) (i h : Int) (μ1 : Mem), 0 ≤ i → i + n = 5 → frK aL bL μ μ1 → μ1 273 17 = h → mf (rat S) n i h = H → (∀ μ2, frK aL bL μ μ2 → μ2 273 17 = H → VW G l none M_X8_digest 60 [(0, .ref (gB G + 273)), (1, vI (5))] [] (N, sh, μ2) 0 0 Φ) → VW G l none M_X8_digest 38 [(0, .ref (gB G + 273)), (1, vI (i))] [] (N, sh, μ1) 0 0 Φ := by
  obtain ⟨ok0, ⟨ok9, ok10⟩, ok11, ok12⟩ := okA.un ok
  have okS0 : okS ((xs, ys), C, S) := ok.1
  obtain ⟨⟨ok1, ok2, ok3, ok4⟩, ⟨ok5, ok6, ok7⟩, ok8⟩ := okS.un okS0
  obtain ⟨hz, hn, hh, hb, hB⟩ := id h0
  have rk := rn_ok ok3 ok4 (by omega : xs.length ≤ 41)
  have rk2 := rk.2.1
  have sk := stk_ok (S := S) ok3 ok4 (by omega : xs.length ≤ 41)
  have sk1 := sk.1
  intro n
  induction n with
  | zero =>
    intro i h μ1 hi0 hi1 hf1 e1 e K
    have z1 := hz.keep hf1 (by decide)
    have n1 : μ1 273 1 = (Z.length : Int) := (hf1.2 1 (by decide)).trans hn
    have b1 : μ1 273 3 = (B.length : Int) := (hf1.2 3 (by decide)).trans hb
    have z51 : μ1 274 5 = (xs.length : Int) := z1.2.1
    have z61 : μ1 274 6 = (C.length : Int) := z1.2.2.1
    refine VW.iload_n dX8_digest_38 rfl ?_
    refine VW.iconst dX8_digest_39 ?_
    refine VW.icmp_ge 60 ⟨by omega, by omega⟩ ⟨by omega, by omega⟩ dX8_digest_40 (by decide) (fun c40 => ?_) (fun c40 => by omega)
    obtain rfl : i = 5 := by omega
    subst e
    exact K μ1 hf1 e1
  | succ n ih =>
    intro i h μ1 hi0 hi1 hf1 e1 e K
    have z1 := hz.keep hf1 (by decide)
    have n1 : μ1 273 1 = (Z.length : Int) := (hf1.2 1 (by decide)).trans hn
    have b1 : μ1 273 3 = (B.length : Int) := (hf1.2 3 (by decide)).trans hb
    have z51 : μ1 274 5 = (xs.length : Int) := z1.2.1
    have z61 : μ1 274 6 = (C.length : Int) := z1.2.2.1
    refine VW.iload_n dX8_digest_38 rfl ?_
    refine VW.iconst dX8_digest_39 ?_
    refine VW.icmp_ge 60 ⟨by omega, by omega⟩ ⟨by omega, by omega⟩ dX8_digest_40 (by decide) (fun c40 => by omega) (fun c40 => ?_)
    refine VW.aload_n dX8_digest_43 rfl ?_
    refine VW.aload_n dX8_digest_44 rfl ?_
    refine VW.getR dX8_digest_45 fa_X8_7 (by have := hm.1; omega) hm.2.1 rfl ?_
    refine VW.iload_n dX8_digest_48 rfl ?_
    refine VW.iaload dX8_digest_49 (by have := hm.1; omega) hm.2.2.1 (by omega) (by omega) (by decide) ?_
    rw [show μ1 274 i.toNat = rat S i from z1.1 i (by omega)]
    refine VW.i2lw dX8_digest_50 ?_
    refine VW.fvV1 cv_X8_digest_X8_mix dX8_digest_51 (Nat.le_of_ble_eq_true rfl) (by have := hm.1; omega) hm.2.1 (t_mix hst hm) (fun μ3 h3 => ?_)
    obtain ⟨hf3, e3⟩ := mix2 (v := w32 (rat S i)) hf1 e1 h3
    refine VW.iinc (lv' := [(0, _), (1, _)]) dX8_digest_54 rfl (by decide) rfl ?_
    refine VW.goto 38 dX8_digest_57 (by decide) ?_
    exact ih (i + 1) _ μ3 (by omega) (by omega) hf3 e3 e K
theorem lp_md3 (hst : l.stackTraces = false) (hm : isM N sh) (h0 : hasM μ xs ys C S Z B) (ok : okA (mk xs ys C S Z B)) {H : Int} {Φ : RT → Prop} : ∀ (n : Nat) (i h : Int) (μ1 : Mem), 0 ≤ i → i + n = (C.length : Int) → frK aL bL μ μ1 → μ1 273 17 = h → cmF xs ys C S n i h = H → (∀ μ2, frK aL bL μ μ2 → μ2 273 17 = H → VW G l none M_X8_digest 88 [(0, .ref (gB G + 273)), (1, vI ((C.length : Int)))] [] (N, sh, μ2) 0 0 Φ) → VW G l none M_X8_digest 66 [(0, .ref (gB G + 273)), (1, vI (i))] [] (N, sh, μ1) 0 0 Φ := by
  obtain ⟨ok0, ⟨ok9, ok10⟩, ok11, ok12⟩ := okA.un ok
  have okS0 : okS ((xs, ys), C, S) := ok.1
  obtain ⟨⟨ok1, ok2, ok3, ok4⟩, ⟨ok5, ok6, ok7⟩, ok8⟩ := okS.un okS0
  obtain ⟨hz, hn, hh, hb, hB⟩ := id h0
  have rk := rn_ok ok3 ok4 (by omega : xs.length ≤ 41)
  have rk2 := rk.2.1
  have sk := stk_ok (S := S) ok3 ok4 (by omega : xs.length ≤ 41)
  have sk1 := sk.1
  intro n
  induction n with
  | zero =>
    intro i h μ1 hi0 hi1 hf1 e1 e K
    have z1 := hz.keep hf1 (by decide)
    have n1 : μ1 273 1 = (Z.length : Int) := (hf1.2 1 (by decide)).trans hn
    have b1 : μ1 273 3 = (B.length : Int) := (hf1.2 3 (by decide)).trans hb
    have z51 : μ1 274 5 = (xs.length : Int) := z1.2.1
    have z61 : μ1 274 6 = (C.length : Int) := z1.2.2.1
    refine VW.iload_n dX8_digest_66 rfl ?_
    refine VW.aload_n dX8_digest_67 rfl ?_
    refine VW.getR dX8_digest_68 fa_X8_7 (by have := hm.1; omega) hm.2.1 rfl ?_
    refine VW.bipush dX8_digest_71 rfl ?_
    refine VW.iaload dX8_digest_73 (by have := hm.1; omega) hm.2.2.1 (by omega) (by omega) (by decide) ?_
    rw [show (6 : Int).toNat = 6 from rfl, z61]
    refine VW.icmp_ge 88 ⟨by omega, by omega⟩ ⟨by omega, by omega⟩ dX8_digest_74 (by decide) (fun c74 => ?_) (fun c74 => by omega)
    obtain rfl : i = (C.length : Int) := by omega
    subst e
    exact K μ1 hf1 e1
  | succ n ih =>
    intro i h μ1 hi0 hi1 hf1 e1 e K
    have z1 := hz.keep hf1 (by decide)
    have n1 : μ1 273 1 = (Z.length : Int) := (hf1.2 1 (by decide)).trans hn
    have b1 : μ1 273 3 = (B.length : Int) := (hf1.2 3 (by decide)).trans hb
    have z51 : μ1 274 5 = (xs.length : Int) := z1.2.1
    have z61 : μ1 274 6 = (C.length : Int) := z1.2.2.1
    refine VW.iload_n dX8_digest_66 rfl ?_
    refine VW.aload_n dX8_digest_67 rfl ?_
    refine VW.getR dX8_digest_68 fa_X8_7 (by have := hm.1; omega) hm.2.1 rfl ?_
    refine VW.bipush dX8_digest_71 rfl ?_
    refine VW.iaload dX8_digest_73 (by have := hm.1; omega) hm.2.2.1 (by omega) (by omega) (by decide) ?_
    rw [show (6 : Int).toNat = 6 from rfl, z61]
    refine VW.icmp_ge 88 ⟨by omega, by omega⟩ ⟨by omega, by omega⟩ dX8_digest_74 (by decide) (fun c74 => by omega) (fun c74 => ?_)
    have m1 : hasM μ1 xs ys C S Z B := ⟨z1, n1, fun k hk => by rw [hf1.1 275 (by decide) (by decide)]; exact hh k hk, b1, hB.keepL hf1⟩
    refine VW.aload_n dX8_digest_77 rfl ?_
    refine VW.iload_n dX8_digest_78 rfl ?_
    refine VW.fvV1 cv_X8_digest_X8_mixCommand dX8_digest_79 (Nat.le_of_ble_eq_true rfl) (by have := hm.1; omega) hm.2.1 (t_mixCommand hst hm m1 ok (c := i) ⟨by omega, by omega⟩) (fun μ3 h3 => ?_)
    obtain ⟨g3, e3⟩ := h3
    rw [e1] at e3
    have hf3 := hf1.tr g3
    refine VW.iinc (lv' := [(0, _), (1, _)]) dX8_digest_82 rfl (by decide) rfl ?_
    refine VW.goto 66 dX8_digest_85 (by decide) ?_
    exact ih (i + 1) _ μ3 (by omega) (by omega) hf3 e3 e K
theorem lp_md4 (hst : l.stackTraces = false) (hm : isM N sh) (h0 : hasM μ xs ys C S Z B) (ok : okA (mk xs ys C S Z B)) {H : Int} {Φ : RT → Prop} : ∀ (n : Nat) (i h : Int) (μ1 : Mem), 0 ≤ i → i + n = 5 → frK aL bL μ μ1 → μ1 273 17 = h → mf (rdV xs ys C S) n i h = H → (∀ μ2, frK aL bL μ μ2 → μ2 273 17 = H → VW G l none M_X8_digest 111 [(0, .ref (gB G + 273)), (1, vI (5))] [] (N, sh, μ2) 0 0 Φ) → VW G l none M_X8_digest 90 [(0, .ref (gB G + 273)), (1, vI (i))] [] (N, sh, μ1) 0 0 Φ := by
  obtain ⟨ok0, ⟨ok9, ok10⟩, ok11, ok12⟩ := okA.un ok
  have okS0 : okS ((xs, ys), C, S) := ok.1
  obtain ⟨⟨ok1, ok2, ok3, ok4⟩, ⟨ok5, ok6, ok7⟩, ok8⟩ := okS.un okS0
  obtain ⟨hz, hn, hh, hb, hB⟩ := id h0
  have rk := rn_ok ok3 ok4 (by omega : xs.length ≤ 41)
  have rk2 := rk.2.1
  have sk := stk_ok (S := S) ok3 ok4 (by omega : xs.length ≤ 41)
  have sk1 := sk.1
  intro n
  induction n with
  | zero =>
    intro i h μ1 hi0 hi1 hf1 e1 e K
    have z1 := hz.keep hf1 (by decide)
    have n1 : μ1 273 1 = (Z.length : Int) := (hf1.2 1 (by decide)).trans hn
    have b1 : μ1 273 3 = (B.length : Int) := (hf1.2 3 (by decide)).trans hb
    have z51 : μ1 274 5 = (xs.length : Int) := z1.2.1
    have z61 : μ1 274 6 = (C.length : Int) := z1.2.2.1
    refine VW.iload_n dX8_digest_90 rfl ?_
    refine VW.iconst dX8_digest_91 ?_
    refine VW.icmp_ge 111 ⟨by omega, by omega⟩ ⟨by omega, by omega⟩ dX8_digest_92 (by decide) (fun c92 => ?_) (fun c92 => by omega)
    obtain rfl : i = 5 := by omega
    subst e
    exact K μ1 hf1 e1
  | succ n ih =>
    intro i h μ1 hi0 hi1 hf1 e1 e K
    have z1 := hz.keep hf1 (by decide)
    have n1 : μ1 273 1 = (Z.length : Int) := (hf1.2 1 (by decide)).trans hn
    have b1 : μ1 273 3 = (B.length : Int) := (hf1.2 3 (by decide)).trans hb
    have z51 : μ1 274 5 = (xs.length : Int) := z1.2.1
    have z61 : μ1 274 6 = (C.length : Int) := z1.2.2.1
    refine VW.iload_n dX8_digest_90 rfl ?_
    refine VW.iconst dX8_digest_91 ?_
    refine VW.icmp_ge 111 ⟨by omega, by omega⟩ ⟨by omega, by omega⟩ dX8_digest_92 (by decide) (fun c92 => by omega) (fun c92 => ?_)
    refine VW.aload_n dX8_digest_95 rfl ?_
    refine VW.aload_n dX8_digest_96 rfl ?_
    refine VW.iload_n dX8_digest_97 rfl ?_
    refine VW.fiV1 cv_X8_digest_X8_readingNow dX8_digest_98 (Nat.le_of_ble_eq_true rfl) (by have := hm.1; omega) hm.2.1 (t_readingNow hst hm z1 okS0 (w := i) ⟨by omega, by omega⟩) (fun r2 μ2 h2 => ?_)
    obtain ⟨q2, g2⟩ := h2
    replace q2 : r2 = rdV xs ys C S i := q2
    subst q2
    have e2 := (g2.2 17 (by decide)).trans e1
    have hf2 := hf1.tr (g2.wid (by decide) (by decide))
    refine VW.i2lw dX8_digest_101 ?_
    refine VW.fvV1 cv_X8_digest_X8_mix dX8_digest_102 (Nat.le_of_ble_eq_true rfl) (by have := hm.1; omega) hm.2.1 (t_mix hst hm) (fun μ3 h3 => ?_)
    obtain ⟨hf3, e3⟩ := mix2 (v := w32 (rdV xs ys C S i)) hf2 e2 h3
    refine VW.iinc (lv' := [(0, _), (1, _)]) dX8_digest_105 rfl (by decide) rfl ?_
    refine VW.goto 90 dX8_digest_108 (by decide) ?_
    exact ih (i + 1) _ μ3 (by omega) (by omega) hf3 e3 e K
theorem lp_md5 (hst : l.stackTraces = false) (hm : isM N sh) (h0 : hasM μ xs ys C S Z B) (ok : okA (mk xs ys C S Z B)) {H : Int} {Φ : RT → Prop} : ∀ (n : Nat) (i h : Int) (μ1 : Mem), 0 ≤ i → i + n = (B.length : Int) → frK aL bL μ μ1 → μ1 273 17 = h → mf (rat B) n i h = H → (∀ μ2, frK aL bL μ μ2 → μ2 273 17 = H → VW G l none M_X8_digest 197 [(0, .ref (gB G + 273)), (1, vI ((B.length : Int)))] [] (N, sh, μ2) 0 0 Φ) → VW G l none M_X8_digest 172 [(0, .ref (gB G + 273)), (1, vI (i))] [] (N, sh, μ1) 0 0 Φ := by
  obtain ⟨ok0, ⟨ok9, ok10⟩, ok11, ok12⟩ := okA.un ok
  have okS0 : okS ((xs, ys), C, S) := ok.1
  obtain ⟨⟨ok1, ok2, ok3, ok4⟩, ⟨ok5, ok6, ok7⟩, ok8⟩ := okS.un okS0
  obtain ⟨hz, hn, hh, hb, hB⟩ := id h0
  have rk := rn_ok ok3 ok4 (by omega : xs.length ≤ 41)
  have rk2 := rk.2.1
  have sk := stk_ok (S := S) ok3 ok4 (by omega : xs.length ≤ 41)
  have sk1 := sk.1
  intro n
  induction n with
  | zero =>
    intro i h μ1 hi0 hi1 hf1 e1 e K
    have z1 := hz.keep hf1 (by decide)
    have n1 : μ1 273 1 = (Z.length : Int) := (hf1.2 1 (by decide)).trans hn
    have b1 : μ1 273 3 = (B.length : Int) := (hf1.2 3 (by decide)).trans hb
    have z51 : μ1 274 5 = (xs.length : Int) := z1.2.1
    have z61 : μ1 274 6 = (C.length : Int) := z1.2.2.1
    refine VW.iload_n dX8_digest_172 rfl ?_
    refine VW.aload_n dX8_digest_173 rfl ?_
    refine VW.getI dX8_digest_174 fa_X8_197 (by have := hm.1; omega) hm.2.1 rfl ?_
    rw [b1]
    refine VW.icmp_ge 197 ⟨by omega, by omega⟩ ⟨by omega, by omega⟩ dX8_digest_177 (by decide) (fun c177 => ?_) (fun c177 => by omega)
    obtain rfl : i = (B.length : Int) := by omega
    subst e
    exact K μ1 hf1 e1
  | succ n ih =>
    intro i h μ1 hi0 hi1 hf1 e1 e K
    have z1 := hz.keep hf1 (by decide)
    have n1 : μ1 273 1 = (Z.length : Int) := (hf1.2 1 (by decide)).trans hn
    have b1 : μ1 273 3 = (B.length : Int) := (hf1.2 3 (by decide)).trans hb
    have z51 : μ1 274 5 = (xs.length : Int) := z1.2.1
    have z61 : μ1 274 6 = (C.length : Int) := z1.2.2.1
    refine VW.iload_n dX8_digest_172 rfl ?_
    refine VW.aload_n dX8_digest_173 rfl ?_
    refine VW.getI dX8_digest_174 fa_X8_197 (by have := hm.1; omega) hm.2.1 rfl ?_
    rw [b1]
    refine VW.icmp_ge 197 ⟨by omega, by omega⟩ ⟨by omega, by omega⟩ dX8_digest_177 (by decide) (fun c177 => by omega) (fun c177 => ?_)
    refine VW.aload_n dX8_digest_180 rfl ?_
    refine VW.aload_n dX8_digest_181 rfl ?_
    refine VW.getR dX8_digest_182 fa_X8_16 (by have := hm.1; omega) hm.2.1 rfl ?_
    refine VW.iload_n dX8_digest_185 rfl ?_
    refine VW.iaload dX8_digest_186 (by have := hm.1; omega) hm.2.2.2.2.1 (by omega) (by omega) (by decide) ?_
    rw [show μ1 276 i.toNat = rat B i from (hB.keepL hf1) i (by omega)]
    refine VW.i2lw dX8_digest_187 ?_
    refine VW.fvV1 cv_X8_digest_X8_mix dX8_digest_188 (Nat.le_of_ble_eq_true rfl) (by have := hm.1; omega) hm.2.1 (t_mix hst hm) (fun μ3 h3 => ?_)
    obtain ⟨hf3, e3⟩ := mix2 (v := w32 (rat B i)) hf1 e1 h3
    refine VW.iinc (lv' := [(0, _), (1, _)]) dX8_digest_191 rfl (by decide) rfl ?_
    refine VW.goto 172 dX8_digest_194 (by decide) ?_
    exact ih (i + 1) _ μ3 (by omega) (by omega) hf3 e3 e K
theorem t_digest (hst : l.stackTraces = false) (hm : isM N sh) (h0 : hasM μ xs ys C S Z B) (ok : okA (mk xs ys C S Z B)) : Zl G l N sh M_X8_digest [.ref (gB G + 273)] μ (fun r μ' => r = dgst xs ys C S Z B ∧ frK aL bL μ μ') := by
  refine Fx.of hst rfl (by decide +kernel) (Nat.le_of_ble_eq_true rfl) rfl ?_
  obtain ⟨ok0, ⟨ok9, ok10⟩, ok11, ok12⟩ := okA.un ok
  have okS0 : okS ((xs, ys), C, S) := ok.1
  obtain ⟨⟨ok1, ok2, ok3, ok4⟩, ⟨ok5, ok6, ok7⟩, ok8⟩ := okS.un okS0
  obtain ⟨hz, hn, hh, hb, hB⟩ := id h0
  have rk := rn_ok ok3 ok4 (by omega : xs.length ≤ 41)
  have rk2 := rk.2.1
  have sk := stk_ok (S := S) ok3 ok4 (by omega : xs.length ≤ 41)
  have sk1 := sk.1
  refine VW.aload_n dX8_digest_0 rfl ?_
  refine VW.iconst dX8_digest_1 ?_
  refine VW.putI dX8_digest_2 fp_X8_43 (by have := hm.1; omega) hm.2.1 rfl ?_
  refine VW.aload_n dX8_digest_5 rfl ?_
  refine VW.ldc2 (a := 2647) dX8_digest_6 wd_1297 ?_
  refine VW.putL dX8_digest_9 fp_X8_269 (by have := hm.1; omega) hm.2.1 rfl ?_
  have hf0 : frK aL bL μ (mup (mup μ 273 5 0) 273 17 2647) := ((frK_f : frK [] [5] μ _).wid (by decide) (by decide)).tr ((frK_f : frK [] [17] (mup μ 273 5 0) _).wid (by decide) (by decide))
  have e0 : (mup (mup μ 273 5 0) 273 17 2647) 273 17 = 2647 := mup_s _ _ _ _
  refine VW.iconst dX8_digest_12 ?_
  refine VW.istore_n (lv' := [(0, _), (1, _)]) dX8_digest_13 (by decide) rfl ?_
  refine lp_md1 hst hm h0 ok (H := mf (cnV xs ys C S Z) 9 0 2647) 9 0 _ _ (by omega) (by omega) hf0 e0 rfl (fun μ1 hf1 e1 => ?_)
  refine VW.iconst dX8_digest_36 ?_
  refine VW.istore_n (lv' := [(0, _), (1, _)]) dX8_digest_37 (by decide) rfl ?_
  refine lp_md2 hst hm h0 ok (H := mf (rat S) 5 0 (mf (cnV xs ys C S Z) 9 0 2647)) 5 0 _ μ1 (by omega) (by omega) hf1 e1 rfl (fun μ2 hf2 e2 => ?_)
  have z2 := hz.keep hf2 (by decide)
  have n2 : μ2 273 1 = (Z.length : Int) := (hf2.2 1 (by decide)).trans hn
  have b2 : μ2 273 3 = (B.length : Int) := (hf2.2 3 (by decide)).trans hb
  have z52 : μ2 274 5 = (xs.length : Int) := z2.2.1
  have z62 : μ2 274 6 = (C.length : Int) := z2.2.2.1
  have m2 : hasM μ2 xs ys C S Z B := ⟨z2, n2, fun k hk => by rw [hf2.1 275 (by decide) (by decide)]; exact hh k hk, b2, hB.keepL hf2⟩
  refine VW.aload_n dX8_digest_60 rfl ?_
  refine VW.fvV0 cv_X8_digest_X8_mixPath dX8_digest_61 (Nat.le_of_ble_eq_true rfl) (by have := hm.1; omega) hm.2.1 (t_mixPath hst hm m2 ok) (fun μ3 h3 => ?_)
  obtain ⟨g3, e3⟩ := h3
  rw [e2] at e3
  have hf3 := hf2.tr g3
  refine VW.iconst dX8_digest_64 ?_
  refine VW.istore_n (lv' := [(0, _), (1, _)]) dX8_digest_65 (by decide) rfl ?_
  refine lp_md3 hst hm h0 ok (H := dg1 xs ys C S Z) C.length 0 _ μ3 (by omega) (by omega) hf3 e3 rfl (fun μ4 hf4 e4 => ?_)
  refine VW.iconst dX8_digest_88 ?_
  refine VW.istore_n (lv' := [(0, _), (1, _)]) dX8_digest_89 (by decide) rfl ?_
  refine lp_md4 hst hm h0 ok (H := mf (rdV xs ys C S) 5 0 (dg1 xs ys C S Z)) 5 0 _ μ4 (by omega) (by omega) hf4 e4 rfl (fun μ5 hf5 e5 => ?_)
  have z5 := hz.keep hf5 (by decide)
  have n5 : μ5 273 1 = (Z.length : Int) := (hf5.2 1 (by decide)).trans hn
  have b5 : μ5 273 3 = (B.length : Int) := (hf5.2 3 (by decide)).trans hb
  have z55 : μ5 274 5 = (xs.length : Int) := z5.2.1
  have z65 : μ5 274 6 = (C.length : Int) := z5.2.2.1
  refine VW.aload_n dX8_digest_111 rfl ?_
  refine VW.aload_n dX8_digest_112 rfl ?_
  refine VW.bipush dX8_digest_113 rfl ?_
  refine VW.iconst dX8_digest_115 ?_
  refine VW.fiV2 cv_X8_digest_X8_pointThen dX8_digest_116 (Nat.le_of_ble_eq_true rfl) (by have := hm.1; omega) hm.2.1 (t_pointThen hst hm z5 okS0 (x := 31) (y := 0) (by decide) (by decide)) (fun r6 μ6 h6 => ?_)
  obtain ⟨q6, g6⟩ := h6
  replace q6 : r6 = ifP xs ys C S 31 0 := q6
  subst q6
  have e6 := (g6.2 17 (by decide)).trans e5
  have hf6 := hf5.tr (g6.wid (by decide) (by decide))
  refine VW.i2lw dX8_digest_119 ?_
  refine VW.fvV1 cv_X8_digest_X8_mix dX8_digest_120 (Nat.le_of_ble_eq_true rfl) (by have := hm.1; omega) hm.2.1 (t_mix hst hm) (fun μ7 h7 => ?_)
  obtain ⟨hf7, e7⟩ := mix2 (v := w32 (ifP xs ys C S 31 0)) hf6 e6 h7
  refine VW.aload_n dX8_digest_123 rfl ?_
  refine VW.aload_n dX8_digest_124 rfl ?_
  refine VW.fiV0 cv_X8_digest_X8_againstNow dX8_digest_125 (Nat.le_of_ble_eq_true rfl) (by have := hm.1; omega) hm.2.1 (t_againstNow hst hm (hz.keep hf7 (by decide)) okS0) (fun r8 μ8 h8 => ?_)
  obtain ⟨q8, g8⟩ := h8
  replace q8 : r8 = agn xs ys C S := q8
  subst q8
  have e8 := (g8.2 17 (by decide)).trans e7
  have hf8 := hf7.tr (g8.wid (by decide) (by decide))
  refine VW.i2lw dX8_digest_128 ?_
  refine VW.fvV1 cv_X8_digest_X8_mix dX8_digest_129 (Nat.le_of_ble_eq_true rfl) (by have := hm.1; omega) hm.2.1 (t_mix hst hm) (fun μ9 h9 => ?_)
  obtain ⟨hf9, e9⟩ := mix2 (v := w32 (agn xs ys C S)) hf8 e8 h9
  refine VW.aload_n dX8_digest_132 rfl ?_
  refine VW.aload_n dX8_digest_133 rfl ?_
  refine VW.fiV0 cv_X8_digest_X8_mostNow dX8_digest_134 (Nat.le_of_ble_eq_true rfl) (by have := hm.1; omega) hm.2.1 (t_mostNow hst hm (hz.keep hf9 (by decide)) okS0) (fun r10 μ10 h10 => ?_)
  obtain ⟨q10, g10⟩ := h10
  replace q10 : r10 = mostF C S := q10
  subst q10
  have e10 := (g10.2 17 (by decide)).trans e9
  have hf10 := hf9.tr (g10.wid (by decide) (by decide))
  refine VW.i2lw dX8_digest_137 ?_
  refine VW.fvV1 cv_X8_digest_X8_mix dX8_digest_138 (Nat.le_of_ble_eq_true rfl) (by have := hm.1; omega) hm.2.1 (t_mix hst hm) (fun μ11 h11 => ?_)
  obtain ⟨hf11, e11⟩ := mix2 (v := w32 (mostF C S)) hf10 e10 h11
  refine VW.aload_n dX8_digest_141 rfl ?_
  refine VW.aload_n dX8_digest_142 rfl ?_
  refine VW.fiV0 cv_X8_digest_X8_straightNow dX8_digest_143 (Nat.le_of_ble_eq_true rfl) (by have := hm.1; omega) hm.2.1 (t_straightNow hst hm (hz.keep hf11 (by decide)) okS0) (fun r12 μ12 h12 => ?_)
  obtain ⟨q12, g12⟩ := h12
  replace q12 : r12 = strt xs ys := q12
  subst q12
  have e12 := (g12.2 17 (by decide)).trans e11
  have hf12 := hf11.tr (g12.wid (by decide) (by decide))
  refine VW.i2lw dX8_digest_146 ?_
  refine VW.fvV1 cv_X8_digest_X8_mix dX8_digest_147 (Nat.le_of_ble_eq_true rfl) (by have := hm.1; omega) hm.2.1 (t_mix hst hm) (fun μ13 h13 => ?_)
  obtain ⟨hf13, e13⟩ := mix2 (v := w32 (strt xs ys)) hf12 e12 h13
  refine VW.aload_n dX8_digest_150 rfl ?_
  refine VW.aload_n dX8_digest_151 rfl ?_
  refine VW.fdV0 cv_X8_digest_X8_doubtNow dX8_digest_152 (Nat.le_of_ble_eq_true rfl) (by have := hm.1; omega) hm.2.1 (t_doubtNow hst hm (hz.keep hf13 (by decide)) okS0) (fun r14 μ14 h14 => ?_)
  obtain ⟨q14, g14⟩ := h14
  subst q14
  have e14 := (g14.2 17 (by decide)).trans e13
  have hf14 := hf13.tr (g14.wid (by decide) (by decide))
  refine VW.qS1 cs_X8_digest_Jxe99ae_doubleToLongBits_ccdee dX8_digest_155 (Nat.le_of_ble_eq_true rfl) (z_db0 hst (dsts_b ok3 ok4 (by omega) ok8 ok6)) ?_
  refine VW.fvV1 cv_X8_digest_X8_mix dX8_digest_158 (Nat.le_of_ble_eq_true rfl) (by have := hm.1; omega) hm.2.1 (t_mix hst hm) (fun μ15 h15 => ?_)
  obtain ⟨hf15, e15⟩ := mix2 (v := ((dbt xs ys C S).toNat : Int)) hf14 e14 h15
  refine VW.aload_n dX8_digest_161 rfl ?_
  refine VW.aload_n dX8_digest_162 rfl ?_
  refine VW.getI dX8_digest_163 fa_X8_197 (by have := hm.1; omega) hm.2.1 rfl ?_
  rw [show μ15 273 3 = (B.length : Int) from (hf15.2 3 (by decide)).trans hb]
  refine VW.i2lw dX8_digest_166 ?_
  refine VW.fvV1 cv_X8_digest_X8_mix dX8_digest_167 (Nat.le_of_ble_eq_true rfl) (by have := hm.1; omega) hm.2.1 (t_mix hst hm) (fun μ16 h16 => ?_)
  obtain ⟨hf16, e16⟩ := mix2 (v := w32 (B.length : Int)) hf15 e15 h16
  refine VW.iconst dX8_digest_170 ?_
  refine VW.istore_n (lv' := [(0, _), (1, _)]) dX8_digest_171 (by decide) rfl ?_
  refine lp_md5 hst hm h0 ok (H := dgst xs ys C S Z B) B.length 0 _ μ16 (by omega) (by omega) hf16 e16 rfl (fun μ17 hf17 e17 => ?_)
  refine VW.aload_n dX8_digest_197 rfl ?_
  refine VW.getL dX8_digest_198 fa_X8_269 (by have := hm.1; omega) hm.2.1 rfl ?_
  rw [e17]
  refine VW.lreturn dX8_digest_201 rfl ?_
  exact fxP.ll ⟨rfl, hf17⟩
end PDM
