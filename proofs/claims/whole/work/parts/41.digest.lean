/-! ===== digest: one pure fold, and the class's ===== -/
def mf (f : Int → Int) : Nat → Int → Int → Int
  | 0, _, h => h
  | n + 1, i, h => mf f n (i + 1) (31 * h + w32 (f i))
def mo (g : Int → Int → Int) : Nat → Int → Int → Int
  | 0, _, h => h
  | n + 1, i, h => mo g n (i + 1) (mf (g i) 4 0 h)
theorem mo_flat (g : Int → Int → Int) : ∀ (n : Nat) (i h : Int), mf (fun k => g (k / 4) (k % 4)) (4 * n) (4 * i) h = mo g n i h
  | 0, i, h => rfl
  | n + 1, i, h => by
    have ih := mo_flat g n (i + 1) (mf (g i) 4 0 h)
    show mf (fun k => g (k / 4) (k % 4)) (4 * n) (4 * i + 1 + 1 + 1 + 1) (31 * (31 * (31 * (31 * h + w32 (g (4 * i / 4) (4 * i % 4))) + w32 (g ((4 * i + 1) / 4) ((4 * i + 1) % 4))) + w32 (g ((4 * i + 1 + 1) / 4) ((4 * i + 1 + 1) % 4))) + w32 (g ((4 * i + 1 + 1 + 1) / 4) ((4 * i + 1 + 1 + 1) % 4))) = mo g n (i + 1) (mf (g i) 4 0 h)
    rw [← ih, show 4 * i / 4 = i by omega, show 4 * i % 4 = 0 by omega, show (4 * i + 1) / 4 = i by omega, show (4 * i + 1) % 4 = 0 + 1 by omega, show (4 * i + 1 + 1) / 4 = i by omega, show (4 * i + 1 + 1) % 4 = 0 + 1 + 1 by omega, show (4 * i + 1 + 1 + 1) / 4 = i by omega, show (4 * i + 1 + 1 + 1) % 4 = 0 + 1 + 1 + 1 by omega, show 4 * i + 1 + 1 + 1 + 1 = 4 * (i + 1) by omega]
    rfl
section PDG
variable (xs ys : List Int) (C : List (List Int)) (S : List Int) (Z : List St) (B : List Int)
def ptV (p w : Int) : Int := if w = 0 then rat xs p else if w = 1 then rat ys p else if w = 2 then sDir xs ys p else sLen xs ys p
def rnV (p w : Int) : Int := if w = 0 then rat (rnD xs ys) p else if w = 1 then rat (rnL xs ys) p else if w = 2 then bI (decide (rat (rnL xs ys) p < rat S 0)) else bI (isCut (rnD xs ys) (rnL xs ys) p (rat S 1))
def rdV (w : Int) : Int := if w = 0 then readOf (rnD xs ys).length (dsts xs ys C S) (rat S 4) else if w = 1 then nbut (dsts xs ys C S) (-1) else if w = 2 then rat (dsts xs ys C S) (nbut (dsts xs ys C S) (-1)) else if w = 3 then maskOf (rsts xs ys C S) else comeOf (rsts xs ys C S)
def cnV (w : Int) : Int := if w = 0 then (xs.length : Int) else if w = 1 then ((rnD xs ys).length : Int) else if w = 2 then ((stk xs ys S).length : Int) else if w = 3 then (rnL xs ys).sum else if w = 4 then (fgvOf xs ys S).2 else if w = 5 then (C.length : Int) else if w = 6 then (C.map (fun L => (L.length : Int))).sum else if w = 7 then leastA C S else (Z.length : Int)
def cmS (c h : Int) : Int := 31 * (31 * mf (rat (C.getD c.toNat [])) (C.getD c.toNat []).length 0 h + w32 (dstOf S (stk xs ys S) (C.getD c.toNat []))) + w32 (dstOf S (C.getD (0 : Int).toNat []) (C.getD c.toNat []))
def cmF : Nat → Int → Int → Int
  | 0, _, h => h
  | n + 1, c, h => cmF n (c + 1) (cmS xs ys C S c h)
def pthF (h : Int) : Int := mf (rat (stk xs ys S)) (stk xs ys S).length 0 (mo (rnV xs ys S) (rnD xs ys).length 0 (mo (ptV xs ys) xs.length 0 h))
def dg1 : Int := cmF xs ys C S C.length 0 (pthF xs ys S (mf (rat S) 5 0 (mf (cnV xs ys C S Z) 9 0 2647)))
def dg2 : Int := 31 * (31 * (31 * (31 * (31 * (31 * mf (rdV xs ys C S) 5 0 (dg1 xs ys C S Z) + w32 (ifP xs ys C S 31 0)) + w32 (agn xs ys C S)) + w32 (mostF C S)) + w32 (strt xs ys)) + ((dbt xs ys C S).toNat : Int)) + w32 (B.length : Int)
def dgst : Int := mf (rat B) B.length 0 (dg2 xs ys C S Z B)
end PDG
section PDC
variable {G : GT} {l : Launch} {N : Nat} {sh : Nat → ShT} {μ μ' : Mem} {xs ys S B : List Int} {C : List (List Int)} {Z : List St} {E : Int → String} {q2 : Int × Int}
theorem gLo_z {M : MD} {av : List Value} {A : AS} {v : Int} (e : q2 = (0, v)) (h : Fx G l N sh M av μ (gLo E q2 A μ)) : Zi G l N sh M av μ (fun r μ' => r = v ∧ hasA μ' A ∧ frm μ μ' 0 273) := by
  subst e
  exact Fx.mono h (by rintro o μ' ⟨e1, e2, e3⟩; exact ⟨_, e1, _, rfl, rfl, e2, e3⟩)
theorem lp_wp1i (hst : l.stackTraces = false) (hg : isG N sh) (ok : okA (mk xs ys C S Z B)) {h0 H : Int} {Φ : RT → Prop} {p : Int} (hp : 0 ≤ p ∧ p < xs.length) : ∀ (n : Nat) (i h : Int) (μ1 : Mem), 0 ≤ i → i + n = 4 → hasG μ1 xs ys C S Z B → frm μ μ1 0 273 → mf (ptV xs ys p) n i h = H → (∀ μ2, hasG μ2 xs ys C S Z B → frm μ μ2 0 273 → VW G l none M_X7_withPath 51 [(0, .ref (gB G + 0)), (1, vL h0), (3, vL (H)), (5, vI p), (6, vI (4))] [] (N, sh, μ2) 0 0 Φ) → VW G l none M_X7_withPath 23 [(0, .ref (gB G + 0)), (1, vL h0), (3, vL (h)), (5, vI p), (6, vI (i))] [] (N, sh, μ1) 0 0 Φ := by
  obtain ⟨⟨⟨ok1, ok2, ok3, ok4⟩, ⟨ok5, ok6, ok7⟩, ok8⟩, ⟨ok9, ok10⟩, ok11, ok12⟩ := okA.un ok
  have okC : ∀ L ∈ C, bnd L 0 7 := fun L hL => (ok6 L hL).2
  have rk := rn_ok ok3 ok4 (by omega : xs.length ≤ 41)
  have rk2 := rk.2.1
  have sk := stk_ok (S := S) ok3 ok4 (by omega : xs.length ≤ 41)
  have sk1 := sk.1
  intro n
  induction n with
  | zero =>
    intro i h μ1 hi0 hi1 h1 hf e K
    obtain ⟨h10, hv⟩ := id h1
    obtain ⟨hP, hC, hS, hZ, hB, tx, ty, hT⟩ := id h10
    refine VW.iload dX7_withPath_23 rfl ?_
    refine VW.iconst dX7_withPath_25 ?_
    refine VW.icmp_gt 51 ⟨by omega, by omega⟩ ⟨by omega, by omega⟩ dX7_withPath_26 (by decide) (fun c26 => ?_) (fun c26 => by omega)
    obtain rfl : i = 4 := by omega
    subst e
    exact K μ1 h1 hf
  | succ n ih =>
    intro i h μ1 hi0 hi1 h1 hf e K
    obtain ⟨h10, hv⟩ := id h1
    obtain ⟨hP, hC, hS, hZ, hB, tx, ty, hT⟩ := id h10
    refine VW.iload dX7_withPath_23 rfl ?_
    refine VW.iconst dX7_withPath_25 ?_
    refine VW.icmp_gt 51 ⟨by omega, by omega⟩ ⟨by omega, by omega⟩ dX7_withPath_26 (by decide) (fun c26 => by omega) (fun c26 => ?_)
    refine VW.ldc2 (a := 31) dX7_withPath_29 wd_498 ?_
    refine VW.lload_n dX7_withPath_32 rfl ?_
    refine VW.lmul dX7_withPath_33 ?_
    refine VW.aload_n dX7_withPath_34 rfl ?_
    refine VW.iload dX7_withPath_35 rfl ?_
    refine VW.iload dX7_withPath_37 rfl ?_
    refine VW.fiV2 cv_X7_withPath_X7_pointOf dX7_withPath_39 (Nat.le_of_ble_eq_true rfl) (gLt hg) hg.2.1 (gLo_z (v := ptV xs ys p i) ((if_neg (by omega)).trans (if_neg (by omega))) (g_pointOf hst hg h1 ok (p := p) (w := i) ⟨by omega, by omega⟩ ⟨by omega, by omega⟩)) (fun r2 μ2 h2 => ?_)
    obtain ⟨rfl, h2⟩ := h2
    have h2 : True ∧ hasG μ2 xs ys C S Z B ∧ frm μ1 μ2 0 273 := ⟨trivial, h2.1, h2.2⟩
    refine VW.i2lw dX7_withPath_42 ?_
    refine VW.ladd dX7_withPath_43 ?_
    refine VW.lstore_n (lv' := [(0, _), (1, _), (3, _), (5, _), (6, _)]) dX7_withPath_44 (by decide) rfl ?_
    refine VW.iinc (lv' := [(0, _), (1, _), (3, _), (5, _), (6, _)]) dX7_withPath_45 rfl (by decide) rfl ?_
    refine VW.goto 23 dX7_withPath_48 (by decide) ?_
    exact ih (i + 1) _ μ2 (by omega) (by omega) h2.2.1 (hf.tr h2.2.2) e K
theorem lp_wp1 (hst : l.stackTraces = false) (hg : isG N sh) (ok : okA (mk xs ys C S Z B)) {h0 H : Int} {Φ : RT → Prop} : ∀ (n : Nat) (i h : Int) (μ1 : Mem), 0 ≤ i → i + n = (xs.length : Int) → hasG μ1 xs ys C S Z B → frm μ μ1 0 273 → mo (ptV xs ys) n i h = H → (∀ μ2, hasG μ2 xs ys C S Z B → frm μ μ2 0 273 → VW G l none M_X7_withPath 57 [(0, .ref (gB G + 0)), (1, vL h0), (3, vL (H)), (5, vI ((xs.length : Int)))] [] (N, sh, μ2) 0 0 Φ) → VW G l none M_X7_withPath 5 [(0, .ref (gB G + 0)), (1, vL h0), (3, vL (h)), (5, vI (i))] [] (N, sh, μ1) 0 0 Φ := by
  obtain ⟨⟨⟨ok1, ok2, ok3, ok4⟩, ⟨ok5, ok6, ok7⟩, ok8⟩, ⟨ok9, ok10⟩, ok11, ok12⟩ := okA.un ok
  have okC : ∀ L ∈ C, bnd L 0 7 := fun L hL => (ok6 L hL).2
  have rk := rn_ok ok3 ok4 (by omega : xs.length ≤ 41)
  have rk2 := rk.2.1
  have sk := stk_ok (S := S) ok3 ok4 (by omega : xs.length ≤ 41)
  have sk1 := sk.1
  intro n
  induction n with
  | zero =>
    intro i h μ1 hi0 hi1 h1 hf e K
    obtain ⟨h10, hv⟩ := id h1
    obtain ⟨hP, hC, hS, hZ, hB, tx, ty, hT⟩ := id h10
    refine VW.iload dX7_withPath_5 rfl ?_
    refine VW.aload_n dX7_withPath_7 rfl ?_
    refine VW.getR dX7_withPath_8 fa_X7_10 (gLt hg) hg.2.1 rfl ?_
    refine VW.getR dX7_withPath_11 fa_X7_73 (by have := hg.1; omega) (gSs hg) rfl ?_
    refine VW.pV0 cv_X7_withPath_X3_held dX7_withPath_14 (Nat.le_of_ble_eq_true rfl) (gSp hg).1 (gSp hg).2.1 (p_held hst (gSp hg) hP) ?_
    refine VW.icmp_ge 57 ⟨by omega, by omega⟩ ⟨by omega, by omega⟩ dX7_withPath_17 (by decide) (fun c17 => ?_) (fun c17 => by omega)
    obtain rfl : i = (xs.length : Int) := by omega
    subst e
    exact K μ1 h1 hf
  | succ n ih =>
    intro i h μ1 hi0 hi1 h1 hf e K
    obtain ⟨h10, hv⟩ := id h1
    obtain ⟨hP, hC, hS, hZ, hB, tx, ty, hT⟩ := id h10
    refine VW.iload dX7_withPath_5 rfl ?_
    refine VW.aload_n dX7_withPath_7 rfl ?_
    refine VW.getR dX7_withPath_8 fa_X7_10 (gLt hg) hg.2.1 rfl ?_
    refine VW.getR dX7_withPath_11 fa_X7_73 (by have := hg.1; omega) (gSs hg) rfl ?_
    refine VW.pV0 cv_X7_withPath_X3_held dX7_withPath_14 (Nat.le_of_ble_eq_true rfl) (gSp hg).1 (gSp hg).2.1 (p_held hst (gSp hg) hP) ?_
    refine VW.icmp_ge 57 ⟨by omega, by omega⟩ ⟨by omega, by omega⟩ dX7_withPath_17 (by decide) (fun c17 => by omega) (fun c17 => ?_)
    refine VW.iconst dX7_withPath_20 ?_
    refine VW.istore (lv' := [(0, _), (1, _), (3, _), (5, _), (6, _)]) dX7_withPath_21 (by decide) rfl ?_
    refine lp_wp1i hst hg ok (p := i) (H := mf (ptV xs ys i) 4 0 h) ⟨by omega, by omega⟩ 4 0 h μ1 (by omega) (by omega) h1 hf rfl (fun μ2 h2 hf2 => ?_)
    refine VW.iinc (lv' := [(0, _), (1, _), (3, _), (5, _), (6, _)]) dX7_withPath_51 rfl (by decide) rfl ?_
    refine VW.goto 5 dX7_withPath_54 (by decide) ?_
    refine VW.sub ?_ [0, 1, 2, 3] rfl
    exact ih (i + 1) _ μ2 (by omega) (by omega) h2 hf2 e K
theorem lp_wp2i (hst : l.stackTraces = false) (hg : isG N sh) (ok : okA (mk xs ys C S Z B)) {h0 H : Int} {Φ : RT → Prop} {p : Int} (hp : 0 ≤ p ∧ p < (rnD xs ys).length) : ∀ (n : Nat) (i h : Int) (μ1 : Mem), 0 ≤ i → i + n = 4 → hasG μ1 xs ys C S Z B → frm μ μ1 0 273 → mf (rnV xs ys S p) n i h = H → (∀ μ2, hasG μ2 xs ys C S Z B → frm μ μ2 0 273 → VW G l none M_X7_withPath 106 [(0, .ref (gB G + 0)), (1, vL h0), (3, vL (H)), (5, vI p), (6, vI (4))] [] (N, sh, μ2) 0 0 Φ) → VW G l none M_X7_withPath 78 [(0, .ref (gB G + 0)), (1, vL h0), (3, vL (h)), (5, vI p), (6, vI (i))] [] (N, sh, μ1) 0 0 Φ := by
  obtain ⟨⟨⟨ok1, ok2, ok3, ok4⟩, ⟨ok5, ok6, ok7⟩, ok8⟩, ⟨ok9, ok10⟩, ok11, ok12⟩ := okA.un ok
  have okC : ∀ L ∈ C, bnd L 0 7 := fun L hL => (ok6 L hL).2
  have rk := rn_ok ok3 ok4 (by omega : xs.length ≤ 41)
  have rk2 := rk.2.1
  have sk := stk_ok (S := S) ok3 ok4 (by omega : xs.length ≤ 41)
  have sk1 := sk.1
  intro n
  induction n with
  | zero =>
    intro i h μ1 hi0 hi1 h1 hf e K
    obtain ⟨h10, hv⟩ := id h1
    obtain ⟨hP, hC, hS, hZ, hB, tx, ty, hT⟩ := id h10
    refine VW.iload dX7_withPath_78 rfl ?_
    refine VW.iconst dX7_withPath_80 ?_
    refine VW.icmp_gt 106 ⟨by omega, by omega⟩ ⟨by omega, by omega⟩ dX7_withPath_81 (by decide) (fun c81 => ?_) (fun c81 => by omega)
    obtain rfl : i = 4 := by omega
    subst e
    exact K μ1 h1 hf
  | succ n ih =>
    intro i h μ1 hi0 hi1 h1 hf e K
    obtain ⟨h10, hv⟩ := id h1
    obtain ⟨hP, hC, hS, hZ, hB, tx, ty, hT⟩ := id h10
    refine VW.iload dX7_withPath_78 rfl ?_
    refine VW.iconst dX7_withPath_80 ?_
    refine VW.icmp_gt 106 ⟨by omega, by omega⟩ ⟨by omega, by omega⟩ dX7_withPath_81 (by decide) (fun c81 => by omega) (fun c81 => ?_)
    refine VW.ldc2 (a := 31) dX7_withPath_84 wd_498 ?_
    refine VW.lload_n dX7_withPath_87 rfl ?_
    refine VW.lmul dX7_withPath_88 ?_
    refine VW.aload_n dX7_withPath_89 rfl ?_
    refine VW.iload dX7_withPath_90 rfl ?_
    refine VW.iload dX7_withPath_92 rfl ?_
    refine VW.fiV2 cv_X7_withPath_X7_run dX7_withPath_94 (Nat.le_of_ble_eq_true rfl) (gLt hg) hg.2.1 (gLo_z (v := rnV xs ys S p i) ((if_neg (by omega)).trans (if_neg (by omega))) (g_run hst hg h1 ok (r := p) (w := i) ⟨by omega, by omega⟩ ⟨by omega, by omega⟩)) (fun r2 μ2 h2 => ?_)
    obtain ⟨rfl, h2⟩ := h2
    have h2 : True ∧ hasG μ2 xs ys C S Z B ∧ frm μ1 μ2 0 273 := ⟨trivial, h2.1, h2.2⟩
    refine VW.i2lw dX7_withPath_97 ?_
    refine VW.ladd dX7_withPath_98 ?_
    refine VW.lstore_n (lv' := [(0, _), (1, _), (3, _), (5, _), (6, _)]) dX7_withPath_99 (by decide) rfl ?_
    refine VW.iinc (lv' := [(0, _), (1, _), (3, _), (5, _), (6, _)]) dX7_withPath_100 rfl (by decide) rfl ?_
    refine VW.goto 78 dX7_withPath_103 (by decide) ?_
    exact ih (i + 1) _ μ2 (by omega) (by omega) h2.2.1 (hf.tr h2.2.2) e K
theorem lp_wp2 (hst : l.stackTraces = false) (hg : isG N sh) (ok : okA (mk xs ys C S Z B)) {h0 H : Int} {Φ : RT → Prop} : ∀ (n : Nat) (i h : Int) (μ1 : Mem), 0 ≤ i → i + n = ((rnD xs ys).length : Int) → hasG μ1 xs ys C S Z B → frm μ μ1 0 273 → mo (rnV xs ys S) n i h = H → (∀ μ2, hasG μ2 xs ys C S Z B → frm μ μ2 0 273 → VW G l none M_X7_withPath 112 [(0, .ref (gB G + 0)), (1, vL h0), (3, vL (H)), (5, vI (((rnD xs ys).length : Int)))] [] (N, sh, μ2) 0 0 Φ) → VW G l none M_X7_withPath 60 [(0, .ref (gB G + 0)), (1, vL h0), (3, vL (h)), (5, vI (i))] [] (N, sh, μ1) 0 0 Φ := by
  obtain ⟨⟨⟨ok1, ok2, ok3, ok4⟩, ⟨ok5, ok6, ok7⟩, ok8⟩, ⟨ok9, ok10⟩, ok11, ok12⟩ := okA.un ok
  have okC : ∀ L ∈ C, bnd L 0 7 := fun L hL => (ok6 L hL).2
  have rk := rn_ok ok3 ok4 (by omega : xs.length ≤ 41)
  have rk2 := rk.2.1
  have sk := stk_ok (S := S) ok3 ok4 (by omega : xs.length ≤ 41)
  have sk1 := sk.1
  intro n
  induction n with
  | zero =>
    intro i h μ1 hi0 hi1 h1 hf e K
    obtain ⟨h10, hv⟩ := id h1
    obtain ⟨hP, hC, hS, hZ, hB, tx, ty, hT⟩ := id h10
    refine VW.iload dX7_withPath_60 rfl ?_
    refine VW.aload_n dX7_withPath_62 rfl ?_
    refine VW.getR dX7_withPath_63 fa_X7_35 (gLt hg) hg.2.1 rfl ?_
    refine VW.getR dX7_withPath_66 fa_X7_245 (by have := hg.1; omega) (gVs hg) rfl ?_
    refine VW.pV0 cv_X7_withPath_X4_held dX7_withPath_69 (Nat.le_of_ble_eq_true rfl) (gV1 hg).1 (gV1 hg).2.1 (r_held hst (gV1 hg) hv.1) ?_
    refine VW.icmp_ge 112 ⟨by omega, by omega⟩ ⟨by omega, by omega⟩ dX7_withPath_72 (by decide) (fun c72 => ?_) (fun c72 => by omega)
    obtain rfl : i = ((rnD xs ys).length : Int) := by omega
    subst e
    exact K μ1 h1 hf
  | succ n ih =>
    intro i h μ1 hi0 hi1 h1 hf e K
    obtain ⟨h10, hv⟩ := id h1
    obtain ⟨hP, hC, hS, hZ, hB, tx, ty, hT⟩ := id h10
    refine VW.iload dX7_withPath_60 rfl ?_
    refine VW.aload_n dX7_withPath_62 rfl ?_
    refine VW.getR dX7_withPath_63 fa_X7_35 (gLt hg) hg.2.1 rfl ?_
    refine VW.getR dX7_withPath_66 fa_X7_245 (by have := hg.1; omega) (gVs hg) rfl ?_
    refine VW.pV0 cv_X7_withPath_X4_held dX7_withPath_69 (Nat.le_of_ble_eq_true rfl) (gV1 hg).1 (gV1 hg).2.1 (r_held hst (gV1 hg) hv.1) ?_
    refine VW.icmp_ge 112 ⟨by omega, by omega⟩ ⟨by omega, by omega⟩ dX7_withPath_72 (by decide) (fun c72 => by omega) (fun c72 => ?_)
    refine VW.iconst dX7_withPath_75 ?_
    refine VW.istore (lv' := [(0, _), (1, _), (3, _), (5, _), (6, _)]) dX7_withPath_76 (by decide) rfl ?_
    refine lp_wp2i hst hg ok (p := i) (H := mf (rnV xs ys S i) 4 0 h) ⟨by omega, by omega⟩ 4 0 h μ1 (by omega) (by omega) h1 hf rfl (fun μ2 h2 hf2 => ?_)
    refine VW.iinc (lv' := [(0, _), (1, _), (3, _), (5, _), (6, _)]) dX7_withPath_106 rfl (by decide) rfl ?_
    refine VW.goto 60 dX7_withPath_109 (by decide) ?_
    refine VW.sub ?_ [0, 1, 2, 3] rfl
    exact ih (i + 1) _ μ2 (by omega) (by omega) h2 hf2 e K
theorem lp_wp3 (hst : l.stackTraces = false) (hg : isG N sh) (ok : okA (mk xs ys C S Z B)) {h0 H : Int} {Φ : RT → Prop} : ∀ (n : Nat) (i h : Int) (μ1 : Mem), 0 ≤ i → i + n = ((stk xs ys S).length : Int) → hasG μ1 xs ys C S Z B → frm μ μ1 0 273 → mf (rat (stk xs ys S)) n i h = H → (∀ μ2, hasG μ2 xs ys C S Z B → frm μ μ2 0 273 → VW G l none M_X7_withPath 156 [(0, .ref (gB G + 0)), (1, vL h0), (3, vL (H)), (5, vI (((stk xs ys S).length : Int)))] [] (N, sh, μ2) 0 0 Φ) → VW G l none M_X7_withPath 115 [(0, .ref (gB G + 0)), (1, vL h0), (3, vL (h)), (5, vI (i))] [] (N, sh, μ1) 0 0 Φ := by
  obtain ⟨⟨⟨ok1, ok2, ok3, ok4⟩, ⟨ok5, ok6, ok7⟩, ok8⟩, ⟨ok9, ok10⟩, ok11, ok12⟩ := okA.un ok
  have okC : ∀ L ∈ C, bnd L 0 7 := fun L hL => (ok6 L hL).2
  have rk := rn_ok ok3 ok4 (by omega : xs.length ≤ 41)
  have rk2 := rk.2.1
  have sk := stk_ok (S := S) ok3 ok4 (by omega : xs.length ≤ 41)
  have sk1 := sk.1
  intro n
  induction n with
  | zero =>
    intro i h μ1 hi0 hi1 h1 hf e K
    obtain ⟨h10, hv⟩ := id h1
    obtain ⟨hP, hC, hS, hZ, hB, tx, ty, hT⟩ := id h10
    refine VW.iload dX7_withPath_115 rfl ?_
    refine VW.aload_n dX7_withPath_117 rfl ?_
    refine VW.getR dX7_withPath_118 fa_X7_35 (gLt hg) hg.2.1 rfl ?_
    refine VW.getR dX7_withPath_121 fa_X7_147 (by have := hg.1; omega) (gVs hg) rfl ?_
    refine VW.pV0 cv_X7_withPath_X4_held dX7_withPath_124 (Nat.le_of_ble_eq_true rfl) (gV3 hg).1 (gV3 hg).2.1 (r_held hst (gV3 hg) hv.2.2.1) ?_
    refine VW.icmp_ge 156 ⟨by omega, by omega⟩ ⟨by omega, by omega⟩ dX7_withPath_127 (by decide) (fun c127 => ?_) (fun c127 => by omega)
    obtain rfl : i = ((stk xs ys S).length : Int) := by omega
    subst e
    exact K μ1 h1 hf
  | succ n ih =>
    intro i h μ1 hi0 hi1 h1 hf e K
    obtain ⟨h10, hv⟩ := id h1
    obtain ⟨hP, hC, hS, hZ, hB, tx, ty, hT⟩ := id h10
    refine VW.iload dX7_withPath_115 rfl ?_
    refine VW.aload_n dX7_withPath_117 rfl ?_
    refine VW.getR dX7_withPath_118 fa_X7_35 (gLt hg) hg.2.1 rfl ?_
    refine VW.getR dX7_withPath_121 fa_X7_147 (by have := hg.1; omega) (gVs hg) rfl ?_
    refine VW.pV0 cv_X7_withPath_X4_held dX7_withPath_124 (Nat.le_of_ble_eq_true rfl) (gV3 hg).1 (gV3 hg).2.1 (r_held hst (gV3 hg) hv.2.2.1) ?_
    refine VW.icmp_ge 156 ⟨by omega, by omega⟩ ⟨by omega, by omega⟩ dX7_withPath_127 (by decide) (fun c127 => by omega) (fun c127 => ?_)
    refine VW.ldc2 (a := 31) dX7_withPath_130 wd_498 ?_
    refine VW.lload_n dX7_withPath_133 rfl ?_
    refine VW.lmul dX7_withPath_134 ?_
    refine VW.aload_n dX7_withPath_135 rfl ?_
    refine VW.getR dX7_withPath_136 fa_X7_35 (gLt hg) hg.2.1 rfl ?_
    refine VW.getR dX7_withPath_139 fa_X7_147 (by have := hg.1; omega) (gVs hg) rfl ?_
    refine VW.iload dX7_withPath_142 rfl ?_
    refine VW.pV1 cv_X7_withPath_X4_at dX7_withPath_144 (Nat.le_of_ble_eq_true rfl) (gV3 hg).1 (gV3 hg).2.1 (r_at hst (gV3 hg) hv.2.2.1 (i := i) ⟨by omega, by omega⟩) ?_
    refine VW.i2lw dX7_withPath_147 ?_
    refine VW.ladd dX7_withPath_148 ?_
    refine VW.lstore_n (lv' := [(0, _), (1, _), (3, _), (5, _)]) dX7_withPath_149 (by decide) rfl ?_
    refine VW.iinc (lv' := [(0, _), (1, _), (3, _), (5, _)]) dX7_withPath_150 rfl (by decide) rfl ?_
    refine VW.goto 115 dX7_withPath_153 (by decide) ?_
    exact ih (i + 1) _ μ1 (by omega) (by omega) h1 hf e K
theorem g_withPath (hst : l.stackTraces = false) (hg : isG N sh) (h : hasG μ xs ys C S Z B) (ok : okA (mk xs ys C S Z B)) {h0 : Int} : Zl G l N sh M_X7_withPath [.ref (gB G + 0), vL h0] μ (fun r μ' => r = pthF xs ys S h0 ∧ hasG μ' xs ys C S Z B ∧ frm μ μ' 0 273) := by
  refine Fx.of hst rfl (by decide +kernel) (Nat.le_of_ble_eq_true rfl) rfl ?_
  refine VW.lload_n dX7_withPath_0 rfl ?_
  refine VW.lstore_n (lv' := [(0, _), (1, _), (3, _)]) dX7_withPath_1 (by decide) rfl ?_
  refine VW.iconst dX7_withPath_2 ?_
  refine VW.istore (lv' := [(0, _), (1, _), (3, _), (5, _)]) dX7_withPath_3 (by decide) rfl ?_
  refine lp_wp1 hst hg ok (H := mo (ptV xs ys) xs.length 0 h0) xs.length 0 h0 μ (by omega) (by omega) h frm.rf rfl (fun μ1 h1 hf1 => ?_)
  refine VW.iconst dX7_withPath_57 ?_
  refine VW.istore (lv' := [(0, _), (1, _), (3, _), (5, _)]) dX7_withPath_58 (by decide) rfl ?_
  refine lp_wp2 hst hg ok (H := mo (rnV xs ys S) (rnD xs ys).length 0 (mo (ptV xs ys) xs.length 0 h0)) (rnD xs ys).length 0 _ μ1 (by omega) (by omega) h1 hf1 rfl (fun μ2 h2 hf2 => ?_)
  refine VW.iconst dX7_withPath_112 ?_
  refine VW.istore (lv' := [(0, _), (1, _), (3, _), (5, _)]) dX7_withPath_113 (by decide) rfl ?_
  refine lp_wp3 hst hg ok (H := pthF xs ys S h0) (stk xs ys S).length 0 _ μ2 (by omega) (by omega) h2 hf2 rfl (fun μ3 h3 hf3 => ?_)
  refine VW.lload_n dX7_withPath_156 rfl ?_
  refine VW.lreturn dX7_withPath_157 rfl ?_
  exact fxP.ll ⟨rfl, h3, hf3⟩
theorem lp_wc1 (hst : l.stackTraces = false) (hg : isG N sh) (ok : okA (mk xs ys C S Z B)) {h0 H : Int} {Φ : RT → Prop} {p : Int} (hp : 0 ≤ p ∧ p < C.length) (hp8 : (C.getD p.toNat []).length ≤ 8) : ∀ (n : Nat) (i h : Int) (μ1 : Mem), 0 ≤ i → i + n = ((C.getD p.toNat []).length : Int) → hasG μ1 xs ys C S Z B → frm μ μ1 0 273 → mf (rat (C.getD p.toNat [])) n i h = H → (∀ μ2, hasG μ2 xs ys C S Z B → frm μ μ2 0 273 → VW G l none M_X7_withCommands 68 [(0, .ref (gB G + 0)), (1, vL h0), (3, vL (H)), (5, vI p), (6, .ref (gB G + (7 + 2 + 2 * p.toNat))), (7, vI (((C.getD p.toNat []).length : Int)))] [] (N, sh, μ2) 0 0 Φ) → VW G l none M_X7_withCommands 37 [(0, .ref (gB G + 0)), (1, vL h0), (3, vL (h)), (5, vI p), (6, .ref (gB G + (7 + 2 + 2 * p.toNat))), (7, vI (i))] [] (N, sh, μ1) 0 0 Φ := by
  obtain ⟨⟨⟨ok1, ok2, ok3, ok4⟩, ⟨ok5, ok6, ok7⟩, ok8⟩, ⟨ok9, ok10⟩, ok11, ok12⟩ := okA.un ok
  have okC : ∀ L ∈ C, bnd L 0 7 := fun L hL => (ok6 L hL).2
  have rk := rn_ok ok3 ok4 (by omega : xs.length ≤ 41)
  have rk2 := rk.2.1
  have sk := stk_ok (S := S) ok3 ok4 (by omega : xs.length ≤ 41)
  have sk1 := sk.1
  intro n
  induction n with
  | zero =>
    intro i h μ1 hi0 hi1 h1 hf e K
    obtain ⟨h10, hv⟩ := id h1
    obtain ⟨hP, hC, hS, hZ, hB, tx, ty, hT⟩ := id h10
    refine VW.iload dX7_withCommands_37 rfl ?_
    refine VW.aload dX7_withCommands_39 rfl ?_
    refine VW.pV0 cv_X7_withCommands_X4_held dX7_withCommands_41 (Nat.le_of_ble_eq_true rfl) ((gSc hg).2.2.2.2.1 p.toNat (by omega)).1 ((gSc hg).2.2.2.2.1 p.toNat (by omega)).2.1 (r_held hst ((gSc hg).2.2.2.2.1 p.toNat (by omega)) (hC.row (i := p.toNat) (by omega))) ?_
    refine VW.icmp_ge 68 ⟨by omega, by omega⟩ ⟨by omega, by omega⟩ dX7_withCommands_44 (by decide) (fun c44 => ?_) (fun c44 => by omega)
    obtain rfl : i = ((C.getD p.toNat []).length : Int) := by omega
    subst e
    exact K μ1 h1 hf
  | succ n ih =>
    intro i h μ1 hi0 hi1 h1 hf e K
    obtain ⟨h10, hv⟩ := id h1
    obtain ⟨hP, hC, hS, hZ, hB, tx, ty, hT⟩ := id h10
    refine VW.iload dX7_withCommands_37 rfl ?_
    refine VW.aload dX7_withCommands_39 rfl ?_
    refine VW.pV0 cv_X7_withCommands_X4_held dX7_withCommands_41 (Nat.le_of_ble_eq_true rfl) ((gSc hg).2.2.2.2.1 p.toNat (by omega)).1 ((gSc hg).2.2.2.2.1 p.toNat (by omega)).2.1 (r_held hst ((gSc hg).2.2.2.2.1 p.toNat (by omega)) (hC.row (i := p.toNat) (by omega))) ?_
    refine VW.icmp_ge 68 ⟨by omega, by omega⟩ ⟨by omega, by omega⟩ dX7_withCommands_44 (by decide) (fun c44 => by omega) (fun c44 => ?_)
    refine VW.ldc2 (a := 31) dX7_withCommands_47 wd_498 ?_
    refine VW.lload_n dX7_withCommands_50 rfl ?_
    refine VW.lmul dX7_withCommands_51 ?_
    refine VW.aload dX7_withCommands_52 rfl ?_
    refine VW.iload dX7_withCommands_54 rfl ?_
    refine VW.pV1 cv_X7_withCommands_X4_at dX7_withCommands_56 (Nat.le_of_ble_eq_true rfl) ((gSc hg).2.2.2.2.1 p.toNat (by omega)).1 ((gSc hg).2.2.2.2.1 p.toNat (by omega)).2.1 (r_at hst ((gSc hg).2.2.2.2.1 p.toNat (by omega)) (hC.row (i := p.toNat) (by omega)) (i := i) ⟨by omega, by omega⟩) ?_
    refine VW.i2lw dX7_withCommands_59 ?_
    refine VW.ladd dX7_withCommands_60 ?_
    refine VW.lstore_n (lv' := [(0, _), (1, _), (3, _), (5, _), (6, _), (7, _)]) dX7_withCommands_61 (by decide) rfl ?_
    refine VW.iinc (lv' := [(0, _), (1, _), (3, _), (5, _), (6, _), (7, _)]) dX7_withCommands_62 rfl (by decide) rfl ?_
    refine VW.goto 37 dX7_withCommands_65 (by decide) ?_
    exact ih (i + 1) _ μ1 (by omega) (by omega) h1 hf e K
theorem lp_wc2 (hst : l.stackTraces = false) (hg : isG N sh) (ok : okA (mk xs ys C S Z B)) {h0 H : Int} {Φ : RT → Prop} : ∀ (n : Nat) (i h : Int) (μ1 : Mem), 0 ≤ i → i + n = (C.length : Int) → hasG μ1 xs ys C S Z B → frm μ μ1 0 273 → cmF xs ys C S n i h = H → (∀ μ2, hasG μ2 xs ys C S Z B → frm μ μ2 0 273 → VW G l none M_X7_withCommands 104 [(0, .ref (gB G + 0)), (1, vL h0), (3, vL (H)), (5, vI ((C.length : Int)))] [] (N, sh, μ2) 0 0 Φ) → VW G l none M_X7_withCommands 5 [(0, .ref (gB G + 0)), (1, vL h0), (3, vL (h)), (5, vI (i))] [] (N, sh, μ1) 0 0 Φ := by
  obtain ⟨⟨⟨ok1, ok2, ok3, ok4⟩, ⟨ok5, ok6, ok7⟩, ok8⟩, ⟨ok9, ok10⟩, ok11, ok12⟩ := okA.un ok
  have okC : ∀ L ∈ C, bnd L 0 7 := fun L hL => (ok6 L hL).2
  have rk := rn_ok ok3 ok4 (by omega : xs.length ≤ 41)
  have rk2 := rk.2.1
  have sk := stk_ok (S := S) ok3 ok4 (by omega : xs.length ≤ 41)
  have sk1 := sk.1
  intro n
  induction n with
  | zero =>
    intro i h μ1 hi0 hi1 h1 hf e K
    obtain ⟨h10, hv⟩ := id h1
    obtain ⟨hP, hC, hS, hZ, hB, tx, ty, hT⟩ := id h10
    refine VW.iload dX7_withCommands_5 rfl ?_
    refine VW.aload_n dX7_withCommands_7 rfl ?_
    refine VW.getR dX7_withCommands_8 fa_X7_10 (gLt hg) hg.2.1 rfl ?_
    refine VW.getR dX7_withCommands_11 fa_X7_151 (by have := hg.1; omega) (gSs hg) rfl ?_
    refine VW.pV0 cv_X7_withCommands_X0_held dX7_withCommands_14 (Nat.le_of_ble_eq_true rfl) (gSc hg).1 (gSc hg).2.1 (c_held hst (gSc hg) hC) ?_
    refine VW.icmp_ge 104 ⟨by omega, by omega⟩ ⟨by omega, by omega⟩ dX7_withCommands_17 (by decide) (fun c17 => ?_) (fun c17 => by omega)
    obtain rfl : i = (C.length : Int) := by omega
    subst e
    exact K μ1 h1 hf
  | succ n ih =>
    intro i h μ1 hi0 hi1 h1 hf e K
    obtain ⟨h10, hv⟩ := id h1
    obtain ⟨hP, hC, hS, hZ, hB, tx, ty, hT⟩ := id h10
    refine VW.iload dX7_withCommands_5 rfl ?_
    refine VW.aload_n dX7_withCommands_7 rfl ?_
    refine VW.getR dX7_withCommands_8 fa_X7_10 (gLt hg) hg.2.1 rfl ?_
    refine VW.getR dX7_withCommands_11 fa_X7_151 (by have := hg.1; omega) (gSs hg) rfl ?_
    refine VW.pV0 cv_X7_withCommands_X0_held dX7_withCommands_14 (Nat.le_of_ble_eq_true rfl) (gSc hg).1 (gSc hg).2.1 (c_held hst (gSc hg) hC) ?_
    refine VW.icmp_ge 104 ⟨by omega, by omega⟩ ⟨by omega, by omega⟩ dX7_withCommands_17 (by decide) (fun c17 => by omega) (fun c17 => ?_)
    refine VW.aload_n dX7_withCommands_20 rfl ?_
    refine VW.getR dX7_withCommands_21 fa_X7_10 (gLt hg) hg.2.1 rfl ?_
    refine VW.getR dX7_withCommands_24 fa_X7_151 (by have := hg.1; omega) (gSs hg) rfl ?_
    refine VW.iload dX7_withCommands_27 rfl ?_
    refine VW.oV1 cv_X7_withCommands_X0_directions dX7_withCommands_29 (Nat.le_of_ble_eq_true rfl) (gSc hg).1 (gSc hg).2.1 (c_directions hst (gSc hg) ⟨by omega, by omega⟩) ?_
    refine VW.astore (lv' := [(0, _), (1, _), (3, _), (5, _), (6, _)]) dX7_withCommands_32 (by decide) rfl ?_
    refine VW.iconst dX7_withCommands_34 ?_
    refine VW.istore (lv' := [(0, _), (1, _), (3, _), (5, _), (6, _), (7, _)]) dX7_withCommands_35 (by decide) rfl ?_
    refine lp_wc1 hst hg ok (p := i) (H := mf (rat (C.getD i.toNat [])) (C.getD i.toNat []).length 0 h) ⟨by omega, by omega⟩ (ok6 _ (getD_mem C (by omega))).1 (C.getD i.toNat []).length 0 h μ1 (by omega) (by omega) h1 hf rfl (fun μ2 h2 hf2 => ?_)
    refine VW.ldc2 (a := 31) dX7_withCommands_68 wd_498 ?_
    refine VW.lload_n dX7_withCommands_71 rfl ?_
    refine VW.lmul dX7_withCommands_72 ?_
    refine VW.aload_n dX7_withCommands_73 rfl ?_
    refine VW.iload dX7_withCommands_74 rfl ?_
    refine VW.iconst dX7_withCommands_76 ?_
    refine VW.fiV2 cv_X7_withCommands_X7_distance dX7_withCommands_77 (Nat.le_of_ble_eq_true rfl) (gLt hg) hg.2.1 (gLo_z (v := dstOf S (stk xs ys S) (C.getD i.toNat [])) ((if_neg (by omega)).trans (by rw [if_pos rfl])) (g_distance hst hg h2 ok (c := i) (q := -1) ⟨by omega, by omega⟩ (by decide))) (fun r3 μ3 h3 => ?_)
    obtain ⟨rfl, h3g, h3f⟩ := h3
    replace h3g : hasG μ3 xs ys C S Z B := h3g
    refine VW.i2lw dX7_withCommands_80 ?_
    refine VW.ladd dX7_withCommands_81 ?_
    refine VW.lstore_n (lv' := [(0, _), (1, _), (3, _), (5, _), (6, _), (7, _)]) dX7_withCommands_82 (by decide) rfl ?_
    refine VW.ldc2 (a := 31) dX7_withCommands_83 wd_498 ?_
    refine VW.lload_n dX7_withCommands_86 rfl ?_
    refine VW.lmul dX7_withCommands_87 ?_
    refine VW.aload_n dX7_withCommands_88 rfl ?_
    refine VW.iload dX7_withCommands_89 rfl ?_
    refine VW.iconst dX7_withCommands_91 ?_
    refine VW.fiV2 cv_X7_withCommands_X7_distance dX7_withCommands_92 (Nat.le_of_ble_eq_true rfl) (gLt hg) hg.2.1 (gLo_z (v := dstOf S (C.getD (0 : Int).toNat []) (C.getD i.toNat [])) ((if_neg (by omega)).trans (by rw [if_neg (by decide)])) (g_distance hst hg h3g ok (c := i) (q := 0) ⟨by omega, by omega⟩ (by decide))) (fun r4 μ4 h4 => ?_)
    obtain ⟨rfl, h4g, h4f⟩ := h4
    replace h4g : hasG μ4 xs ys C S Z B := h4g
    refine VW.i2lw dX7_withCommands_95 ?_
    refine VW.ladd dX7_withCommands_96 ?_
    refine VW.lstore_n (lv' := [(0, _), (1, _), (3, _), (5, _), (6, _), (7, _)]) dX7_withCommands_97 (by decide) rfl ?_
    refine VW.iinc (lv' := [(0, _), (1, _), (3, _), (5, _), (6, _), (7, _)]) dX7_withCommands_98 rfl (by decide) rfl ?_
    refine VW.goto 5 dX7_withCommands_101 (by decide) ?_
    refine VW.sub ?_ [0, 1, 2, 3] rfl
    exact ih (i + 1) _ μ4 (by omega) (by omega) h4g ((hf2.tr h3f).tr h4f) e K
theorem g_withCommands (hst : l.stackTraces = false) (hg : isG N sh) (h : hasG μ xs ys C S Z B) (ok : okA (mk xs ys C S Z B)) {h0 : Int} : Zl G l N sh M_X7_withCommands [.ref (gB G + 0), vL h0] μ (fun r μ' => r = cmF xs ys C S C.length 0 h0 ∧ hasG μ' xs ys C S Z B ∧ frm μ μ' 0 273) := by
  refine Fx.of hst rfl (by decide +kernel) (Nat.le_of_ble_eq_true rfl) rfl ?_
  refine VW.lload_n dX7_withCommands_0 rfl ?_
  refine VW.lstore_n (lv' := [(0, _), (1, _), (3, _)]) dX7_withCommands_1 (by decide) rfl ?_
  refine VW.iconst dX7_withCommands_2 ?_
  refine VW.istore (lv' := [(0, _), (1, _), (3, _), (5, _)]) dX7_withCommands_3 (by decide) rfl ?_
  refine lp_wc2 hst hg ok (H := cmF xs ys C S C.length 0 h0) C.length 0 h0 μ (by omega) (by omega) h frm.rf rfl (fun μ1 h1 hf1 => ?_)
  refine VW.lload_n dX7_withCommands_104 rfl ?_
  refine VW.lreturn dX7_withCommands_105 rfl ?_
  exact fxP.ll ⟨rfl, h1, hf1⟩
theorem lp_dg1 (hst : l.stackTraces = false) (hg : isG N sh) (ok : okA (mk xs ys C S Z B)) {h0 H : Int} {Φ : RT → Prop} : ∀ (n : Nat) (i h : Int) (μ1 : Mem), 0 ≤ i → i + n = 9 → hasG μ1 xs ys C S Z B → frm μ μ1 0 273 → mf (cnV xs ys C S Z) n i h = H → (∀ μ2, hasG μ2 xs ys C S Z B → frm μ μ2 0 273 → VW G l none M_X7_digest 31 [(0, .ref (gB G + 0)), (1, vL (H)), (3, vI (9))] [] (N, sh, μ2) 0 0 Φ) → VW G l none M_X7_digest 6 [(0, .ref (gB G + 0)), (1, vL (h)), (3, vI (i))] [] (N, sh, μ1) 0 0 Φ := by
  obtain ⟨⟨⟨ok1, ok2, ok3, ok4⟩, ⟨ok5, ok6, ok7⟩, ok8⟩, ⟨ok9, ok10⟩, ok11, ok12⟩ := okA.un ok
  have okC : ∀ L ∈ C, bnd L 0 7 := fun L hL => (ok6 L hL).2
  have rk := rn_ok ok3 ok4 (by omega : xs.length ≤ 41)
  have rk2 := rk.2.1
  have sk := stk_ok (S := S) ok3 ok4 (by omega : xs.length ≤ 41)
  have sk1 := sk.1
  intro n
  induction n with
  | zero =>
    intro i h μ1 hi0 hi1 h1 hf e K
    obtain ⟨h10, hv⟩ := id h1
    obtain ⟨hP, hC, hS, hZ, hB, tx, ty, hT⟩ := id h10
    refine VW.iload_n dX7_digest_6 rfl ?_
    refine VW.bipush dX7_digest_7 rfl ?_
    refine VW.icmp_gt 31 ⟨by omega, by omega⟩ ⟨by omega, by omega⟩ dX7_digest_9 (by decide) (fun c9 => ?_) (fun c9 => by omega)
    obtain rfl : i = 9 := by omega
    subst e
    exact K μ1 h1 hf
  | succ n ih =>
    intro i h μ1 hi0 hi1 h1 hf e K
    obtain ⟨h10, hv⟩ := id h1
    obtain ⟨hP, hC, hS, hZ, hB, tx, ty, hT⟩ := id h10
    refine VW.iload_n dX7_digest_6 rfl ?_
    refine VW.bipush dX7_digest_7 rfl ?_
    refine VW.icmp_gt 31 ⟨by omega, by omega⟩ ⟨by omega, by omega⟩ dX7_digest_9 (by decide) (fun c9 => by omega) (fun c9 => ?_)
    refine VW.ldc2 (a := 31) dX7_digest_12 wd_498 ?_
    refine VW.lload_n dX7_digest_15 rfl ?_
    refine VW.lmul dX7_digest_16 ?_
    refine VW.aload_n dX7_digest_17 rfl ?_
    refine VW.iload_n dX7_digest_18 rfl ?_
    refine VW.fiV1 cv_X7_digest_X7_count dX7_digest_19 (Nat.le_of_ble_eq_true rfl) (gLt hg) hg.2.1 (gLo_z (v := cnV xs ys C S Z i) (if_neg (by omega)) (g_count hst hg h1 ok (w := i) ⟨by omega, by omega⟩)) (fun r2 μ2 h2 => ?_)
    obtain ⟨rfl, h2⟩ := h2
    have h2 : True ∧ hasG μ2 xs ys C S Z B ∧ frm μ1 μ2 0 273 := ⟨trivial, h2.1, h2.2⟩
    refine VW.i2lw dX7_digest_22 ?_
    refine VW.ladd dX7_digest_23 ?_
    refine VW.lstore_n (lv' := [(0, _), (1, _), (3, _)]) dX7_digest_24 (by decide) rfl ?_
    refine VW.iinc (lv' := [(0, _), (1, _), (3, _)]) dX7_digest_25 rfl (by decide) rfl ?_
    refine VW.goto 6 dX7_digest_28 (by decide) ?_
    exact ih (i + 1) _ μ2 (by omega) (by omega) h2.2.1 (hf.tr h2.2.2) e K
theorem lp_dg2 (hst : l.stackTraces = false) (hg : isG N sh) (ok : okA (mk xs ys C S Z B)) {h0 H : Int} {Φ : RT → Prop} : ∀ (n : Nat) (i h : Int) (μ1 : Mem), 0 ≤ i → i + n = 5 → hasG μ1 xs ys C S Z B → frm μ μ1 0 273 → mf (rat S) n i h = H → (∀ μ2, hasG μ2 xs ys C S Z B → frm μ μ2 0 273 → VW G l none M_X7_digest 57 [(0, .ref (gB G + 0)), (1, vL (H)), (3, vI (5))] [] (N, sh, μ2) 0 0 Φ) → VW G l none M_X7_digest 33 [(0, .ref (gB G + 0)), (1, vL (h)), (3, vI (i))] [] (N, sh, μ1) 0 0 Φ := by
  obtain ⟨⟨⟨ok1, ok2, ok3, ok4⟩, ⟨ok5, ok6, ok7⟩, ok8⟩, ⟨ok9, ok10⟩, ok11, ok12⟩ := okA.un ok
  have okC : ∀ L ∈ C, bnd L 0 7 := fun L hL => (ok6 L hL).2
  have rk := rn_ok ok3 ok4 (by omega : xs.length ≤ 41)
  have rk2 := rk.2.1
  have sk := stk_ok (S := S) ok3 ok4 (by omega : xs.length ≤ 41)
  have sk1 := sk.1
  intro n
  induction n with
  | zero =>
    intro i h μ1 hi0 hi1 h1 hf e K
    obtain ⟨h10, hv⟩ := id h1
    obtain ⟨hP, hC, hS, hZ, hB, tx, ty, hT⟩ := id h10
    refine VW.iload_n dX7_digest_33 rfl ?_
    refine VW.iconst dX7_digest_34 ?_
    refine VW.icmp_ge 57 ⟨by omega, by omega⟩ ⟨by omega, by omega⟩ dX7_digest_35 (by decide) (fun c35 => ?_) (fun c35 => by omega)
    obtain rfl : i = 5 := by omega
    subst e
    exact K μ1 h1 hf
  | succ n ih =>
    intro i h μ1 hi0 hi1 h1 hf e K
    obtain ⟨h10, hv⟩ := id h1
    obtain ⟨hP, hC, hS, hZ, hB, tx, ty, hT⟩ := id h10
    refine VW.iload_n dX7_digest_33 rfl ?_
    refine VW.iconst dX7_digest_34 ?_
    refine VW.icmp_ge 57 ⟨by omega, by omega⟩ ⟨by omega, by omega⟩ dX7_digest_35 (by decide) (fun c35 => by omega) (fun c35 => ?_)
    refine VW.ldc2 (a := 31) dX7_digest_38 wd_498 ?_
    refine VW.lload_n dX7_digest_41 rfl ?_
    refine VW.lmul dX7_digest_42 ?_
    refine VW.aload_n dX7_digest_43 rfl ?_
    refine VW.iload_n dX7_digest_44 rfl ?_
    refine VW.fiV1 cv_X7_digest_X7_setting dX7_digest_45 (Nat.le_of_ble_eq_true rfl) (gLt hg) hg.2.1 (gLo_z (v := rat S i) (if_neg (by omega)) (g_setting hst hg h1 ok (s := i) ⟨by omega, by omega⟩)) (fun r2 μ2 h2 => ?_)
    obtain ⟨rfl, h2⟩ := h2
    have h2 : True ∧ hasG μ2 xs ys C S Z B ∧ frm μ1 μ2 0 273 := ⟨trivial, h2.1, h2.2⟩
    refine VW.i2lw dX7_digest_48 ?_
    refine VW.ladd dX7_digest_49 ?_
    refine VW.lstore_n (lv' := [(0, _), (1, _), (3, _)]) dX7_digest_50 (by decide) rfl ?_
    refine VW.iinc (lv' := [(0, _), (1, _), (3, _)]) dX7_digest_51 rfl (by decide) rfl ?_
    refine VW.goto 33 dX7_digest_54 (by decide) ?_
    exact ih (i + 1) _ μ2 (by omega) (by omega) h2.2.1 (hf.tr h2.2.2) e K
theorem lp_dg3 (hst : l.stackTraces = false) (hg : isG N sh) (ok : okA (mk xs ys C S Z B)) {h0 H : Int} {Φ : RT → Prop} : ∀ (n : Nat) (i h : Int) (μ1 : Mem), 0 ≤ i → i + n = 5 → hasG μ1 xs ys C S Z B → frm μ μ1 0 273 → mf (rdV xs ys C S) n i h = H → (∀ μ2, hasG μ2 xs ys C S Z B → frm μ μ2 0 273 → VW G l none M_X7_digest 95 [(0, .ref (gB G + 0)), (1, vL (H)), (3, vI (5))] [] (N, sh, μ2) 0 0 Φ) → VW G l none M_X7_digest 71 [(0, .ref (gB G + 0)), (1, vL (h)), (3, vI (i))] [] (N, sh, μ1) 0 0 Φ := by
  obtain ⟨⟨⟨ok1, ok2, ok3, ok4⟩, ⟨ok5, ok6, ok7⟩, ok8⟩, ⟨ok9, ok10⟩, ok11, ok12⟩ := okA.un ok
  have okC : ∀ L ∈ C, bnd L 0 7 := fun L hL => (ok6 L hL).2
  have rk := rn_ok ok3 ok4 (by omega : xs.length ≤ 41)
  have rk2 := rk.2.1
  have sk := stk_ok (S := S) ok3 ok4 (by omega : xs.length ≤ 41)
  have sk1 := sk.1
  intro n
  induction n with
  | zero =>
    intro i h μ1 hi0 hi1 h1 hf e K
    obtain ⟨h10, hv⟩ := id h1
    obtain ⟨hP, hC, hS, hZ, hB, tx, ty, hT⟩ := id h10
    refine VW.iload_n dX7_digest_71 rfl ?_
    refine VW.iconst dX7_digest_72 ?_
    refine VW.icmp_gt 95 ⟨by omega, by omega⟩ ⟨by omega, by omega⟩ dX7_digest_73 (by decide) (fun c73 => ?_) (fun c73 => by omega)
    obtain rfl : i = 5 := by omega
    subst e
    exact K μ1 h1 hf
  | succ n ih =>
    intro i h μ1 hi0 hi1 h1 hf e K
    obtain ⟨h10, hv⟩ := id h1
    obtain ⟨hP, hC, hS, hZ, hB, tx, ty, hT⟩ := id h10
    refine VW.iload_n dX7_digest_71 rfl ?_
    refine VW.iconst dX7_digest_72 ?_
    refine VW.icmp_gt 95 ⟨by omega, by omega⟩ ⟨by omega, by omega⟩ dX7_digest_73 (by decide) (fun c73 => by omega) (fun c73 => ?_)
    refine VW.ldc2 (a := 31) dX7_digest_76 wd_498 ?_
    refine VW.lload_n dX7_digest_79 rfl ?_
    refine VW.lmul dX7_digest_80 ?_
    refine VW.aload_n dX7_digest_81 rfl ?_
    refine VW.iload_n dX7_digest_82 rfl ?_
    refine VW.fiV1 cv_X7_digest_X7_reading dX7_digest_83 (Nat.le_of_ble_eq_true rfl) (gLt hg) hg.2.1 (gLo_z (v := rdV xs ys C S i) (if_neg (by omega)) (g_reading hst hg h1 ok (w := i) ⟨by omega, by omega⟩)) (fun r2 μ2 h2 => ?_)
    obtain ⟨rfl, h2⟩ := h2
    have h2 : True ∧ hasG μ2 xs ys C S Z B ∧ frm μ1 μ2 0 273 := ⟨trivial, h2.1, h2.2⟩
    refine VW.i2lw dX7_digest_86 ?_
    refine VW.ladd dX7_digest_87 ?_
    refine VW.lstore_n (lv' := [(0, _), (1, _), (3, _)]) dX7_digest_88 (by decide) rfl ?_
    refine VW.iinc (lv' := [(0, _), (1, _), (3, _)]) dX7_digest_89 rfl (by decide) rfl ?_
    refine VW.goto 71 dX7_digest_92 (by decide) ?_
    exact ih (i + 1) _ μ2 (by omega) (by omega) h2.2.1 (hf.tr h2.2.2) e K
theorem lp_dg4 (hst : l.stackTraces = false) (hg : isG N sh) (ok : okA (mk xs ys C S Z B)) {h0 H : Int} {Φ : RT → Prop} : ∀ (n : Nat) (i h : Int) (μ1 : Mem), 0 ≤ i → i + n = (B.length : Int) → hasG μ1 xs ys C S Z B → frm μ μ1 0 273 → mf (rat B) n i h = H → (∀ μ2, hasG μ2 xs ys C S Z B → frm μ μ2 0 273 → VW G l none M_X7_digest 210 [(0, .ref (gB G + 0)), (1, vL (H)), (3, vI ((B.length : Int)))] [] (N, sh, μ2) 0 0 Φ) → VW G l none M_X7_digest 177 [(0, .ref (gB G + 0)), (1, vL (h)), (3, vI (i))] [] (N, sh, μ1) 0 0 Φ := by
  obtain ⟨⟨⟨ok1, ok2, ok3, ok4⟩, ⟨ok5, ok6, ok7⟩, ok8⟩, ⟨ok9, ok10⟩, ok11, ok12⟩ := okA.un ok
  have okC : ∀ L ∈ C, bnd L 0 7 := fun L hL => (ok6 L hL).2
  have rk := rn_ok ok3 ok4 (by omega : xs.length ≤ 41)
  have rk2 := rk.2.1
  have sk := stk_ok (S := S) ok3 ok4 (by omega : xs.length ≤ 41)
  have sk1 := sk.1
  intro n
  induction n with
  | zero =>
    intro i h μ1 hi0 hi1 h1 hf e K
    obtain ⟨h10, hv⟩ := id h1
    obtain ⟨hP, hC, hS, hZ, hB, tx, ty, hT⟩ := id h10
    refine VW.iload_n dX7_digest_177 rfl ?_
    refine VW.aload_n dX7_digest_178 rfl ?_
    refine VW.getR dX7_digest_179 fa_X7_28 (gLt hg) hg.2.1 rfl ?_
    refine VW.pV0 cv_X7_digest_X4_held dX7_digest_182 (Nat.le_of_ble_eq_true rfl) (gBu hg).1 (gBu hg).2.1 (r_held hst (gBu hg) hB) ?_
    refine VW.icmp_ge 210 ⟨by omega, by omega⟩ ⟨by omega, by omega⟩ dX7_digest_185 (by decide) (fun c185 => ?_) (fun c185 => by omega)
    obtain rfl : i = (B.length : Int) := by omega
    subst e
    exact K μ1 h1 hf
  | succ n ih =>
    intro i h μ1 hi0 hi1 h1 hf e K
    obtain ⟨h10, hv⟩ := id h1
    obtain ⟨hP, hC, hS, hZ, hB, tx, ty, hT⟩ := id h10
    refine VW.iload_n dX7_digest_177 rfl ?_
    refine VW.aload_n dX7_digest_178 rfl ?_
    refine VW.getR dX7_digest_179 fa_X7_28 (gLt hg) hg.2.1 rfl ?_
    refine VW.pV0 cv_X7_digest_X4_held dX7_digest_182 (Nat.le_of_ble_eq_true rfl) (gBu hg).1 (gBu hg).2.1 (r_held hst (gBu hg) hB) ?_
    refine VW.icmp_ge 210 ⟨by omega, by omega⟩ ⟨by omega, by omega⟩ dX7_digest_185 (by decide) (fun c185 => by omega) (fun c185 => ?_)
    refine VW.ldc2 (a := 31) dX7_digest_188 wd_498 ?_
    refine VW.lload_n dX7_digest_191 rfl ?_
    refine VW.lmul dX7_digest_192 ?_
    refine VW.aload_n dX7_digest_193 rfl ?_
    refine VW.getR dX7_digest_194 fa_X7_28 (gLt hg) hg.2.1 rfl ?_
    refine VW.iload_n dX7_digest_197 rfl ?_
    refine VW.pV1 cv_X7_digest_X4_at dX7_digest_198 (Nat.le_of_ble_eq_true rfl) (gBu hg).1 (gBu hg).2.1 (r_at hst (gBu hg) hB (i := i) ⟨by omega, by omega⟩) ?_
    refine VW.i2lw dX7_digest_201 ?_
    refine VW.ladd dX7_digest_202 ?_
    refine VW.lstore_n (lv' := [(0, _), (1, _), (3, _)]) dX7_digest_203 (by decide) rfl ?_
    refine VW.iinc (lv' := [(0, _), (1, _), (3, _)]) dX7_digest_204 rfl (by decide) rfl ?_
    refine VW.goto 177 dX7_digest_207 (by decide) ?_
    exact ih (i + 1) _ μ1 (by omega) (by omega) h1 hf e K
theorem g_digest (hst : l.stackTraces = false) (hg : isG N sh) (h : hasG μ xs ys C S Z B) (ok : okA (mk xs ys C S Z B)) : Zl G l N sh M_X7_digest [.ref (gB G + 0)] μ (fun r μ' => r = dgst xs ys C S Z B ∧ hasG μ' xs ys C S Z B ∧ frm μ μ' 0 273) := by
  refine Fx.of hst rfl (by decide +kernel) (Nat.le_of_ble_eq_true rfl) rfl ?_
  obtain ⟨⟨⟨ok1, ok2, ok3, ok4⟩, ⟨ok5, ok6, ok7⟩, ok8⟩, ⟨ok9, ok10⟩, ok11, ok12⟩ := okA.un ok
  have okC : ∀ L ∈ C, bnd L 0 7 := fun L hL => (ok6 L hL).2
  have rk := rn_ok ok3 ok4 (by omega : xs.length ≤ 41)
  have rk2 := rk.2.1
  have sk := stk_ok (S := S) ok3 ok4 (by omega : xs.length ≤ 41)
  have sk1 := sk.1
  refine VW.ldc2 (a := 2647) dX7_digest_0 wd_497 ?_
  refine VW.lstore_n (lv' := [(0, _), (1, _)]) dX7_digest_3 (by decide) rfl ?_
  refine VW.iconst dX7_digest_4 ?_
  refine VW.istore_n (lv' := [(0, _), (1, _), (3, _)]) dX7_digest_5 (by decide) rfl ?_
  refine lp_dg1 hst hg ok (h0 := 0) (H := mf (cnV xs ys C S Z) 9 0 2647) 9 0 _ μ (by omega) (by omega) h frm.rf rfl (fun μ1 h1 hf1 => ?_)
  refine VW.iconst dX7_digest_31 ?_
  refine VW.istore_n (lv' := [(0, _), (1, _), (3, _)]) dX7_digest_32 (by decide) rfl ?_
  refine lp_dg2 hst hg ok (h0 := 0) (H := mf (rat S) 5 0 (mf (cnV xs ys C S Z) 9 0 2647)) 5 0 _ μ1 (by omega) (by omega) h1 hf1 rfl (fun μ2 h2 hf2 => ?_)
  refine VW.aload_n dX7_digest_57 rfl ?_
  refine VW.lload_n dX7_digest_58 rfl ?_
  refine VW.flV1 cv_X7_digest_X7_withPath dX7_digest_59 (Nat.le_of_ble_eq_true rfl) (gLt hg) hg.2.1 (g_withPath hst hg h2 ok) (fun r3 μ3 h3 => ?_)
  obtain ⟨rfl, h3g, h3f⟩ := h3
  refine VW.lstore_n (lv' := [(0, _), (1, _), (3, _)]) dX7_digest_62 (by decide) rfl ?_
  refine VW.aload_n dX7_digest_63 rfl ?_
  refine VW.lload_n dX7_digest_64 rfl ?_
  refine VW.flV1 cv_X7_digest_X7_withCommands dX7_digest_65 (Nat.le_of_ble_eq_true rfl) (gLt hg) hg.2.1 (g_withCommands hst hg h3g ok) (fun r4 μ4 h4 => ?_)
  obtain ⟨rfl, h4g, h4f⟩ := h4
  have hf4 := (hf2.tr h3f).tr h4f
  refine VW.lstore_n (lv' := [(0, _), (1, _), (3, _)]) dX7_digest_68 (by decide) rfl ?_
  refine VW.iconst dX7_digest_69 ?_
  refine VW.istore_n (lv' := [(0, _), (1, _), (3, _)]) dX7_digest_70 (by decide) rfl ?_
  refine lp_dg3 hst hg ok (h0 := 0) (H := mf (rdV xs ys C S) 5 0 (dg1 xs ys C S Z)) 5 0 _ μ4 (by omega) (by omega) h4g hf4 rfl (fun μ5 h5 hf5 => ?_)
  refine VW.ldc2 (a := 31) dX7_digest_95 wd_498 ?_
  refine VW.lload_n dX7_digest_98 rfl ?_
  refine VW.lmul dX7_digest_99 ?_
  refine VW.aload_n dX7_digest_100 rfl ?_
  refine VW.bipush dX7_digest_101 rfl ?_
  refine VW.iconst dX7_digest_103 ?_
  refine VW.fiV2 cv_X7_digest_X7_ifPoint dX7_digest_104 (Nat.le_of_ble_eq_true rfl) (gLt hg) hg.2.1 (gLo_z (v := ifP xs ys C S 31 0) (if_neg (by decide)) (g_ifPoint hst hg h5 ok (x := 31) (y := 0) (by decide) (by decide))) (fun r6 μ6 h6 => ?_)
  obtain ⟨rfl, h6g, h6f⟩ := h6
  refine VW.i2lw dX7_digest_107 ?_
  refine VW.ladd dX7_digest_108 ?_
  refine VW.lstore_n (lv' := [(0, _), (1, _), (3, _)]) dX7_digest_109 (by decide) rfl ?_
  refine VW.ldc2 (a := 31) dX7_digest_110 wd_498 ?_
  refine VW.lload_n dX7_digest_113 rfl ?_
  refine VW.lmul dX7_digest_114 ?_
  refine VW.aload_n dX7_digest_115 rfl ?_
  refine VW.pV0 cv_X7_digest_X7_against dX7_digest_116 (Nat.le_of_ble_eq_true rfl) (gLt hg) hg.2.1 (g_against hst hg h6g ok) ?_
  refine VW.i2lw dX7_digest_119 ?_
  refine VW.ladd dX7_digest_120 ?_
  refine VW.lstore_n (lv' := [(0, _), (1, _), (3, _)]) dX7_digest_121 (by decide) rfl ?_
  refine VW.ldc2 (a := 31) dX7_digest_122 wd_498 ?_
  refine VW.lload_n dX7_digest_125 rfl ?_
  refine VW.lmul dX7_digest_126 ?_
  refine VW.aload_n dX7_digest_127 rfl ?_
  refine VW.fiV0 cv_X7_digest_X7_mostForgiven dX7_digest_128 (Nat.le_of_ble_eq_true rfl) (gLt hg) hg.2.1 (g_mostForgiven hst hg h6g ok) (fun r7 μ7 h7 => ?_)
  obtain ⟨rfl, h7f⟩ := h7
  have h7g : hasG μ7 xs ys C S Z B := hasG.keep h6g h7f (by omega) (by omega)
  have hf7 := (hf5.tr h6f).tr (h7f.wid (by omega) (by omega))
  obtain ⟨h10, hv⟩ := id h7g
  obtain ⟨hP, hC, hS, hZ, hB, tx, ty, hT⟩ := id h10
  refine VW.i2lw dX7_digest_131 ?_
  refine VW.ladd dX7_digest_132 ?_
  refine VW.lstore_n (lv' := [(0, _), (1, _), (3, _)]) dX7_digest_133 (by decide) rfl ?_
  refine VW.ldc2 (a := 31) dX7_digest_134 wd_498 ?_
  refine VW.lload_n dX7_digest_137 rfl ?_
  refine VW.lmul dX7_digest_138 ?_
  refine VW.aload_n dX7_digest_139 rfl ?_
  refine VW.pV0 cv_X7_digest_X7_straightness dX7_digest_140 (Nat.le_of_ble_eq_true rfl) (gLt hg) hg.2.1 (g_straightness hst hg h7g ok) ?_
  refine VW.i2lw dX7_digest_143 ?_
  refine VW.ladd dX7_digest_144 ?_
  refine VW.lstore_n (lv' := [(0, _), (1, _), (3, _)]) dX7_digest_145 (by decide) rfl ?_
  refine VW.ldc2 (a := 31) dX7_digest_146 wd_498 ?_
  refine VW.lload_n dX7_digest_149 rfl ?_
  refine VW.lmul dX7_digest_150 ?_
  refine VW.aload_n dX7_digest_151 rfl ?_
  refine VW.uV0 cv_X7_digest_X7_doubt dX7_digest_152 (Nat.le_of_ble_eq_true rfl) (gLt hg) hg.2.1 (g_doubt hst hg h7g ok) ?_
  refine VW.qS1 cs_X7_digest_X7_doubleBits dX7_digest_155 (Nat.le_of_ble_eq_true rfl) (s_db0 hst (dsts_b ok3 ok4 (by omega) ok8 ok6)) ?_
  refine VW.ladd dX7_digest_158 ?_
  refine VW.lstore_n (lv' := [(0, _), (1, _), (3, _)]) dX7_digest_159 (by decide) rfl ?_
  refine VW.ldc2 (a := 31) dX7_digest_160 wd_498 ?_
  refine VW.lload_n dX7_digest_163 rfl ?_
  refine VW.lmul dX7_digest_164 ?_
  refine VW.aload_n dX7_digest_165 rfl ?_
  refine VW.getR dX7_digest_166 fa_X7_28 (gLt hg) hg.2.1 rfl ?_
  refine VW.pV0 cv_X7_digest_X4_held dX7_digest_169 (Nat.le_of_ble_eq_true rfl) (gBu hg).1 (gBu hg).2.1 (r_held hst (gBu hg) hB) ?_
  refine VW.i2lw dX7_digest_172 ?_
  refine VW.ladd dX7_digest_173 ?_
  refine VW.lstore_n (lv' := [(0, _), (1, _), (3, _)]) dX7_digest_174 (by decide) rfl ?_
  refine VW.iconst dX7_digest_175 ?_
  refine VW.istore_n (lv' := [(0, _), (1, _), (3, _)]) dX7_digest_176 (by decide) rfl ?_
  refine lp_dg4 hst hg ok (h0 := 0) (H := dgst xs ys C S Z B) B.length 0 _ μ7 (by omega) (by omega) h7g hf7 rfl (fun μ8 h8 hf8 => ?_)
  refine VW.lload_n dX7_digest_210 rfl ?_
  refine VW.lreturn dX7_digest_211 rfl ?_
  exact fxP.ll ⟨rfl, h8, hf8⟩
end PDC
