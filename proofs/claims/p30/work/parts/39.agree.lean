/-! ===== agree: the class beside the law ===== -/
def hasL (μ : Mem) (xs ys : List Int) (C : List (List Int)) (S : List Int) (zl : Int) : Prop := μ 273 0 = (xs.length : Int) ∧ μ 273 1 = (C.length : Int) ∧ μ 273 2 = zl ∧ hasNS μ S ∧ arr μ 274 xs ∧ arr μ 275 ys ∧ hasCo μ C
def rl (n : Nat) (μ μ' : Mem) : Prop := ∀ i, 273 ≤ i → i < n → μ' i = μ i
theorem rl.rf {n : Nat} {μ : Mem} : rl n μ μ := fun _ _ _ => rfl
theorem rl.f {n : Nat} {μ μ' μ'' : Mem} (h : rl n μ μ') (f : frm μ' μ'' 0 273) : rl n μ μ'' := fun i h1 h2 => (f i (Or.inr h1)).trans (h i h1 h2)
theorem rl.l {n m : Nat} {μ μ' μ'' : Mem} (h : rl n μ μ') (f : lo m μ' μ'') (hm : n ≤ m) : rl n μ μ'' := fun i h1 h2 => (f.at (by omega)).trans (h i h1 h2)
theorem hasNS.eq {μ μ' : Mem} {S : List Int} (h : hasNS μ S) (e : μ' 273 = μ 273) : hasNS μ' S := by
  unfold hasNS
  rw [e]
  exact h
theorem hasCo.eq {μ μ' : Mem} {C : List (List Int)} (h : hasCo μ C) (e : μ' 276 = μ 276) : hasCo μ' C := by
  unfold hasCo
  rw [e]
  exact h
theorem hasL.rl {n : Nat} {μ μ' : Mem} {xs ys S : List Int} {C : List (List Int)} {zl : Int} (h : hasL μ xs ys C S zl) (f : rl n μ μ') (hn : 277 ≤ n) : hasL μ' xs ys C S zl := by
  have e3 := f 273 (by omega) (by omega)
  obtain ⟨h1, h2, h3, h4, h5, h6, h7⟩ := h
  exact ⟨by rw [e3]; exact h1, by rw [e3]; exact h2, by rw [e3]; exact h3, h4.eq e3, h5.same (f 274 (by omega) (by omega)), h6.same (f 275 (by omega) (by omega)), h7.eq (f 276 (by omega) (by omega))⟩
theorem isT.los {N N' d : Nat} {sh sh' : Nat → ShT} (h : isT N sh d) (f : los N sh sh') (hN : N ≤ N') : isT N' sh' d := by
  obtain ⟨⟨h1, h2⟩, h3, h4, h5⟩ := h
  exact ⟨⟨h1, by omega⟩, (f d (by omega)).trans h3, (f (d + 1) (by omega)).trans h4, (f (d + 2) (by omega)).trans h5⟩
def Inv (μ : Mem) (xs ys : List Int) (C : List (List Int)) (S : List Int) (Z : List St) : Prop := hasA μ (mk xs ys C S Z []) ∧ okA (mk xs ys C S Z []) ∧ hasL μ xs ys C S Z.length ∧ okC C ∧ PW S C
theorem ior_any {c m v : Int} (hc : 0 ≤ c ∧ c < 10) (hm : 0 ≤ m ∧ m < 2 ^ c.toNat) (hv : v = m ∨ v = m + 2 ^ c.toNat) : Int32.ofInt v ||| Int32.ofInt (2 ^ c.toNat) = Int32.ofInt (m + 2 ^ c.toNat) := by
  rcases hv with rfl | rfl
  · exact ior_bit hc hm
  · exact ior_bit2 hc hm
theorem msF_s (R : List Int) (n : Nat) (c m : Int) : msF R (n + 1) c m = msF R n (c + 1) (if rat R c ≠ -1 then m + 2 ^ c.toNat else m) := rfl
theorem rdF_s (S D : List Int) (C : List (List Int)) (n : Nat) (c r : Int) : rdF S D C (n + 1) c r = rdF S D C n (c + 1) (if 0 < D.length ∧ dstOf S D (C.getD c.toNat []) ≤ rat S 4 then c else r) := rfl
theorem sum_tk {L : List Int} {i : Int} (h : 0 ≤ i ∧ i.toNat < L.length) : (L.take (i + 1).toNat).sum = (L.take i.toNat).sum + rat L i := by
  rw [take_snoc L h]
  simp
section PAG
variable {G : GT} {l : Launch} {N : Nat} {sh : Nat → ShT} {μ μ' : Mem} {xs ys S D Ln : List Int} {C : List (List Int)} {d : Nat}
variable {Z : List St} {p k m : Nat} {Φ : RT → Prop} {c q : Int}
theorem lp_ag1 (hst : l.stackTraces = false) (hg : isG N sh) (hl : isL N sh) (ht : isT N sh d) (ok : okA (mk xs ys C S Z [])) (hR : hasR μ d (rnD xs ys, rnL xs ys)) (kk : ∀ μ3 : Mem, hasA μ3 (mk xs ys C S Z []) → frm μ μ3 0 273 → VW G l (some p) M_L_agree 94 [(0, .ref (gB G + 0)), (1, .ref (gB G + 273)), (2, .ref (gB G + 274)), (3, .ref (gB G + 275)), (4, .ref (gB G + 276)), (5, .ref (gB G + d)), (6, .ref (gB G + (d + 1))), (7, .ref (gB G + (d + 2))), (8, vI (rnL xs ys).sum), (9, vI ((rnD xs ys).length : Int))] [] (N, sh, μ3) k m Φ) : ∀ (n : Nat) (i : Int), 0 ≤ i → i + n = (rnD xs ys).length → ∀ μ2 : Mem, hasA μ2 (mk xs ys C S Z []) → frm μ μ2 0 273 → VW G l (some p) M_L_agree 37 [(0, .ref (gB G + 0)), (1, .ref (gB G + 273)), (2, .ref (gB G + 274)), (3, .ref (gB G + 275)), (4, .ref (gB G + 276)), (5, .ref (gB G + d)), (6, .ref (gB G + (d + 1))), (7, .ref (gB G + (d + 2))), (8, vI ((rnL xs ys).take i.toNat).sum), (9, vI i)] [] (N, sh, μ2) k m Φ := by
  obtain ⟨⟨⟨ok1, ok2, ok3, ok4⟩, ⟨ok5, ok6, ok7⟩, ok8⟩, ⟨ok9, ok10⟩, ok11, ok12⟩ := okA.un ok
  have hd1 := ht.1.1
  have hd2 := ht.1.2
  have rk := rn_ok ok3 ok4 (by omega : xs.length ≤ 41)
  obtain ⟨rk1, rk2, rk3, rk4, rk5⟩ := id rk
  intro n
  induction n with
  | zero =>
    intro i h1 h2 μ2 hA hf
    have q0 : μ2 (d + 2) (0 : Int).toNat = ((rnD xs ys).length : Int) := (congrFun (hf (d + 2) (by omega)) 0).trans hR.1
    refine VW.iload dL_agree_37 rfl ?_
    refine VW.aload dL_agree_39 rfl ?_
    refine VW.iconst dL_agree_41 ?_
    refine VW.iaload dL_agree_42 (by have := ht.1.2; omega) ht.2.2.2 (by omega) (by omega) (by decide) ?_
    rw [q0]
    refine VW.icmp_ge 94 ⟨by omega, by omega⟩ ⟨by omega, by omega⟩ dL_agree_43 (by decide) (fun c43 => ?_) (fun c43 => by omega)
    obtain rfl : i = ((rnD xs ys).length : Int) := by omega
    rw [List.take_of_length_le (by omega)]
    exact kk μ2 hA hf
  | succ n ih =>
    intro i h1 h2 μ2 hA hf
    have q0 : μ2 (d + 2) (0 : Int).toNat = ((rnD xs ys).length : Int) := (congrFun (hf (d + 2) (by omega)) 0).trans hR.1
    refine VW.iload dL_agree_37 rfl ?_
    refine VW.aload dL_agree_39 rfl ?_
    refine VW.iconst dL_agree_41 ?_
    refine VW.iaload dL_agree_42 (by have := ht.1.2; omega) ht.2.2.2 (by omega) (by omega) (by decide) ?_
    rw [q0]
    refine VW.icmp_ge 94 ⟨by omega, by omega⟩ ⟨by omega, by omega⟩ dL_agree_43 (by decide) (fun c43 => by omega) (fun c43 => ?_)
    have a1 : μ2 d i.toNat = rat (rnD xs ys) i := (congrFun (hf d (by omega)) _).trans (hR.2.2.1 i ⟨by omega, by show i < ((rnD xs ys).length : Int); omega⟩)
    have a2 : μ2 (d + 1) i.toNat = rat (rnL xs ys) i := (congrFun (hf (d + 1) (by omega)) _).trans (hR.2.2.2 i ⟨by omega, by show i < ((rnL xs ys).length : Int); omega⟩)
    refine VW.iload dL_agree_46 rfl ?_
    refine VW.aload dL_agree_48 rfl ?_
    refine VW.iload dL_agree_50 rfl ?_
    refine VW.iaload dL_agree_52 (by have := ht.1.2; omega) ht.2.2.1 (by omega) (by omega) (by decide) ?_
    rw [a2]
    refine VW.iadd dL_agree_53 ?_
    rw [← sum_tk (L := rnL xs ys) (i := i) ⟨by omega, by omega⟩]
    refine VW.istore (lv' := [(0, _), (1, _), (2, _), (3, _), (4, _), (5, _), (6, _), (7, _), (8, _), (9, _)]) dL_agree_54 (by decide) rfl ?_
    refine VW.aload_n dL_agree_56 rfl ?_
    refine VW.iload dL_agree_57 rfl ?_
    refine VW.iconst dL_agree_59 ?_
    refine VW.gLc (av := [vI i, vI 0]) cv_L_agree_X7_run dL_agree_60 rfl (Nat.le_of_ble_eq_true rfl) (gLt hg) hg.2.1 (g_run hst hg hA ok ⟨by omega, by omega⟩ (by decide)) ((if_neg (by omega)).trans ((if_neg (by omega)).trans rfl)) (fun μ5 h5 f5 => ?_)
    refine VW.aload dL_agree_63 rfl ?_
    refine VW.iload dL_agree_65 rfl ?_
    refine VW.iaload dL_agree_67 (by have := ht.1.2; omega) ht.2.1 (by omega) (by omega) (by decide) ?_
    rw [show μ5 d i.toNat = rat (rnD xs ys) i from (congrFun (f5 d (by omega)) _).trans a1]
    refine VW.icmp_neS 86 dL_agree_68 (by decide) ?_
    refine VW.aload_n dL_agree_71 rfl ?_
    refine VW.iload dL_agree_72 rfl ?_
    refine VW.iconst dL_agree_74 ?_
    refine VW.gLc (av := [vI i, vI 1]) cv_L_agree_X7_run dL_agree_75 rfl (Nat.le_of_ble_eq_true rfl) (gLt hg) hg.2.1 (g_run hst hg h5 ok ⟨by omega, by omega⟩ (by decide)) ((if_neg (by omega)).trans ((if_neg (by omega)).trans rfl)) (fun μ6 h6 f6 => ?_)
    refine VW.aload dL_agree_78 rfl ?_
    refine VW.iload dL_agree_80 rfl ?_
    refine VW.iaload dL_agree_82 (by have := ht.1.2; omega) ht.2.2.1 (by omega) (by omega) (by decide) ?_
    rw [show μ6 (d + 1) i.toNat = rat (rnL xs ys) i from (congrFun (f6 (d + 1) (by omega)) _).trans ((congrFun (f5 (d + 1) (by omega)) _).trans a2)]
    refine VW.icmp_eqS 88 dL_agree_83 (by decide) ?_
    refine VW.iinc (lv' := [(0, _), (1, _), (2, _), (3, _), (4, _), (5, _), (6, _), (7, _), (8, _), (9, _)]) dL_agree_88 rfl (by decide) rfl ?_
    refine VW.goto 37 dL_agree_91 (by decide) ?_
    refine VW.sub ?_ [0, 1, 2, 3, 4, 5, 6, 7, 8, 9] rfl
    exact ih (i + 1) (by omega) (by omega) μ6 h6 ((hf.tr f5).tr f6)
theorem lp_ag2 (hst : l.stackTraces = false) (hg : isG N sh) (hl : isL N sh) (ht : isT N sh d) (ok : okA (mk xs ys C S Z [])) (hR : hasR μ d (fgvOf xs ys S).1) (kk : ∀ μ3 : Mem, hasA μ3 (mk xs ys C S Z []) → frm μ μ3 0 273 → VW G l (some p) M_L_agree 162 [(0, .ref (gB G + 0)), (1, .ref (gB G + 273)), (2, .ref (gB G + 274)), (3, .ref (gB G + 275)), (4, .ref (gB G + 276)), (5, .ref (gB G + d)), (6, .ref (gB G + (d + 1))), (7, .ref (gB G + (d + 2))), (8, vI q), (9, vI ((stk xs ys S).length : Int))] [] (N, sh, μ3) k m Φ) : ∀ (n : Nat) (i : Int), 0 ≤ i → i + n = (stk xs ys S).length → ∀ μ2 : Mem, hasA μ2 (mk xs ys C S Z []) → frm μ μ2 0 273 → VW G l (some p) M_L_agree 131 [(0, .ref (gB G + 0)), (1, .ref (gB G + 273)), (2, .ref (gB G + 274)), (3, .ref (gB G + 275)), (4, .ref (gB G + 276)), (5, .ref (gB G + d)), (6, .ref (gB G + (d + 1))), (7, .ref (gB G + (d + 2))), (8, vI q), (9, vI i)] [] (N, sh, μ2) k m Φ := by
  obtain ⟨⟨⟨ok1, ok2, ok3, ok4⟩, ⟨ok5, ok6, ok7⟩, ok8⟩, ⟨ok9, ok10⟩, ok11, ok12⟩ := okA.un ok
  have hd1 := ht.1.1
  have hd2 := ht.1.2
  have rk := rn_ok ok3 ok4 (by omega : xs.length ≤ 41)
  obtain ⟨rk1, rk2, rk3, rk4, rk5⟩ := id rk
  have sk := stk_ok (S := S) ok3 ok4 (by omega : xs.length ≤ 41)
  intro n
  induction n with
  | zero =>
    intro i h1 h2 μ2 hA hf
    have q0 : μ2 (d + 2) (0 : Int).toNat = ((stk xs ys S).length : Int) := (congrFun (hf (d + 2) (by omega)) 0).trans hR.1
    refine VW.iload dL_agree_131 rfl ?_
    refine VW.aload dL_agree_133 rfl ?_
    refine VW.iconst dL_agree_135 ?_
    refine VW.iaload dL_agree_136 (by have := ht.1.2; omega) ht.2.2.2 (by omega) (by omega) (by decide) ?_
    rw [q0]
    refine VW.icmp_ge 162 ⟨by omega, by omega⟩ ⟨by omega, by omega⟩ dL_agree_137 (by decide) (fun c137 => ?_) (fun c137 => by omega)
    obtain rfl : i = ((stk xs ys S).length : Int) := by omega
    exact kk μ2 hA hf
  | succ n ih =>
    intro i h1 h2 μ2 hA hf
    have q0 : μ2 (d + 2) (0 : Int).toNat = ((stk xs ys S).length : Int) := (congrFun (hf (d + 2) (by omega)) 0).trans hR.1
    refine VW.iload dL_agree_131 rfl ?_
    refine VW.aload dL_agree_133 rfl ?_
    refine VW.iconst dL_agree_135 ?_
    refine VW.iaload dL_agree_136 (by have := ht.1.2; omega) ht.2.2.2 (by omega) (by omega) (by decide) ?_
    rw [q0]
    refine VW.icmp_ge 162 ⟨by omega, by omega⟩ ⟨by omega, by omega⟩ dL_agree_137 (by decide) (fun c137 => by omega) (fun c137 => ?_)
    have a1 : μ2 d i.toNat = rat (stk xs ys S) i := (congrFun (hf d (by omega)) _).trans (hR.2.2.1 i ⟨by omega, by show i < ((stk xs ys S).length : Int); omega⟩)
    refine VW.aload_n dL_agree_140 rfl ?_
    refine VW.iload dL_agree_141 rfl ?_
    refine VW.gLc (av := [vI i]) cv_L_agree_X7_stroke dL_agree_143 rfl (Nat.le_of_ble_eq_true rfl) (gLt hg) hg.2.1 (g_stroke hst hg hA ok ⟨by omega, by omega⟩) (if_neg (by omega)) (fun μ5 h5 f5 => ?_)
    refine VW.aload dL_agree_146 rfl ?_
    refine VW.iload dL_agree_148 rfl ?_
    refine VW.iaload dL_agree_150 (by have := ht.1.2; omega) ht.2.1 (by omega) (by omega) (by decide) ?_
    rw [show μ5 d i.toNat = rat (stk xs ys S) i from (congrFun (f5 d (by omega)) _).trans a1]
    refine VW.icmp_eqS 156 dL_agree_151 (by decide) ?_
    refine VW.iinc (lv' := [(0, _), (1, _), (2, _), (3, _), (4, _), (5, _), (6, _), (7, _), (8, _), (9, _)]) dL_agree_156 rfl (by decide) rfl ?_
    refine VW.goto 131 dL_agree_159 (by decide) ?_
    exact ih (i + 1) (by omega) (by omega) μ5 h5 (hf.tr f5)
theorem lp_ag4 (hst : l.stackTraces = false) (hg : isG N sh) (hl : isL N sh) (ht : isT N sh d) (ok : okA (mk xs ys C S Z [])) (hs : hasNS μ S) (hC : hasCo μ C) (h1n : μ 273 1 = (C.length : Int)) (okc : okC C) (hR : hasR μ d (fgvOf xs ys S).1) (hc : 0 ≤ c ∧ c < C.length) {m9 r9 f9 : Int} {k9 m9s : Nat} (hm9 : 0 ≤ m9 ∧ m9 < 2 ^ c.toNat) (kk : ∀ (N' : Nat) (sh' : Nat → ShT) (μ2 : Mem) (k m : Nat), p + k = N' → k ≤ k9 + 10 → m ≤ m9s + 90 → N ≤ N' → los N sh sh' → hasA μ2 (mk xs ys C S Z []) → rl N μ μ2 → VW G l (some p) M_L_agree 291 [(0, .ref (gB G + 0)), (1, .ref (gB G + 273)), (2, .ref (gB G + 274)), (3, .ref (gB G + 275)), (4, .ref (gB G + 276)), (5, .ref (gB G + d)), (6, .ref (gB G + (d + 1))), (7, .ref (gB G + (d + 2))), (8, vI q), (9, vI (if rat (rsts xs ys C S) c ≠ -1 then m9 + 2 ^ c.toNat else m9)), (10, vI r9), (11, vI c), (12, vI f9), (13, vI (((C.getD c.toNat []).length : Int) + 1))] [] (N', sh', μ2) k m Φ) : ∀ (n : Nat) (j mk9 : Int), 0 ≤ j → j + n = ((C.getD c.toNat []).length : Int) + 1 → ((mk9 = m9 ∧ ∀ i : Nat, (i : Int) < j → ¬ costF (rat S 3) (rat S 2) (stk xs ys S) (KL (C.getD c.toNat [])) i ≤ rat S 4) ∨ (mk9 = m9 + 2 ^ c.toNat ∧ ∃ i : Nat, i ≤ (C.getD c.toNat []).length ∧ costF (rat S 3) (rat S 2) (stk xs ys S) (KL (C.getD c.toNat [])) i ≤ rat S 4)) → ∀ (N' : Nat) (sh' : Nat → ShT) (μ2 : Mem) (k m : Nat), p + k = N' → k ≤ k9 + 1 + j.toNat → m ≤ m9s + 9 + 9 * j.toNat → N ≤ N' → los N sh sh' → hasA μ2 (mk xs ys C S Z []) → rl N μ μ2 → VW G l (some p) M_L_agree 240 [(0, .ref (gB G + 0)), (1, .ref (gB G + 273)), (2, .ref (gB G + 274)), (3, .ref (gB G + 275)), (4, .ref (gB G + 276)), (5, .ref (gB G + d)), (6, .ref (gB G + (d + 1))), (7, .ref (gB G + (d + 2))), (8, vI q), (9, vI mk9), (10, vI r9), (11, vI c), (12, vI f9), (13, vI j)] [] (N', sh', μ2) k m Φ := by
  obtain ⟨⟨⟨ok1, ok2, ok3, ok4⟩, ⟨ok5, ok6, ok7⟩, ok8⟩, ⟨ok9, ok10⟩, ok11, ok12⟩ := okA.un ok
  have hd1 := ht.1.1
  have hd2 := ht.1.2
  have rk := rn_ok ok3 ok4 (by omega : xs.length ≤ 41)
  obtain ⟨rk1, rk2, rk3, rk4, rk5⟩ := id rk
  have sk := stk_ok (S := S) ok3 ok4 (by omega : xs.length ≤ 41)
  intro n
  induction n with
  | zero =>
    intro j mk9 h1 h2 hi N' sh' μ2 k m hN hk hm hNN hsh hA hr
    have n7 := hl.1 276 (by decide)
    have hg2 := hg.los hsh hNN
    have hl2 := hl.los hsh hNN
    have ht2 := ht.los hsh hNN
    have e3 : μ2 273 = μ 273 := hr 273 (by omega) (by omega)
    have e6 : μ2 276 = μ 276 := hr 276 (by omega) (by omega)
    have q0 : μ2 (d + 2) (0 : Int).toNat = ((stk xs ys S).length : Int) := (congrFun (hr (d + 2) (by omega) (by omega)) 0).trans hR.1
    have aD : arr μ2 d (stk xs ys S) := (hR.2.2.1 : arr μ d (stk xs ys S)).same (hr d (by omega) (by omega))
    have hsl : (stk xs ys S).length = ((fgvOf xs ys S).1.1).length := rfl
    have zc := (hC.eq e6) c hc
    have l8 := okc.at hc
    obtain ⟨hw5, hw0, hw1, hw2, hw3, hw4⟩ := id ok8
    have h7 := okc.1
    refine VW.iload dL_agree_240 rfl ?_
    refine VW.aload dL_agree_242 rfl ?_
    refine VW.bipush dL_agree_244 rfl ?_
    refine VW.iload dL_agree_246 rfl ?_
    refine VW.imul dL_agree_248 ?_
    refine VW.iaload dL_agree_249 (hl2.1 276 (by decide)) hl2.2.2.2.2 (by omega) (by omega) (by decide) ?_
    rw [zc.1]
    refine VW.icmp_gt 291 ⟨by omega, by omega⟩ ⟨by omega, by omega⟩ dL_agree_250 (by decide) (fun c250 => ?_) (fun c250 => by omega)
    obtain rfl : j = ((C.getD c.toNat []).length : Int) + 1 := by omega
    have hfin : mk9 = (if rat (rsts xs ys C S) c ≠ -1 then m9 + 2 ^ c.toNat else m9) := by
      have rh := rst_hit S (stk xs ys S) (C.getD c.toNat [])
      rw [rsts_r xs ys S hc]
      rcases hi with ⟨hi1, hi2⟩ | ⟨hi1, i, hi2, hi3⟩
      · rw [if_neg (fun q9 => by obtain ⟨i, hi3, hi4⟩ := rh.mp q9; exact hi2 i (by omega) hi4)]
        exact hi1
      · rw [if_pos (rh.mpr ⟨i, hi2, hi3⟩)]
        exact hi1
    rw [hfin]
    exact kk N' sh' μ2 k m hN (by omega) (by omega) hNN hsh hA hr
  | succ n ih =>
    intro j mk9 h1 h2 hi N' sh' μ2 k m hN hk hm hNN hsh hA hr
    have n7 := hl.1 276 (by decide)
    have hg2 := hg.los hsh hNN
    have hl2 := hl.los hsh hNN
    have ht2 := ht.los hsh hNN
    have e3 : μ2 273 = μ 273 := hr 273 (by omega) (by omega)
    have e6 : μ2 276 = μ 276 := hr 276 (by omega) (by omega)
    have q0 : μ2 (d + 2) (0 : Int).toNat = ((stk xs ys S).length : Int) := (congrFun (hr (d + 2) (by omega) (by omega)) 0).trans hR.1
    have aD : arr μ2 d (stk xs ys S) := (hR.2.2.1 : arr μ d (stk xs ys S)).same (hr d (by omega) (by omega))
    have hsl : (stk xs ys S).length = ((fgvOf xs ys S).1.1).length := rfl
    have zc := (hC.eq e6) c hc
    have l8 := okc.at hc
    obtain ⟨hw5, hw0, hw1, hw2, hw3, hw4⟩ := id ok8
    have h7 := okc.1
    refine VW.iload dL_agree_240 rfl ?_
    refine VW.aload dL_agree_242 rfl ?_
    refine VW.bipush dL_agree_244 rfl ?_
    refine VW.iload dL_agree_246 rfl ?_
    refine VW.imul dL_agree_248 ?_
    refine VW.iaload dL_agree_249 (hl2.1 276 (by decide)) hl2.2.2.2.2 (by omega) (by omega) (by decide) ?_
    rw [zc.1]
    refine VW.icmp_gt 291 ⟨by omega, by omega⟩ ⟨by omega, by omega⟩ dL_agree_250 (by decide) (fun c250 => by omega) (fun c250 => ?_)
    refine VW.aload_n dL_agree_253 rfl ?_
    refine VW.aload dL_agree_254 rfl ?_
    refine VW.aload dL_agree_256 rfl ?_
    
    refine VW.iconst dL_agree_258 ?_
    refine VW.iaload dL_agree_259 (by omega) ht2.2.2.2 (by omega) (by omega) (by decide) ?_
    refine VW.aload dL_agree_260 rfl ?_
    rw [q0]
    refine VW.iload dL_agree_262 rfl ?_
    refine VW.iload dL_agree_264 rfl ?_
    refine VW.xS (av := [.ref (gB G + 273), .ref (gB G + d), vI ((stk xs ys S).length : Int), .ref (gB G + 276), vI c, vI (j)]) (n0 := p) cs_L_agree_L_distance dL_agree_266 rfl (Nat.le_of_ble_eq_true rfl) rfl (by omega) (l_distance (D := stk xs ys S) (a := d) (cap := 40) hst hl2 (hs.eq e3) ok8 (hC.eq e6) okc ⟨by omega, ht2.2.1, by omega⟩ aD sk.1 sk.2 (c := c) ⟨by omega, by omega⟩ (b := j) ⟨by omega, by omega⟩) (fun x3 c3 s3 sh3 μ3 hc3 hs3 hl3 h3 => ?_)
    obtain ⟨rfl, h3⟩ := h3
    have cb := costF_b (gap := rat S 3) (turn := rat S 2) (K := KL (C.getD c.toNat [])) ⟨by omega, by omega⟩ ⟨by omega, by omega⟩ (stk xs ys S) j.toNat
    have hl2 := hl2.los hl3 (by omega : N' ≤ N' + c3)
    have ht2 := ht2.los hl3 (by omega : N' ≤ N' + c3)
    have hg2 := hg2.los hl3 (by omega : N' ≤ N' + c3)
    refine VW.aload_n dL_agree_269 rfl ?_
    refine VW.bipush dL_agree_270 rfl ?_
    refine VW.iaload dL_agree_272 (hl2.1 273 (by decide)) hl2.2.1 (by omega) (by omega) (by decide) ?_
    rw [show μ3 273 (7 : Int).toNat = rat S 4 from (congrFun ((h3.at (by omega)).trans e3) _).trans hs.2.2.2.2]
    refine VW.icmp_gt 285 ⟨by omega, by omega⟩ ⟨by omega, by omega⟩ dL_agree_273 (by decide) (fun c273 => ?_) (fun c273 => ?_)
    · refine VW.iinc (lv' := [(0, _), (1, _), (2, _), (3, _), (4, _), (5, _), (6, _), (7, _), (8, _), (9, _), (10, _), (11, _), (12, _), (13, _)]) dL_agree_285 rfl (by decide) rfl ?_
      refine VW.goto 240 dL_agree_288 (by decide) ?_
      refine VW.sub ?_ [0, 1, 2, 3, 4, 5, 6, 7, 8, 9, 10, 11, 12, 13] rfl
      refine ih (j + 1) _ (by omega) (by omega) ?_ _ sh3 μ3 _ _ (by omega) (by omega) (by omega) (by omega) (hsh.tr hl3 hNN) (hA.lo h3 (by omega)) (hr.l h3 hNN)
      rcases hi with ⟨hi1, hi2⟩ | hi
      · refine Or.inl ⟨hi1, fun i hij => ?_⟩
        by_cases e : i = j.toNat
        · rw [e]; omega
        · exact hi2 i (by omega)
      · exact Or.inr hi
    · refine VW.iload dL_agree_276 rfl ?_
      refine VW.iconst dL_agree_278 ?_
      refine VW.iload dL_agree_279 rfl ?_
      refine VW.ishl (x := 2 ^ c.toNat) dL_agree_281 (ishl_bit ⟨by omega, by omega⟩) ?_
      refine VW.ior (x := m9 + 2 ^ c.toNat) dL_agree_282 (ior_any ⟨by omega, by omega⟩ hm9 (by rcases hi with hi | hi; { exact Or.inl hi.1 }; { exact Or.inr hi.1 })) ?_
      refine VW.istore (lv' := [(0, _), (1, _), (2, _), (3, _), (4, _), (5, _), (6, _), (7, _), (8, _), (9, _), (10, _), (11, _), (12, _), (13, _)]) dL_agree_283 (by decide) rfl ?_
      refine VW.iinc (lv' := [(0, _), (1, _), (2, _), (3, _), (4, _), (5, _), (6, _), (7, _), (8, _), (9, _), (10, _), (11, _), (12, _), (13, _)]) dL_agree_285 rfl (by decide) rfl ?_
      refine VW.goto 240 dL_agree_288 (by decide) ?_
      refine VW.sub ?_ [0, 1, 2, 3, 4, 5, 6, 7, 8, 9, 10, 11, 12, 13] rfl
      exact ih (j + 1) _ (by omega) (by omega) (Or.inr ⟨rfl, j.toNat, by omega, Int.not_lt.mp c273⟩) _ sh3 μ3 _ _ (by omega) (by omega) (by omega) (by omega) (hsh.tr hl3 hNN) (hA.lo h3 (by omega)) (hr.l h3 hNN)
theorem lp_ag3 (hst : l.stackTraces = false) (hg : isG N sh) (hl : isL N sh) (ht : isT N sh d) (ok : okA (mk xs ys C S Z [])) (hs : hasNS μ S) (hC : hasCo μ C) (h1n : μ 273 1 = (C.length : Int)) (okc : okC C) (hR : hasR μ d (fgvOf xs ys S).1) {k8 m8 : Nat} (kk : ∀ (N' : Nat) (sh' : Nat → ShT) (μ2 : Mem) (k m : Nat), p + k = N' → k ≤ k8 + 70 → m ≤ m8 + 630 → N ≤ N' → los N sh sh' → hasA μ2 (mk xs ys C S Z []) → rl N μ μ2 → VW G l (some p) M_L_agree 297 [(0, .ref (gB G + 0)), (1, .ref (gB G + 273)), (2, .ref (gB G + 274)), (3, .ref (gB G + 275)), (4, .ref (gB G + 276)), (5, .ref (gB G + d)), (6, .ref (gB G + (d + 1))), (7, .ref (gB G + (d + 2))), (8, vI q), (9, vI (maskOf (rsts xs ys C S))), (10, vI (rdF S (stk xs ys S) C C.length 0 (-1))), (11, vI (C.length : Int))] [] (N', sh', μ2) k m Φ) : ∀ (n : Nat) (c m9 r9 : Int), 0 ≤ c → c + n = C.length → (0 ≤ m9 ∧ m9 < 2 ^ c.toNat) → msF (rsts xs ys C S) n c m9 = maskOf (rsts xs ys C S) → rdF S (stk xs ys S) C n c r9 = rdF S (stk xs ys S) C C.length 0 (-1) → ∀ (N' : Nat) (sh' : Nat → ShT) (μ2 : Mem) (k m : Nat), p + k = N' → k ≤ k8 + 10 * c.toNat → m ≤ m8 + 90 * c.toNat → N ≤ N' → los N sh sh' → hasA μ2 (mk xs ys C S Z []) → rl N μ μ2 → VW G l (some p) M_L_agree 171 [(0, .ref (gB G + 0)), (1, .ref (gB G + 273)), (2, .ref (gB G + 274)), (3, .ref (gB G + 275)), (4, .ref (gB G + 276)), (5, .ref (gB G + d)), (6, .ref (gB G + (d + 1))), (7, .ref (gB G + (d + 2))), (8, vI q), (9, vI m9), (10, vI r9), (11, vI c)] [] (N', sh', μ2) k m Φ := by
  obtain ⟨⟨⟨ok1, ok2, ok3, ok4⟩, ⟨ok5, ok6, ok7⟩, ok8⟩, ⟨ok9, ok10⟩, ok11, ok12⟩ := okA.un ok
  have hd1 := ht.1.1
  have hd2 := ht.1.2
  have rk := rn_ok ok3 ok4 (by omega : xs.length ≤ 41)
  obtain ⟨rk1, rk2, rk3, rk4, rk5⟩ := id rk
  have sk := stk_ok (S := S) ok3 ok4 (by omega : xs.length ≤ 41)
  intro n
  induction n with
  | zero =>
    intro c m9 r9 h1 h2 hm9 hms hrd N' sh' μ2 k m hN hk hm hNN hsh hA hr
    have n7 := hl.1 276 (by decide)
    have hg2 := hg.los hsh hNN
    have hl2 := hl.los hsh hNN
    have ht2 := ht.los hsh hNN
    have e3 : μ2 273 = μ 273 := hr 273 (by omega) (by omega)
    have e6 : μ2 276 = μ 276 := hr 276 (by omega) (by omega)
    have q0 : μ2 (d + 2) (0 : Int).toNat = ((stk xs ys S).length : Int) := (congrFun (hr (d + 2) (by omega) (by omega)) 0).trans hR.1
    have aD : arr μ2 d (stk xs ys S) := (hR.2.2.1 : arr μ d (stk xs ys S)).same (hr d (by omega) (by omega))
    have hsl : (stk xs ys S).length = ((fgvOf xs ys S).1.1).length := rfl
    obtain ⟨hw5, hw0, hw1, hw2, hw3, hw4⟩ := id ok8
    have h7 := okc.1
    refine VW.iload dL_agree_171 rfl ?_
    refine VW.aload_n dL_agree_173 rfl ?_
    refine VW.iconst dL_agree_174 ?_
    refine VW.iaload dL_agree_175 (hl2.1 273 (by decide)) hl2.2.1 (by omega) (by omega) (by decide) ?_
    rw [e3, show μ 273 (1 : Int).toNat = (C.length : Int) from h1n]
    refine VW.icmp_ge 297 ⟨by omega, by omega⟩ ⟨by omega, by omega⟩ dL_agree_176 (by decide) (fun c176 => ?_) (fun c176 => by omega)
    obtain rfl : c = (C.length : Int) := by omega
    rw [show m9 = maskOf (rsts xs ys C S) from hms, show r9 = rdF S (stk xs ys S) C C.length 0 (-1) from hrd]
    exact kk N' sh' μ2 k m hN (by omega) (by omega) hNN hsh hA hr
  | succ n ih =>
    intro c m9 r9 h1 h2 hm9 hms hrd N' sh' μ2 k m hN hk hm hNN hsh hA hr
    have n7 := hl.1 276 (by decide)
    have hg2 := hg.los hsh hNN
    have hl2 := hl.los hsh hNN
    have ht2 := ht.los hsh hNN
    have e3 : μ2 273 = μ 273 := hr 273 (by omega) (by omega)
    have e6 : μ2 276 = μ 276 := hr 276 (by omega) (by omega)
    have q0 : μ2 (d + 2) (0 : Int).toNat = ((stk xs ys S).length : Int) := (congrFun (hr (d + 2) (by omega) (by omega)) 0).trans hR.1
    have aD : arr μ2 d (stk xs ys S) := (hR.2.2.1 : arr μ d (stk xs ys S)).same (hr d (by omega) (by omega))
    have hsl : (stk xs ys S).length = ((fgvOf xs ys S).1.1).length := rfl
    obtain ⟨hw5, hw0, hw1, hw2, hw3, hw4⟩ := id ok8
    have h7 := okc.1
    refine VW.iload dL_agree_171 rfl ?_
    refine VW.aload_n dL_agree_173 rfl ?_
    refine VW.iconst dL_agree_174 ?_
    refine VW.iaload dL_agree_175 (hl2.1 273 (by decide)) hl2.2.1 (by omega) (by omega) (by decide) ?_
    rw [e3, show μ 273 (1 : Int).toNat = (C.length : Int) from h1n]
    refine VW.icmp_ge 297 ⟨by omega, by omega⟩ ⟨by omega, by omega⟩ dL_agree_176 (by decide) (fun c176 => by omega) (fun c176 => ?_)
    have hc : 0 ≤ c ∧ c < C.length := ⟨by omega, by omega⟩
    have zc := (hC.eq e6) c hc
    have l8 := okc.at hc
    refine VW.aload_n dL_agree_179 rfl ?_
    refine VW.aload dL_agree_180 rfl ?_
    refine VW.aload dL_agree_182 rfl ?_
    refine VW.iconst dL_agree_184 ?_
    refine VW.iaload dL_agree_185 (by omega) ht2.2.2.2 (by omega) (by omega) (by decide) ?_
    rw [q0]
    refine VW.aload dL_agree_186 rfl ?_
    refine VW.iload dL_agree_188 rfl ?_
    refine VW.aload dL_agree_190 rfl ?_
    refine VW.bipush dL_agree_192 rfl ?_
    refine VW.iload dL_agree_194 rfl ?_
    refine VW.imul dL_agree_196 ?_
    refine VW.iaload dL_agree_197 (hl2.1 276 (by decide)) hl2.2.2.2.2 (by omega) (by omega) (by decide) ?_
    rw [zc.1]
    refine VW.xS (av := [.ref (gB G + 273), .ref (gB G + d), vI ((stk xs ys S).length : Int), .ref (gB G + 276), vI c, vI (((C.getD c.toNat []).length : Int))]) (n0 := p) cs_L_agree_L_distance dL_agree_198 rfl (Nat.le_of_ble_eq_true rfl) rfl (by omega) (l_distance (D := stk xs ys S) (a := d) (cap := 40) hst hl2 (hs.eq e3) ok8 (hC.eq e6) okc ⟨by omega, ht2.2.1, by omega⟩ aD sk.1 sk.2 (c := c) ⟨by omega, by omega⟩ (b := ((C.getD c.toNat []).length : Int)) ⟨by omega, Int.le_refl _⟩) (fun x3 c3 s3 sh3 μ3 hc3 hs3 hl3 h3 => ?_)
    obtain ⟨rfl, h3⟩ := h3
    rw [show costF (rat S 3) (rat S 2) (stk xs ys S) (KL (C.getD c.toNat [])) (((C.getD c.toNat []).length : Nat) : Int).toNat = dstOf S (stk xs ys S) (C.getD c.toNat []) from by rw [Int.toNat_natCast]; rfl]
    have hdb := dstOf_b ok8 (stk xs ys S) (C.getD c.toNat []) sk.1 l8.1.2
    have hl2 := hl2.los hl3 (by omega : N' ≤ N' + c3)
    have ht2 := ht2.los hl3 (by omega : N' ≤ N' + c3)
    have hg2 := hg2.los hl3 (by omega : N' ≤ N' + c3)
    refine VW.istore (lv' := [(0, _), (1, _), (2, _), (3, _), (4, _), (5, _), (6, _), (7, _), (8, _), (9, _), (10, _), (11, _), (12, _)]) dL_agree_201 (by decide) rfl ?_
    refine VW.aload_n dL_agree_203 rfl ?_
    refine VW.iload dL_agree_204 rfl ?_
    refine VW.iconst dL_agree_206 ?_
    refine VW.gLc (av := [vI c, vI (-1)]) cv_L_agree_X7_distance dL_agree_207 rfl (Nat.le_of_ble_eq_true rfl) (gLt hg2) hg2.2.1 (g_distance hst hg2 (hA.lo h3 (by omega)) ok ⟨by omega, by omega⟩ (by decide)) (show lkDistance xs ys C S c (-1) = (0, dstOf S (stk xs ys S) (C.getD c.toNat [])) from (if_neg (fun q9 => q9 ⟨hc, Or.inl rfl⟩)).trans rfl) (fun μ5 h5 f5 => ?_)
    refine VW.iload dL_agree_210 rfl ?_
    refine VW.icmp_eqS 217 dL_agree_212 (by decide) ?_
    refine VW.aload dL_agree_217 rfl ?_
    refine VW.iconst dL_agree_219 ?_
    refine VW.iaload dL_agree_220 (by omega) ht2.2.2.2 (by omega) (by omega) (by decide) ?_
    rw [show μ5 (d + 2) (0 : Int).toNat = ((stk xs ys S).length : Int) from (congrFun ((f5 (d + 2) (by omega)).trans (h3.at (by omega))) _).trans q0]
    refine VW.if_le 237 ⟨by omega, by omega⟩ dL_agree_221 (by decide) (fun c221 => ?_) (fun c221 => ?_)
    · refine VW.iconst dL_agree_237 ?_
      refine VW.istore (lv' := [(0, _), (1, _), (2, _), (3, _), (4, _), (5, _), (6, _), (7, _), (8, _), (9, _), (10, _), (11, _), (12, _), (13, _)]) dL_agree_238 (by decide) rfl ?_
      have er : rdF S (stk xs ys S) C (n + 1) c r9 = rdF S (stk xs ys S) C n (c + 1) r9 := by
        rw [rdF_s]
        rw [if_neg (by rintro ⟨w1, w2⟩; omega)]
      rw [er] at hrd
      refine lp_ag4 hst hg hl ht ok hs hC h1n okc hR hc hm9 (k9 := k8 + 10 * c.toNat) (m9s := m8 + 90 * c.toNat) (fun N3 sh4 μ4 k4 m4 g1 g2 g3 g4 g5 g6 g7 => ?_) ((C.getD c.toNat []).length + 1) 0 m9 (by omega) (by omega) (Or.inl ⟨rfl, fun i hi => by omega⟩) _ sh3 μ5 _ _ (by omega) (by omega) (by omega) (by omega) (hsh.tr hl3 hNN) h5 ((hr.l h3 hNN).f f5)
      refine VW.iinc (lv' := [(0, _), (1, _), (2, _), (3, _), (4, _), (5, _), (6, _), (7, _), (8, _), (9, _), (10, _), (11, _), (12, _), (13, _)]) dL_agree_291 rfl (by decide) rfl ?_
      refine VW.goto 171 dL_agree_294 (by decide) ?_
      refine VW.sub ?_ [0, 1, 2, 3, 4, 5, 6, 7, 8, 9, 10, 11] rfl
      refine ih (c + 1) _ _ (by omega) (by omega) ?_ (by rw [← hms]; rfl) hrd N3 sh4 μ4 k4 m4 g1 (by omega) (by omega) g4 g5 g6 g7
      have ps := pow_s (c := c) (by omega)
      have pp := pow_p c.toNat
      split <;> omega
    · refine VW.iload dL_agree_224 rfl ?_
      refine VW.aload_n dL_agree_226 rfl ?_
      refine VW.bipush dL_agree_227 rfl ?_
      refine VW.iaload dL_agree_229 (hl2.1 273 (by decide)) hl2.2.1 (by omega) (by omega) (by decide) ?_
      rw [show μ5 273 (7 : Int).toNat = rat S 4 from (congrFun ((f5 273 (by omega)).trans ((h3.at (by omega)).trans e3)) _).trans hs.2.2.2.2]
      refine VW.icmp_gt 237 ⟨by omega, by omega⟩ ⟨by omega, by omega⟩ dL_agree_230 (by decide) (fun c230 => ?_) (fun c230 => ?_)
      · refine VW.iconst dL_agree_237 ?_
        refine VW.istore (lv' := [(0, _), (1, _), (2, _), (3, _), (4, _), (5, _), (6, _), (7, _), (8, _), (9, _), (10, _), (11, _), (12, _), (13, _)]) dL_agree_238 (by decide) rfl ?_
        have er : rdF S (stk xs ys S) C (n + 1) c r9 = rdF S (stk xs ys S) C n (c + 1) r9 := by
          rw [rdF_s]
          rw [if_neg (by rintro ⟨w1, w2⟩; omega)]
        rw [er] at hrd
        refine lp_ag4 hst hg hl ht ok hs hC h1n okc hR hc hm9 (k9 := k8 + 10 * c.toNat) (m9s := m8 + 90 * c.toNat) (fun N3 sh4 μ4 k4 m4 g1 g2 g3 g4 g5 g6 g7 => ?_) ((C.getD c.toNat []).length + 1) 0 m9 (by omega) (by omega) (Or.inl ⟨rfl, fun i hi => by omega⟩) _ sh3 μ5 _ _ (by omega) (by omega) (by omega) (by omega) (hsh.tr hl3 hNN) h5 ((hr.l h3 hNN).f f5)
        refine VW.iinc (lv' := [(0, _), (1, _), (2, _), (3, _), (4, _), (5, _), (6, _), (7, _), (8, _), (9, _), (10, _), (11, _), (12, _), (13, _)]) dL_agree_291 rfl (by decide) rfl ?_
        refine VW.goto 171 dL_agree_294 (by decide) ?_
        refine VW.sub ?_ [0, 1, 2, 3, 4, 5, 6, 7, 8, 9, 10, 11] rfl
        refine ih (c + 1) _ _ (by omega) (by omega) ?_ (by rw [← hms]; rfl) hrd N3 sh4 μ4 k4 m4 g1 (by omega) (by omega) g4 g5 g6 g7
        have ps := pow_s (c := c) (by omega)
        have pp := pow_p c.toNat
        split <;> omega
      · refine VW.iload dL_agree_233 rfl ?_
        refine VW.istore (lv' := [(0, _), (1, _), (2, _), (3, _), (4, _), (5, _), (6, _), (7, _), (8, _), (9, _), (10, _), (11, _), (12, _)]) dL_agree_235 (by decide) rfl ?_
        refine VW.iconst dL_agree_237 ?_
        refine VW.istore (lv' := [(0, _), (1, _), (2, _), (3, _), (4, _), (5, _), (6, _), (7, _), (8, _), (9, _), (10, _), (11, _), (12, _), (13, _)]) dL_agree_238 (by decide) rfl ?_
        have er : rdF S (stk xs ys S) C (n + 1) c r9 = rdF S (stk xs ys S) C n (c + 1) c := by
          rw [rdF_s]
          rw [if_pos ⟨by omega, by omega⟩]
        rw [er] at hrd
        refine lp_ag4 hst hg hl ht ok hs hC h1n okc hR hc hm9 (k9 := k8 + 10 * c.toNat) (m9s := m8 + 90 * c.toNat) (fun N3 sh4 μ4 k4 m4 g1 g2 g3 g4 g5 g6 g7 => ?_) ((C.getD c.toNat []).length + 1) 0 m9 (by omega) (by omega) (Or.inl ⟨rfl, fun i hi => by omega⟩) _ sh3 μ5 _ _ (by omega) (by omega) (by omega) (by omega) (hsh.tr hl3 hNN) h5 ((hr.l h3 hNN).f f5)
        refine VW.iinc (lv' := [(0, _), (1, _), (2, _), (3, _), (4, _), (5, _), (6, _), (7, _), (8, _), (9, _), (10, _), (11, _), (12, _), (13, _)]) dL_agree_291 rfl (by decide) rfl ?_
        refine VW.goto 171 dL_agree_294 (by decide) ?_
        refine VW.sub ?_ [0, 1, 2, 3, 4, 5, 6, 7, 8, 9, 10, 11] rfl
        refine ih (c + 1) _ _ (by omega) (by omega) ?_ (by rw [← hms]; rfl) hrd N3 sh4 μ4 k4 m4 g1 (by omega) (by omega) g4 g5 g6 g7
        have ps := pow_s (c := c) (by omega)
        have pp := pow_p c.toNat
        split <;> omega
theorem ag_end (hst : l.stackTraces = false) {N' : Nat} {sh0 sh' : Nat → ShT} {μ2 : Mem} (hg2 : isG N' sh') (hl2 : isL N' sh') (ht2 : isT N' sh' d) (ok : okA (mk xs ys C S Z [])) (hok : okC C) (hpw : PW S C) (hA : hasA μ2 (mk xs ys C S Z [])) (hL : hasL μ2 xs ys C S Z.length) (hR : hasR μ2 d (fgvOf xs ys S).1) (hX : μ2 (d + 2) 1 = (fgvOf xs ys S).2) (hN : p + k = N') (hk : k ≤ 73) (hm : m ≤ 712) (hsh : los p sh0 sh') :
    VW G l (some p) M_L_agree 297 [(0, .ref (gB G + 0)), (1, .ref (gB G + 273)), (2, .ref (gB G + 274)), (3, .ref (gB G + 275)), (4, .ref (gB G + 276)), (5, .ref (gB G + d)), (6, .ref (gB G + (d + 1))), (7, .ref (gB G + (d + 2))), (8, vI q), (9, vI (maskOf (rsts xs ys C S))), (10, vI (rdF S (stk xs ys S) C C.length 0 (-1))), (11, vI (C.length : Int))] [] (N', sh', μ2) k m (xaP p sh0 140 1400 (fun x μ'' => x = 1 ∧ Inv μ'' xs ys C S Z)) := by
  obtain ⟨⟨⟨ok1, ok2, ok3, ok4⟩, ⟨ok5, ok6, ok7⟩, ok8⟩, ⟨ok9, ok10⟩, ok11, ok12⟩ := okA.un ok
  have hd1 := ht2.1.1
  have hd2 := ht2.1.2
  have h7 := hok.1
  have n7 := hl2.1 276 (by decide)
  rw [← read_law ok8 hpw]
  refine VW.aload_n dL_agree_297 rfl ?_
  refine VW.iconst dL_agree_298 ?_
  refine VW.gLc (av := [vI 0]) cv_L_agree_X7_count dL_agree_299 rfl (Nat.le_of_ble_eq_true rfl) (gLt hg2) hg2.2.1 (g_count hst hg2 hA ok (by decide)) ((if_neg (by omega)).trans rfl) (fun μ3 h3 f3 => ?_)
  have L3 := hL.rl (n := 277) (rl.rf.f f3) (Nat.le_refl _)
  refine VW.aload_n dL_agree_302 rfl ?_
  refine VW.iconst dL_agree_303 ?_
  refine VW.iaload dL_agree_304 (hl2.1 273 (by decide)) hl2.2.1 (by omega) (by omega) (by decide) ?_
  rw [show μ3 273 (0 : Int).toNat = (xs.length : Int) from L3.1]
  refine VW.icmp_neS 405 dL_agree_305 (by decide) ?_
  refine VW.aload_n dL_agree_308 rfl ?_
  refine VW.iconst dL_agree_309 ?_
  refine VW.gLc (av := [vI 2]) cv_L_agree_X7_count dL_agree_310 rfl (Nat.le_of_ble_eq_true rfl) (gLt hg2) hg2.2.1 (g_count hst hg2 h3 ok (by decide)) ((if_neg (by omega)).trans rfl) (fun μ4 h4 f4 => ?_)
  have L4 := L3.rl (n := 277) (rl.rf.f f4) (Nat.le_refl _)
  refine VW.aload dL_agree_313 rfl ?_
  refine VW.iconst dL_agree_315 ?_
  refine VW.iaload dL_agree_316 (by omega) ht2.2.2.2 (by omega) (by omega) (by decide) ?_
  rw [show μ4 (d + 2) (0 : Int).toNat = ((stk xs ys S).length : Int) from (congrFun ((f4 (d + 2) (by omega)).trans (f3 (d + 2) (by omega))) _).trans hR.1]
  refine VW.icmp_neS 405 dL_agree_317 (by decide) ?_
  refine VW.aload_n dL_agree_320 rfl ?_
  refine VW.iconst dL_agree_321 ?_
  refine VW.gLc (av := [vI 4]) cv_L_agree_X7_count dL_agree_322 rfl (Nat.le_of_ble_eq_true rfl) (gLt hg2) hg2.2.1 (g_count hst hg2 h4 ok (by decide)) ((if_neg (by omega)).trans rfl) (fun μ5 h5 f5 => ?_)
  have L5 := L4.rl (n := 277) (rl.rf.f f5) (Nat.le_refl _)
  refine VW.aload dL_agree_325 rfl ?_
  refine VW.iconst dL_agree_327 ?_
  refine VW.iaload dL_agree_328 (by omega) ht2.2.2.2 (by omega) (by omega) (by decide) ?_
  rw [show μ5 (d + 2) (1 : Int).toNat = (fgvOf xs ys S).2 from (congrFun (((f5 (d + 2) (by omega)).trans (f4 (d + 2) (by omega))).trans (f3 (d + 2) (by omega))) _).trans hX]
  refine VW.icmp_neS 405 dL_agree_329 (by decide) ?_
  refine VW.aload_n dL_agree_332 rfl ?_
  refine VW.iconst dL_agree_333 ?_
  refine VW.gLc (av := [vI 5]) cv_L_agree_X7_count dL_agree_334 rfl (Nat.le_of_ble_eq_true rfl) (gLt hg2) hg2.2.1 (g_count hst hg2 h5 ok (by decide)) ((if_neg (by omega)).trans rfl) (fun μ6 h6 f6 => ?_)
  have L6 := L5.rl (n := 277) (rl.rf.f f6) (Nat.le_refl _)
  refine VW.aload_n dL_agree_337 rfl ?_
  refine VW.iconst dL_agree_338 ?_
  refine VW.iaload dL_agree_339 (hl2.1 273 (by decide)) hl2.2.1 (by omega) (by omega) (by decide) ?_
  rw [show μ6 273 (1 : Int).toNat = (C.length : Int) from L6.2.1]
  refine VW.icmp_neS 405 dL_agree_340 (by decide) ?_
  refine VW.aload_n dL_agree_343 rfl ?_
  refine VW.bipush dL_agree_344 rfl ?_
  refine VW.gLc (av := [vI 7]) cv_L_agree_X7_count dL_agree_346 rfl (Nat.le_of_ble_eq_true rfl) (gLt hg2) hg2.2.1 (g_count hst hg2 h6 ok (by decide)) ((if_neg (by omega)).trans rfl) (fun μ7 h7 f7 => ?_)
  have L7 := L6.rl (n := 277) (rl.rf.f f7) (Nat.le_refl _)
  have h7A : hasA μ7 (mk xs ys C S Z []) := h7
  refine VW.aload_n dL_agree_349 rfl ?_
  refine VW.iconst dL_agree_350 ?_
  refine VW.iaload dL_agree_351 (hl2.1 273 (by decide)) hl2.2.1 (by omega) (by omega) (by decide) ?_
  rw [show μ7 273 (1 : Int).toNat = (C.length : Int) from L7.2.1]
  refine VW.iconst dL_agree_352 ?_
  refine VW.icmp_ge 360 ⟨by omega, by omega⟩ ⟨by omega, by omega⟩ dL_agree_353 (by decide) (fun c353 => ?_) (fun c353 => ?_)
  · refine VW.aload_n dL_agree_360 rfl ?_
    refine VW.aload dL_agree_361 rfl ?_
    refine VW.xS (av := [.ref (gB G + 273), .ref (gB G + 276)]) (n0 := p) cs_L_agree_L_pairs dL_agree_363 rfl (Nat.le_of_ble_eq_true rfl) rfl (by omega) (l_pairs hst hl2 L7.2.2.2.1 ok8 L7.2.2.2.2.2.2 L7.2.1 hok) (fun x9 c9 s9 sh9 μ9 hc9 hs9 hl9 hp9 => ?_)
    obtain ⟨rfl, hp9⟩ := hp9
    have h7A := hasA.lo h7A hp9 (by omega)
    have L7 := L7.rl (n := 277) (rl.rf.l hp9 (by omega)) (Nat.le_refl _)
    have hl2 := hl2.los hl9 (by omega : N' ≤ N' + c9)
    have ht2 := ht2.los hl9 (by omega : N' ≤ N' + c9)
    have hg2 := hg2.los hl9 (by omega : N' ≤ N' + c9)
    have hsh := hsh.tr hl9 (by omega)
    rw [show leastA C S = pairsF S C from by rw [least_pairs ok8 hok.b8, if_neg (by omega)]]
    refine VW.icmp_neS 405 dL_agree_366 (by decide) ?_
    refine VW.aload_n dL_agree_369 rfl ?_
    refine VW.bipush dL_agree_370 rfl ?_
    refine VW.gLc (av := [vI 8]) cv_L_agree_X7_count dL_agree_372 rfl (Nat.le_of_ble_eq_true rfl) (gLt hg2) hg2.2.1 (g_count hst hg2 h7A ok (by decide)) ((if_neg (by omega)).trans rfl) (fun μ8 h8 f8 => ?_)
    have L8 := L7.rl (n := 277) (rl.rf.f f8) (Nat.le_refl _)
    refine VW.aload_n dL_agree_375 rfl ?_
    refine VW.iconst dL_agree_376 ?_
    refine VW.iaload dL_agree_377 (hl2.1 273 (by decide)) hl2.2.1 (by omega) (by omega) (by decide) ?_
    rw [show μ8 273 (2 : Int).toNat = (Z.length : Int) from L8.2.2.1]
    refine VW.icmp_neS 405 dL_agree_378 (by decide) ?_
    refine VW.aload_n dL_agree_381 rfl ?_
    refine VW.iconst dL_agree_382 ?_
    refine VW.gLc (av := [vI 0]) cv_L_agree_X7_reading dL_agree_383 rfl (Nat.le_of_ble_eq_true rfl) (gLt hg2) hg2.2.1 (g_reading hst hg2 h8 ok (by decide)) ((if_neg (by omega)).trans rfl) (fun μ10 h10 f10 => ?_)
    have L10 := L8.rl (n := 277) (rl.rf.f f10) (Nat.le_refl _)
    refine VW.iload dL_agree_386 rfl ?_
    refine VW.icmp_neS 405 dL_agree_388 (by decide) ?_
    refine VW.aload_n dL_agree_391 rfl ?_
    refine VW.iconst dL_agree_392 ?_
    refine VW.gLc (av := [vI 3]) cv_L_agree_X7_reading dL_agree_393 rfl (Nat.le_of_ble_eq_true rfl) (gLt hg2) hg2.2.1 (g_reading hst hg2 h10 ok (by decide)) ((if_neg (by omega)).trans rfl) (fun μ11 h11 f11 => ?_)
    have L11 := L10.rl (n := 277) (rl.rf.f f11) (Nat.le_refl _)
    refine VW.iload dL_agree_396 rfl ?_
    refine VW.icmp_neS 405 dL_agree_398 (by decide) ?_
    refine VW.iconst dL_agree_401 ?_
    refine VW.goto 406 dL_agree_402 (by decide) ?_
    refine VW.ireturn dL_agree_406 rfl rfl ?_
    exact xaP.i (by omega) (by omega) (by omega) hsh ⟨rfl, h11, ok, L11, hok, hpw⟩
  · rw [show leastA C S = -1 from by rw [least_pairs ok8 hok.b8, if_pos (by omega)]]
    refine VW.iconst dL_agree_356 ?_
    refine VW.goto 366 dL_agree_357 (by decide) ?_
    refine VW.icmp_neS 405 dL_agree_366 (by decide) ?_
    refine VW.aload_n dL_agree_369 rfl ?_
    refine VW.bipush dL_agree_370 rfl ?_
    refine VW.gLc (av := [vI 8]) cv_L_agree_X7_count dL_agree_372 rfl (Nat.le_of_ble_eq_true rfl) (gLt hg2) hg2.2.1 (g_count hst hg2 h7A ok (by decide)) ((if_neg (by omega)).trans rfl) (fun μ8 h8 f8 => ?_)
    have L8 := L7.rl (n := 277) (rl.rf.f f8) (Nat.le_refl _)
    refine VW.aload_n dL_agree_375 rfl ?_
    refine VW.iconst dL_agree_376 ?_
    refine VW.iaload dL_agree_377 (hl2.1 273 (by decide)) hl2.2.1 (by omega) (by omega) (by decide) ?_
    rw [show μ8 273 (2 : Int).toNat = (Z.length : Int) from L8.2.2.1]
    refine VW.icmp_neS 405 dL_agree_378 (by decide) ?_
    refine VW.aload_n dL_agree_381 rfl ?_
    refine VW.iconst dL_agree_382 ?_
    refine VW.gLc (av := [vI 0]) cv_L_agree_X7_reading dL_agree_383 rfl (Nat.le_of_ble_eq_true rfl) (gLt hg2) hg2.2.1 (g_reading hst hg2 h8 ok (by decide)) ((if_neg (by omega)).trans rfl) (fun μ10 h10 f10 => ?_)
    have L10 := L8.rl (n := 277) (rl.rf.f f10) (Nat.le_refl _)
    refine VW.iload dL_agree_386 rfl ?_
    refine VW.icmp_neS 405 dL_agree_388 (by decide) ?_
    refine VW.aload_n dL_agree_391 rfl ?_
    refine VW.iconst dL_agree_392 ?_
    refine VW.gLc (av := [vI 3]) cv_L_agree_X7_reading dL_agree_393 rfl (Nat.le_of_ble_eq_true rfl) (gLt hg2) hg2.2.1 (g_reading hst hg2 h10 ok (by decide)) ((if_neg (by omega)).trans rfl) (fun μ11 h11 f11 => ?_)
    have L11 := L10.rl (n := 277) (rl.rf.f f11) (Nat.le_refl _)
    refine VW.iload dL_agree_396 rfl ?_
    refine VW.icmp_neS 405 dL_agree_398 (by decide) ?_
    refine VW.iconst dL_agree_401 ?_
    refine VW.goto 406 dL_agree_402 (by decide) ?_
    refine VW.ireturn dL_agree_406 rfl rfl ?_
    exact xaP.i (by omega) (by omega) (by omega) hsh ⟨rfl, h11, ok, L11, hok, hpw⟩
theorem l_agree (hst : l.stackTraces = false) (hg : isG p sh) (hl : isL p sh) (hI : Inv μ xs ys C S Z) : Xa G l p sh M_L_agree [.ref (gB G + 0), .ref (gB G + 273), .ref (gB G + 274), .ref (gB G + 275), .ref (gB G + 276)] μ 140 1400 (fun x μ'' => x = 1 ∧ Inv μ'' xs ys C S Z) := by
  refine Xa.of hst rfl (by decide +kernel) (Nat.le_of_ble_eq_true rfl) rfl ?_
  obtain ⟨hA, ok, hL, hok, hpw⟩ := hI
  obtain ⟨⟨⟨ok1, ok2, ok3, ok4⟩, ⟨ok5, ok6, ok7⟩, ok8⟩, ⟨ok9, ok10⟩, ok11, ok12⟩ := okA.un ok
  have n7 := hl.1 276 (by decide)
  have h7 := hok.1
  refine VW.bipush dL_agree_0 rfl ?_
  refine VW.newI (n0 := p) dL_agree_2 wd_62 rfl (by omega) ⟨by omega, by omega⟩ ?_
  refine VW.nme (N' := p + 1) (k' := 1) (n' := 40) (by omega) (by omega) (by omega) (fun s1 m1 hs1 hm1 => ?_)
  refine VW.astore (lv' := [(0, _), (1, _), (2, _), (3, _), (4, _), (5, _)]) dL_agree_4 (by decide) rfl ?_
  refine VW.bipush dL_agree_6 rfl ?_
  refine VW.newI (n0 := p) dL_agree_8 wd_62 rfl (by omega) ⟨by omega, by omega⟩ ?_
  refine VW.nme (N' := p + 2) (k' := 2) (n' := 80) (by omega) (by omega) (by omega) (fun s2 m2 hs2 hm2 => ?_)
  refine VW.astore (lv' := [(0, _), (1, _), (2, _), (3, _), (4, _), (5, _), (6, _)]) dL_agree_10 (by decide) rfl ?_
  refine VW.iconst dL_agree_12 ?_
  refine VW.newI (n0 := p) dL_agree_13 wd_62 rfl (by omega) ⟨by omega, by omega⟩ ?_
  refine VW.nme (N' := p + 3) (k' := 3) (n' := 82) (by omega) (by omega) (by omega) (fun s3 m3 hs3 hm3 => ?_)
  have e3 : los p sh s3 := by rw [hs3, hs2, hs1]; exact ((los.up (Nat.le_refl p)).tr (los.up (Nat.le_succ p)) (Nat.le_refl p)).tr (los.up (by omega)) (Nat.le_refl p)
  have g3 : lo p μ m3 := by rw [hm3, hm2, hm1]; exact ((lo.up (Nat.le_refl p)).tr (lo.up (Nat.le_succ p)) (Nat.le_refl p)).tr (lo.up (by omega)) (Nat.le_refl p)
  have hg3 := hg.los e3 (by omega : p ≤ p + 3)
  have hl3 := hl.los e3 (by omega : p ≤ p + 3)
  have ht3 : isT (p + 3) s3 p := ⟨⟨by omega, by omega⟩, by rw [hs3, fup_n (by omega), hs2, fup_n (by omega), hs1, fup_s]; rfl, by rw [hs3, fup_n (by omega), hs2, fup_s]; rfl, by rw [hs3, fup_s]; rfl⟩
  have hA3 := hA.lo g3 (by omega)
  have L3 := hL.rl (n := 277) (rl.rf.l g3 (by omega)) (Nat.le_refl _)
  clear hs1 hm1 hs2 hm2 hs3 hm3 s1 s2 m1 m2
  refine VW.astore (lv' := [(0, _), (1, _), (2, _), (3, _), (4, _), (5, _), (6, _), (7, _)]) dL_agree_15 (by decide) rfl ?_
  refine VW.aload_n dL_agree_17 rfl ?_
  refine VW.iconst dL_agree_18 ?_
  refine VW.iaload dL_agree_19 (hl3.1 273 (by decide)) hl3.2.1 (by omega) (by omega) (by decide) ?_
  rw [show m3 273 (0 : Int).toNat = (xs.length : Int) from L3.1]
  refine VW.aload_n dL_agree_20 rfl ?_
  refine VW.aload_n dL_agree_21 rfl ?_
  refine VW.aload dL_agree_22 rfl ?_
  refine VW.aload dL_agree_24 rfl ?_
  refine VW.aload dL_agree_26 rfl ?_
  refine VW.zvS (av := [vI (xs.length : Int), .ref (gB G + 274), .ref (gB G + 275), .ref (gB G + p), .ref (gB G + (p + 1)), .ref (gB G + (p + 2))]) cs_L_agree_L_runs dL_agree_28 rfl (Nat.le_of_ble_eq_true rfl) (l_runs (d := p) hst hl3 ht3 L3.2.2.2.2.1 L3.2.2.2.2.2.1 ⟨ok1, ok2⟩ ok3 ok4) (fun μ4 h4 => ?_)
  have hA4 := hA3.keep h4.2 (by omega)
  have L4 := L3.rl (n := 277) (fun i i1 i2 => h4.2 i (by omega)) (Nat.le_refl _)
  have okd := rn_ok ok3 ok4 (by omega : xs.length ≤ 41)
  refine VW.iconst dL_agree_31 ?_
  refine VW.istore (lv' := [(0, _), (1, _), (2, _), (3, _), (4, _), (5, _), (6, _), (7, _), (8, _)]) dL_agree_32 (by decide) rfl ?_
  refine VW.iconst dL_agree_34 ?_
  refine VW.istore (lv' := [(0, _), (1, _), (2, _), (3, _), (4, _), (5, _), (6, _), (7, _), (8, _), (9, _)]) dL_agree_35 (by decide) rfl ?_
  have key := fun kk => lp_ag1 (G := G) (l := l) (p := p) (k := 3) (m := 82) (d := p) (Φ := xaP p sh 140 1400 (fun x μ'' => x = 1 ∧ Inv μ'' xs ys C S Z)) hst hg3 hl3 ht3 ok h4.1 kk (rnD xs ys).length 0 (by omega) (by omega) μ4 hA4 frm.rf
  rw [show ((rnL xs ys).take (0 : Int).toNat).sum = 0 by simp] at key
  refine key (fun μ5 h5 f5 => ?_)
  refine VW.aload_n dL_agree_94 rfl ?_
  refine VW.iconst dL_agree_95 ?_
  refine VW.gLc (av := [vI 1]) cv_L_agree_X7_count dL_agree_96 rfl (Nat.le_of_ble_eq_true rfl) (gLt hg3) hg3.2.1 (g_count hst hg3 h5 ok (by decide)) ((if_neg (by omega)).trans rfl) (fun μ6 h6 f6 => ?_)
  refine VW.aload dL_agree_99 rfl ?_
  refine VW.iconst dL_agree_101 ?_
  refine VW.iaload dL_agree_102 (by omega) ht3.2.2.2 (by omega) (by omega) (by decide) ?_
  rw [show μ6 (p + 2) (0 : Int).toNat = ((rnD xs ys).length : Int) from (congrFun ((f6 (p + 2) (by omega)).trans (f5 (p + 2) (by omega))) _).trans h4.1.1]
  refine VW.icmp_neS 116 dL_agree_103 (by decide) ?_
  refine VW.aload_n dL_agree_106 rfl ?_
  refine VW.iconst dL_agree_107 ?_
  refine VW.gLc (av := [vI 3]) cv_L_agree_X7_count dL_agree_108 rfl (Nat.le_of_ble_eq_true rfl) (gLt hg3) hg3.2.1 (g_count hst hg3 h6 ok (by decide)) ((if_neg (by omega)).trans rfl) (fun μ7 h7A f7 => ?_)
  have f47 : frm μ4 μ7 0 273 := (f5.tr f6).tr f7
  have L7 := L4.rl (n := 277) (rl.rf.f f47) (Nat.le_refl _)
  have h7R : hasR μ7 p (rnD xs ys, rnL xs ys) := hasR.mk ((congrFun (f47 (p + 2) (by omega)) 0).trans h4.1.1) h4.1.2.1 (h4.1.2.2.1.same (f47 p (by omega))) (h4.1.2.2.2.same (f47 (p + 1) (by omega)))
  refine VW.iload dL_agree_111 rfl ?_
  refine VW.icmp_eqS 118 dL_agree_113 (by decide) ?_
  have hA7 : hasA μ7 (mk xs ys C S Z []) := h7A
  refine VW.aload_n dL_agree_118 rfl ?_
  refine VW.aload dL_agree_119 rfl ?_
  refine VW.aload dL_agree_121 rfl ?_
  refine VW.aload dL_agree_123 rfl ?_
  refine VW.zvS (av := [.ref (gB G + 273), .ref (gB G + p), .ref (gB G + (p + 1)), .ref (gB G + (p + 2))]) cs_L_agree_L_forgive dL_agree_125 rfl (Nat.le_of_ble_eq_true rfl) (l_forgive (d := p) hst hl3 ht3 L7.2.2.2.1 ok8 h7R okd) (fun μ8 h8 => ?_)
  obtain ⟨h8R, h8X, h8f⟩ := h8
  have h8A := hA7.keep h8f (by omega)
  have L8 := L7.rl (n := 277) (fun i i1 i2 => h8f i (by omega)) (Nat.le_refl _)
  refine VW.iconst dL_agree_128 ?_
  refine VW.istore (lv' := [(0, _), (1, _), (2, _), (3, _), (4, _), (5, _), (6, _), (7, _), (8, _), (9, _)]) dL_agree_129 (by decide) rfl ?_
  refine lp_ag2 (p := p) (k := 3) (m := 82) (d := p) hst hg3 hl3 ht3 ok h8R (fun μ9 h9 f9 => ?_) (stk xs ys S).length 0 (by omega) (by omega) μ8 h8A frm.rf
  have L9 := L8.rl (n := 277) (rl.rf.f f9) (Nat.le_refl _)
  have h9R : hasR μ9 p (fgvOf xs ys S).1 := hasR.mk ((congrFun (f9 (p + 2) (by omega)) 0).trans h8R.1) h8R.2.1 (h8R.2.2.1.same (f9 p (by omega))) (h8R.2.2.2.same (f9 (p + 1) (by omega)))
  have h9X : μ9 (p + 2) 1 = (fgvOf xs ys S).2 := (congrFun (f9 (p + 2) (by omega)) 1).trans h8X
  refine VW.iconst dL_agree_162 ?_
  refine VW.istore (lv' := [(0, _), (1, _), (2, _), (3, _), (4, _), (5, _), (6, _), (7, _), (8, _), (9, _)]) dL_agree_163 (by decide) rfl ?_
  refine VW.iconst dL_agree_165 ?_
  refine VW.istore (lv' := [(0, _), (1, _), (2, _), (3, _), (4, _), (5, _), (6, _), (7, _), (8, _), (9, _), (10, _)]) dL_agree_166 (by decide) rfl ?_
  refine VW.iconst dL_agree_168 ?_
  refine VW.istore (lv' := [(0, _), (1, _), (2, _), (3, _), (4, _), (5, _), (6, _), (7, _), (8, _), (9, _), (10, _), (11, _)]) dL_agree_169 (by decide) rfl ?_
  refine lp_ag3 (p := p) (d := p) (k8 := 3) (m8 := 82) hst hg3 hl3 ht3 ok L9.2.2.2.1 L9.2.2.2.2.2.2 L9.2.1 hok h9R (fun N' sh' μ2 k m hN hk hm hNN hsh hA2 hr => ?_) C.length 0 0 (-1) (by omega) (by omega) ⟨by omega, by decide⟩ (by unfold maskOf; rw [rsts_l]) rfl (p + 3) s3 μ9 3 82 (by omega) (by omega) (by omega) (Nat.le_refl _) los.rf h9 rl.rf
  have L2 := L9.rl (n := 277) (fun i i1 i2 => hr i i1 (by omega)) (Nat.le_refl _)
  exact ag_end (d := p) hst (hg3.los hsh hNN) (hl3.los hsh hNN) (ht3.los hsh hNN) ok hok hpw hA2 L2 (hasR.mk ((congrFun (hr (p + 2) (by omega) (by omega)) 0).trans h9R.1) h9R.2.1 (h9R.2.2.1.same (hr p (by omega) (by omega))) (h9R.2.2.2.same (hr (p + 1) (by omega) (by omega)))) ((congrFun (hr (p + 2) (by omega) (by omega)) 1).trans h9X) hN (by omega) (by omega) (e3.tr hsh (by omega))
end PAG
