/-! ===== constructors ===== -/
def low (a : Nat) (sh sh' : Nat → ShT) (μ μ' : Mem) : Prop := ∀ i, i < a → sh' i = sh i ∧ μ' i = μ i
def zer (μ : Mem) (a b : Nat) : Prop := ∀ i, a ≤ i → i < b → ∀ k, μ i k = 0
def agr (sh sh' : Nat → ShT) (a b : Nat) : Prop := ∀ i, a ≤ i → i < b → sh' i = sh i
def kxP (N c s : Nat) (Ψ : (Nat → ShT) → Mem → Prop) : RT → Prop := fun r => ∃ sh' μ', r = (.inl none, (N + c, sh', μ'), c, s) ∧ Ψ sh' μ'
def Kx (G : GT) (l : Launch) (M : MD) (av : List Value) (N : Nat) (sh : Nat → ShT) (μ : Mem) (c s : Nat) (Ψ : (Nat → ShT) → Mem → Prop) : Prop := ∃ r, Run G l true M av (N, sh, μ) r ∧ kxP N c s Ψ r
theorem Kx.of {G : GT} {l : Launch} (hst : l.stackTraces = false) {N : Nat} {sh : Nat → ShT} {M : MD} {av : List Value} {μ : Mem} {c s : Nat} {Ψ : (Nat → ShT) → Mem → Prop} {lv : List (Nat × Value)} (hh : mH M = []) (hp : plainName (mY M).cls = true) (hav : (lg_sl av).length ≤ mL M) (hlv : lv_args 0 av = lv)
    (h : VW G l (some N) M 0 lv [] (N, sh, μ) 0 0 (kxP N c s Ψ)) : Kx G l M av N sh μ c s Ψ := by
  obtain ⟨r, a, b⟩ := h
  exact ⟨r, Run.of hst (t := true) hh hp hav (fun q hq => by rw [hlv]; exact hq) b, a⟩
section PCT
variable {G : GT} {l : Launch} {N N' : Nat} {sh sh' : Nat → ShT} {μ μ' : Mem} {a cap p : Nat}
theorem VW.kI {z : Option Nat} {M M' : MD} {pc idx : Nat} {lv : List (Nat × Value)} {rest st av : List Value} {k n n0 b c s : Nat} {Φ : RT → Prop} {Ψ : (Nat → ShT) → Mem → Prop} (cf : CfI M M' idx av.length) (hd : decode (mC M) pc = .ok (.invokespecial idx, 3)) (hst : st = av.reverse ++ .ref (gB G + b) :: rest) (hrest : (rest.map fun v => v.category).sum ≤ 8) (hz : z = some n0) (hk : n0 + k = N)
    (h : Kx G l M' (.ref (gB G + b) :: av) N sh μ c s Ψ) (kk : ∀ sh' μ', Ψ sh' μ' → VW G l z M (pc + 3) lv rest (N + c, sh', μ') (k + c) (n + s) Φ) : VW G l z M pc lv st (N, sh, μ) k n Φ := by
  obtain ⟨r, hr, sh', μ', e, hΨ⟩ := h
  subst e
  exact VW.callI (t := true) cf hd hst hrest (fun _ => ⟨n0, hz, hk⟩) ⟨_, hr, none, rfl, kk sh' μ' hΨ⟩
theorem VW.nmd {z : Option Nat} {M : MD} {pc : Nat} {lv : List (Nat × Value)} {st : List Value} {k n N' k' n' : Nat} {Φ : RT → Prop} (hN : N = N') (hk : k = k') (hn : n = n') (h : ∀ sh' μ', sh' = sh → μ' = μ → VW G l z M pc lv st (N', sh', μ') k' n' Φ) : VW G l z M pc lv st (N, sh, μ) k n Φ := by
  subst hN
  subst hk
  subst hn
  exact h _ _ rfl rfl
theorem stepF {p q : Nat} {X0 X : ShT} {shA shB shC shD : Nat → ShT} {μA μB μC : Mem} (hpq : p < q) (hB : shB = fup shA q X0) (mB : μB = fup μA q (fun _ => 0)) (hC : low q shB shC μB μC) (hD : shD = fup shC p X) : (∀ i, i < q → i ≠ p → shD i = shA i) ∧ (∀ i, i < q → μC i = μA i) ∧ shD p = X ∧ ∀ i, q ≤ i → shD i = shC i := by
  subst hB
  subst mB
  subst hD
  refine ⟨fun i h1 h2 => ?_, fun i h1 => ?_, fup_s _ _ _, fun i h1 => fup_n (by omega)⟩
  · rw [fup_n h2, (hC i h1).1, fup_n (by omega)]
  · rw [(hC i h1).2, fup_n (by omega)]
theorem agr.sub {b a' b' : Nat} (h : agr sh sh' a b) (h1 : a ≤ a') (h2 : b' ≤ b) : agr sh sh' a' b' := fun i x y => h i (by omega) (by omega)
theorem isRow.agr (h : isRow N sh a cap) (g : agr sh sh' a (a + 2)) (hN : N ≤ N') : isRow N' sh' a cap := ⟨by have := h.1; omega, by rw [g a (by omega) (by omega)]; exact h.2.1, by have := h.2.2.1; omega, by rw [g (a + 1) (by omega) (by omega)]; exact h.2.2.2.1, h.2.2.2.2⟩
theorem isPath.agr (h : isPath N sh a) (g : agr sh sh' a (a + 5)) (hN : N ≤ N') : isPath N' sh' a := ⟨by have := h.1; omega, by rw [g a (by omega) (by omega)]; exact h.2.1, h.2.2.1.agr (g.sub (by omega) (by omega)) hN, h.2.2.2.agr (g.sub (by omega) (by omega)) hN⟩
theorem isMeter.agr (h : isMeter N sh a) (g : agr sh sh' a (a + 3)) (hN : N ≤ N') : isMeter N' sh' a := ⟨by have := h.1; omega, by rw [g a (by omega) (by omega)]; exact h.2.1, h.2.2.agr (g.sub (by omega) (by omega)) hN⟩
theorem isCmds.agr (h : isCmds N sh a) (g : agr sh sh' a (a + 24)) (hN : N ≤ N') : isCmds N' sh' a := ⟨by have := h.1; omega, by rw [g a (by omega) (by omega)]; exact h.2.1, by have := h.2.2.1; omega, by rw [g (a + 1) (by omega) (by omega)]; exact h.2.2.2.1, fun i hi => (h.2.2.2.2.1 i hi).agr (g.sub (by omega) (by omega)) hN, h.2.2.2.2.2.agr (g.sub (by omega) (by omega)) hN⟩
theorem isState.agr (h : isState N sh a) (g : agr sh sh' a (a + 32)) (hN : N ≤ N') : isState N' sh' a := ⟨by have := h.1; omega, by rw [g a (by omega) (by omega)]; exact h.2.1, h.2.2.1.agr (g.sub (by omega) (by omega)) hN, h.2.2.2.1.agr (g.sub (by omega) (by omega)) hN, h.2.2.2.2.agr (g.sub (by omega) (by omega)) hN⟩
theorem isHist.agr (h : isHist N sh a) (g : agr sh sh' a (a + 194)) (hN : N ≤ N') : isHist N' sh' a := ⟨by have := h.1; omega, by rw [g a (by omega) (by omega)]; exact h.2.1, by have := h.2.2.1; omega, by rw [g (a + 1) (by omega) (by omega)]; exact h.2.2.2.1, fun j hj => (h.2.2.2.2 j hj).agr (g.sub (by omega) (by omega)) hN⟩
theorem isView.agr (h : isView N sh a) (g : agr sh sh' a (a + 16)) (hN : N ≤ N') : isView N' sh' a := by
  obtain ⟨h1, h2, h3, h4, h5, h6, h7, h8, h9⟩ := h
  exact ⟨by omega, by rw [g a (by omega) (by omega)]; exact h2, h3.agr (g.sub (by omega) (by omega)) hN, h4.agr (g.sub (by omega) (by omega)) hN, h5.agr (g.sub (by omega) (by omega)) hN, h6.agr (g.sub (by omega) (by omega)) hN, h7.agr (g.sub (by omega) (by omega)) hN, h8.agr (g.sub (by omega) (by omega)) hN, h9.agr (g.sub (by omega) (by omega)) hN⟩
theorem isG.agr (h : isG N sh) (g : agr sh sh' 0 273) (hN : N ≤ N') : isG N' sh' := by
  obtain ⟨h1, h2, h3, h4, h5, h6, h7, h8, h9, h10, h11⟩ := h
  exact ⟨by omega, by rw [g 0 (by omega) (by omega)]; exact h2, h3.agr (g.sub (by omega) (by omega)) hN, h4.agr (g.sub (by omega) (by omega)) hN, h5.agr (g.sub (by omega) (by omega)) hN, h6.agr (g.sub (by omega) (by omega)) hN, h7.agr (g.sub (by omega) (by omega)) hN, h8.agr (g.sub (by omega) (by omega)) hN, h9.agr (g.sub (by omega) (by omega)) hN, h10.agr (g.sub (by omega) (by omega)) hN, h11.agr (g.sub (by omega) (by omega)) hN⟩
theorem zer.keep {b : Nat} (h : zer μ a b) (g : ∀ i, a ≤ i → i < b → μ' i = μ i) : zer μ' a b := fun i x y k => by rw [g i x y]; exact h i x y k
theorem zer.sub {b a' b' : Nat} (h : zer μ a b) (h1 : a ≤ a') (h2 : b' ≤ b) : zer μ a' b' := fun i x y => h i (by omega) (by omega)
theorem row_z (h : zer μ a (a + 1)) : hasRow μ a cap [] := by
  have e : μ a 1 = 0 := h a (by omega) (by omega) 1
  refine ⟨⟨by rw [e]; decide, by rw [e]; omega⟩, ?_⟩
  unfold rowOf
  rw [e]
  rfl
theorem wfC_z (h : zer μ a (a + 24)) : wfC μ a := ⟨fun i hi => (row_z (h.sub (by omega) (by omega))).1, (row_z (h.sub (by omega) (by omega))).1⟩
theorem hasC_z (h : zer μ a (a + 24)) : hasC μ a [] := ⟨wfC_z h, h a (by omega) (by omega) 2, by decide, fun i hi => absurd hi (by simp)⟩
theorem hasP_z (h : zer μ a (a + 5)) : hasP μ a [] [] := ⟨row_z (h.sub (by omega) (by omega)), row_z (h.sub (by omega) (by omega)), rfl, (by intro x hx; cases hx), (by intro x hx; cases hx)⟩
def idsF (n c st i : Nat) : List (Option Nat) := (List.range n).map (fun j => if j < i then some (c + st * j) else none)
theorem idsF_0 (n c st : Nat) : idsF n c st 0 = List.replicate n none := by
  unfold idsF
  apply List.ext_getElem?
  intro j
  by_cases h : j < n <;> simp [h]
theorem idsF_n (n c st : Nat) : idsF n c st n = (List.range n).map (fun j => some (c + st * j)) := by
  unfold idsF
  refine List.map_congr_left fun j hj => ?_
  rw [if_pos (List.mem_range.mp hj)]
theorem idsF_len (n c st i : Nat) : (idsF n c st i).length = n := by simp [idsF]
theorem idsF_set {n c st i : Nat} (h : i < n) : (idsF n c st i).set i (some (c + st * i)) = idsF n c st (i + 1) := by
  unfold idsF
  apply List.ext_getElem?
  intro j
  rw [List.getElem?_set]
  by_cases hj : i = j
  · subst hj
    simp [h]
  · by_cases hl : j < n
    · by_cases h2 : j < i
      · simp [hj, hl, h2, Nat.lt_succ_of_lt h2]
      · have h3 : ¬ j < i + 1 := by omega
        simp [hj, hl, h2, h3]
    · simp [hj, hl]
def S0 : List Int := [2, 2, 2, 3, 2]
theorem i_row (hst : l.stackTraces = false) (hs : sh a = sO 4 [fN, fI]) (hm : ∀ k, μ a k = 0) (hcap : cap ≤ 1000) : Kx G l M_X4_init [.ref (gB G + a), vI (cap : Int)] (a + 1) sh μ 1 cap (fun sh' μ' => low a sh sh' μ μ' ∧ isRow (a + 2) sh' a cap ∧ zer μ' a (a + 2)) := by
  refine Kx.of hst rfl (by decide +kernel) (Nat.le_of_ble_eq_true rfl) rfl ?_
  refine VW.aload_n dX4_init_0 rfl ?_
  refine VW.objInit dX4_init_1 wd_54 wd_35 wd_36 (by decide) (by decide) ?_
  refine VW.aload_n dX4_init_4 rfl ?_
  refine VW.iload_n dX4_init_5 rfl ?_
  refine VW.if_le 13 ⟨by omega, by omega⟩ dX4_init_6 (by decide) (fun c6 => ?_) (fun c6 => ?_)
  · refine VW.iconst dX4_init_13 ?_
    refine VW.newI (n0 := a + 1) dX4_init_14 wd_62 rfl (by omega) ⟨by omega, by omega⟩ ?_
    refine VW.putR dX4_init_16 rfl ff_X4_9 (fun _ => ⟨rfl, rfl⟩) (by omega) ((fup_n (by omega)).trans hs) (by decide) ?_
    refine VW.nmd (N' := a + 2) (k' := 1) (n' := cap) (by omega) (by omega) (by omega) (fun shD μD hD mD => ?_)
    refine VW.aload_n dX4_init_19 rfl ?_
    refine VW.iconst dX4_init_20 ?_
    refine VW.putI dX4_init_21 fp_X4_15 (by omega) (by rw [hD]; exact fup_s _ _ _) rfl ?_
    refine VW.vreturn dX4_init_24 rfl ?_
    refine ⟨shD, _, rfl, fun i hi => ⟨?_, ?_⟩, ⟨by omega, by rw [hD]; exact fup_s _ _ _, by omega, ?_, hcap⟩, fun i h1 h2 k => ?_⟩
    · rw [hD, fup_n (by omega), fup_n (by omega)]
    · rw [mup_n (by omega), mD, fup_n (by omega)]
    · rw [hD, fup_n (by omega), fup_s]
      exact congrArg sI (by omega)
    · rcases (by omega : i = a ∨ i = a + 1) with rfl | rfl
      · by_cases hk : k = 1
        · rw [hk]; exact mup_s _ _ _ _
        · rw [mup_k hk, mD, fup_n (by omega)]; exact hm k
      · rw [mup_n (by omega), mD, fup_s]
  · refine VW.iload_n dX4_init_9 rfl ?_
    refine VW.goto 14 dX4_init_10 (by decide) ?_
    refine VW.newI (n0 := a + 1) dX4_init_14 wd_62 rfl (by omega) ⟨by omega, by omega⟩ ?_
    refine VW.putR dX4_init_16 rfl ff_X4_9 (fun _ => ⟨rfl, rfl⟩) (by omega) ((fup_n (by omega)).trans hs) (by decide) ?_
    refine VW.nmd (N' := a + 2) (k' := 1) (n' := cap) (by omega) (by omega) (by omega) (fun shD μD hD mD => ?_)
    refine VW.aload_n dX4_init_19 rfl ?_
    refine VW.iconst dX4_init_20 ?_
    refine VW.putI dX4_init_21 fp_X4_15 (by omega) (by rw [hD]; exact fup_s _ _ _) rfl ?_
    refine VW.vreturn dX4_init_24 rfl ?_
    refine ⟨shD, _, rfl, fun i hi => ⟨?_, ?_⟩, ⟨by omega, by rw [hD]; exact fup_s _ _ _, by omega, ?_, hcap⟩, fun i h1 h2 k => ?_⟩
    · rw [hD, fup_n (by omega), fup_n (by omega)]
    · rw [mup_n (by omega), mD, fup_n (by omega)]
    · rw [hD, fup_n (by omega), fup_s]
      exact congrArg sI (by omega)
    · rcases (by omega : i = a ∨ i = a + 1) with rfl | rfl
      · by_cases hk : k = 1
        · rw [hk]; exact mup_s _ _ _ _
        · rw [mup_k hk, mD, fup_n (by omega)]; exact hm k
      · rw [mup_n (by omega), mD, fup_s]
theorem i_meter (hst : l.stackTraces = false) {p : Nat} (hs : sh p = sO 2 [fN]) (hm : ∀ k, μ p k = 0) : Kx G l M_X2_init [.ref (gB G + p)] (p + 1) sh μ 2 11 (fun sh' μ' => low p sh sh' μ μ' ∧ isMeter (p + 3) sh' p ∧ zer μ' p (p + 3)) := by
  refine Kx.of hst rfl (by decide +kernel) (Nat.le_of_ble_eq_true rfl) rfl ?_
  refine VW.aload_n dX2_init_0 rfl ?_
  refine VW.objInit dX2_init_1 wd_147 wd_35 wd_36 (by decide) (by decide) ?_
  refine VW.aload_n dX2_init_4 rfl ?_
  refine VW.new (n0 := p + 1) dX2_init_5 na_X2_9 rfl (by omega) ?_
  refine VW.nmd (N' := p + 2) (k' := 1) (n' := 2) (by omega) (by omega) (by omega) (fun shB1 μB1 hB1 mB1 => ?_)
  refine VW.dup dX2_init_8 rfl ?_
  refine VW.bipush dX2_init_9 rfl ?_
  refine VW.kI (b := p + 1) (av := [vI ((9 : Nat) : Int)]) (n0 := p + 1) ci_X2_init_X4_init dX2_init_11 rfl (Nat.le_of_ble_eq_true rfl) rfl (by omega) (i_row (cap := 9) hst (by rw [hB1]; exact fup_s _ _ _) (fun k => by rw [mB1, fup_s]) (by decide)) (fun shC1 μC1 hC1 => ?_)
  refine VW.putR dX2_init_14 rfl ff_X2_14 (fun _ => ⟨rfl, rfl⟩) (by omega) ((hC1.1 p (by omega)).1.trans ((congrFun hB1 p).trans ((fup_n (by omega)).trans hs))) (by simp) ?_
  refine VW.nmd (N' := p + 3) (k' := 2) (n' := 11) (by omega) (by omega) (by omega) (fun shD1 μD1 hD1 mD1 => ?_)
  subst mD1
  have S1 := stepF (by omega) hB1 mB1 hC1.1 hD1
  refine VW.vreturn dX2_init_17 rfl ?_
  refine ⟨shD1, μD1, rfl, fun i hi => ⟨(S1.1 i (by omega) (by omega)), (S1.2.1 i (by omega))⟩, ⟨by omega, S1.2.2.1, (hC1.2.1.agr (fun x h1 h2 => (S1.2.2.2 x (by omega))) (by omega))⟩, fun i h1 h2 k => ?_⟩
  rcases (by omega : i = p ∨ (p + 1 ≤ i ∧ i < p + 3)) with rfl | q
  · rw [(S1.2.1 i (by omega))]
    exact hm k
  · exact (hC1.2.2.keep (fun x h1 h2 => rfl)) i (by omega) (by omega) k
theorem i_path (hst : l.stackTraces = false) {p : Nat} (hs : sh p = sO 3 [fN, fN]) (hm : ∀ k, μ p k = 0) : Kx G l M_X3_init [.ref (gB G + p)] (p + 1) sh μ 4 86 (fun sh' μ' => low p sh sh' μ μ' ∧ isPath (p + 5) sh' p ∧ zer μ' p (p + 5)) := by
  refine Kx.of hst rfl (by decide +kernel) (Nat.le_of_ble_eq_true rfl) rfl ?_
  refine VW.aload_n dX3_init_0 rfl ?_
  refine VW.objInit dX3_init_1 wd_48 wd_35 wd_36 (by decide) (by decide) ?_
  refine VW.aload_n dX3_init_4 rfl ?_
  refine VW.new (n0 := p + 1) dX3_init_5 na_X3_9 rfl (by omega) ?_
  refine VW.nmd (N' := p + 2) (k' := 1) (n' := 2) (by omega) (by omega) (by omega) (fun shB1 μB1 hB1 mB1 => ?_)
  refine VW.dup dX3_init_8 rfl ?_
  refine VW.bipush dX3_init_9 rfl ?_
  refine VW.kI (b := p + 1) (av := [vI ((41 : Nat) : Int)]) (n0 := p + 1) ci_X3_init_X4_init dX3_init_11 rfl (Nat.le_of_ble_eq_true rfl) rfl (by omega) (i_row (cap := 41) hst (by rw [hB1]; exact fup_s _ _ _) (fun k => by rw [mB1, fup_s]) (by decide)) (fun shC1 μC1 hC1 => ?_)
  refine VW.putR dX3_init_14 rfl ff_X3_14 (fun _ => ⟨rfl, rfl⟩) (by omega) ((hC1.1 p (by omega)).1.trans ((congrFun hB1 p).trans ((fup_n (by omega)).trans hs))) (by simp) ?_
  refine VW.nmd (N' := p + 3) (k' := 2) (n' := 43) (by omega) (by omega) (by omega) (fun shD1 μD1 hD1 mD1 => ?_)
  subst mD1
  have S1 := stepF (by omega) hB1 mB1 hC1.1 hD1
  refine VW.aload_n dX3_init_17 rfl ?_
  refine VW.new (n0 := p + 1) dX3_init_18 na_X3_9 rfl (by omega) ?_
  refine VW.nmd (N' := p + 4) (k' := 3) (n' := 45) (by omega) (by omega) (by omega) (fun shB2 μB2 hB2 mB2 => ?_)
  refine VW.dup dX3_init_21 rfl ?_
  refine VW.bipush dX3_init_22 rfl ?_
  refine VW.kI (b := p + 3) (av := [vI ((41 : Nat) : Int)]) (n0 := p + 1) ci_X3_init_X4_init dX3_init_24 rfl (Nat.le_of_ble_eq_true rfl) rfl (by omega) (i_row (cap := 41) hst (by rw [hB2]; exact fup_s _ _ _) (fun k => by rw [mB2, fup_s]) (by decide)) (fun shC2 μC2 hC2 => ?_)
  refine VW.putR dX3_init_27 rfl ff_X3_20 (fun _ => ⟨rfl, rfl⟩) (by omega) ((hC2.1 p (by omega)).1.trans ((congrFun hB2 p).trans ((fup_n (by omega)).trans S1.2.2.1))) (by simp) ?_
  refine VW.nmd (N' := p + 5) (k' := 4) (n' := 86) (by omega) (by omega) (by omega) (fun shD2 μD2 hD2 mD2 => ?_)
  subst mD2
  have S2 := stepF (by omega) hB2 mB2 hC2.1 hD2
  refine VW.vreturn dX3_init_30 rfl ?_
  refine ⟨shD2, μD2, rfl, fun i hi => ⟨(S2.1 i (by omega) (by omega)).trans ((S1.1 i (by omega) (by omega))), (S2.2.1 i (by omega)).trans ((S1.2.1 i (by omega)))⟩, ⟨by omega, S2.2.2.1, (hC1.2.1.agr (fun x h1 h2 => (S2.1 x (by omega) (by omega)).trans ((S1.2.2.2 x (by omega)))) (by omega)), (hC2.2.1.agr (fun x h1 h2 => (S2.2.2.2 x (by omega))) (by omega))⟩, fun i h1 h2 k => ?_⟩
  rcases (by omega : i = p ∨ (p + 1 ≤ i ∧ i < p + 3) ∨ (p + 3 ≤ i ∧ i < p + 5)) with rfl | q | q
  · rw [(S2.2.1 i (by omega)).trans ((S1.2.1 i (by omega)))]
    exact hm k
  · exact (hC1.2.2.keep (fun x h1 h2 => (S2.2.1 x (by omega)))) i (by omega) (by omega) k
  · exact (hC2.2.2.keep (fun x h1 h2 => rfl)) i (by omega) (by omega) k
theorem hasRow.agm {L : List Int} (h : hasRow μ a cap L) (e : μ' a = μ a) (e2 : μ' (a + 1) = μ (a + 1)) : hasRow μ' a cap L := by
  unfold hasRow wfR rowOf at *
  rw [e, e2]
  exact h
theorem wfC.agm (h : wfC μ a) (g : ∀ x, a ≤ x → x < a + 24 → μ' x = μ x) : wfC μ' a := by
  unfold wfC wfR at *
  refine ⟨fun i hi => ?_, ?_⟩
  · rw [g _ (by omega) (by omega)]
    exact h.1 i hi
  · rw [g _ (by omega) (by omega)]
    exact h.2
theorem lp_X0 (hst : l.stackTraces = false) {p : Nat} {sh0 : Nat → ShT} {μ0 : Mem} {Φ : RT → Prop} (K : ∀ sh' μ', sh' p = sO 0 [fR (p + 1), fN, fI] → sh' (p + 1) = sQ true (idsF 10 (p + 2) 2 10) → (∀ j, j < 10 → isRow (p + 2 + 2 * 10) sh' (p + 2 + 2 * j) 8) → (∀ j, j < 10 → zer μ' (p + 2 + 2 * j) (p + 2 + 2 * j + 2)) → (∀ x, x < p → sh' x = sh0 x) → (∀ x, x < p + 1 → μ' x = μ0 x) → (∀ k, μ' (p + 1) k = 0) → VW G l (some (p + 1)) M_X0_init 45 [(0, .ref (gB G + p)), (1, vI ((10 : Nat) : Int))] [] (p + 22, sh', μ') 21 110 Φ) : ∀ (n i : Nat) (sh : Nat → ShT) (μ : Mem) (N k m : Nat), i + n = 10 → N = p + 2 + 2 * i → k = 1 + 2 * i → m = 10 + 10 * i → sh p = sO 0 [fR (p + 1), fN, fI] → sh (p + 1) = sQ true (idsF 10 (p + 2) 2 i) → (∀ j, j < i → isRow (p + 2 + 2 * i) sh (p + 2 + 2 * j) 8) → (∀ j, j < i → zer μ (p + 2 + 2 * j) (p + 2 + 2 * j + 2)) → (∀ x, x < p → sh x = sh0 x) → (∀ x, x < p + 1 → μ x = μ0 x) → (∀ k, μ (p + 1) k = 0) → VW G l (some (p + 1)) M_X0_init 15 [(0, .ref (gB G + p)), (1, vI (i : Int))] [] (N, sh, μ) k m Φ := by
  intro n
  induction n with
  | zero =>
    intro i sh μ N k m hi hN hk hm h1 h2 h3 h4 h5 h6 h7
    subst hN
    subst hk
    subst hm
    refine VW.iload_n dX0_init_15 rfl ?_
    refine VW.aload_n dX0_init_16 rfl ?_
    refine VW.getR dX0_init_17 fa_X0_11 (by omega) h1 rfl ?_
    refine VW.alenQ dX0_init_20 (by omega) h2 ?_
    rw [idsF_len]
    refine VW.icmp_ge 45 ⟨by omega, by omega⟩ ⟨by omega, by omega⟩ dX0_init_21 (by decide) (fun c21 => ?_) (fun c21 => by omega)
    obtain rfl : i = 10 := by omega
    exact K sh μ h1 h2 h3 h4 h5 h6 h7
  | succ n ih =>
    intro i sh μ N k m hi hN hk hm h1 h2 h3 h4 h5 h6 h7
    subst hN
    subst hk
    subst hm
    refine VW.iload_n dX0_init_15 rfl ?_
    refine VW.aload_n dX0_init_16 rfl ?_
    refine VW.getR dX0_init_17 fa_X0_11 (by omega) h1 rfl ?_
    refine VW.alenQ dX0_init_20 (by omega) h2 ?_
    rw [idsF_len]
    refine VW.icmp_ge 45 ⟨by omega, by omega⟩ ⟨by omega, by omega⟩ dX0_init_21 (by decide) (fun c21 => by omega) (fun c21 => ?_)
    refine VW.aload_n dX0_init_24 rfl ?_
    refine VW.getR dX0_init_25 fa_X0_11 (by omega) h1 rfl ?_
    refine VW.iload_n dX0_init_28 rfl ?_
    refine VW.new (n0 := p + 1) dX0_init_29 na_X0_9 rfl (by omega) ?_
    refine VW.nmd (N' := p + 2 + 2 * i + 1) (k' := 1 + 2 * i + 1) (n' := 10 + 10 * i + 2) (by omega) (by omega) (by omega) (fun shB μB hB mB => ?_)
    refine VW.dup dX0_init_32 rfl ?_
    refine VW.bipush dX0_init_33 rfl ?_
    refine VW.kI (b := p + 2 + 2 * i) (av := [vI ((8 : Nat) : Int)]) (n0 := p + 1) ci_X0_init_X4_init dX0_init_35 rfl (Nat.le_of_ble_eq_true rfl) rfl (by omega) (i_row (cap := 8) hst (by rw [hB]; exact fup_s _ _ _) (fun k => by rw [mB, fup_s]) (by decide)) (fun shC μC hC => ?_)
    refine VW.aastore (b := p + 2 + 2 * i) dX0_init_38 (by omega) ((hC.1 (p + 1) (by omega)).1.trans ((congrFun hB _).trans ((fup_n (by omega)).trans h2))) (by omega) hC.2.1.2.1 rfl (by omega) (by rw [idsF_len]; omega) (by rw [idsF_len]; omega) ?_
    refine VW.nmd (N' := p + 2 + 2 * (i + 1)) (k' := 1 + 2 * (i + 1)) (n' := 10 + 10 * (i + 1)) (by omega) (by omega) (by omega) (fun shD μD hD mD => ?_)
    subst mD
    refine VW.iinc (lv' := [(0, _), (1, _)]) dX0_init_39 rfl (by decide) rfl ?_
    refine VW.goto 15 dX0_init_42 (by decide) ?_
    have e1 : ∀ x, x < p + 2 + 2 * i → x ≠ p + 1 → shD x = sh x := fun x a1 a2 => by rw [hD, fup_n a2, (hC.1 x a1).1, hB, fup_n (by omega)]
    have e2 : ∀ x, x < p + 2 + 2 * i → μD x = μ x := fun x a1 => by rw [(hC.1 x a1).2, mB, fup_n (by omega)]
    refine ih (i + 1) shD μD _ _ _ (by omega) rfl rfl rfl ((e1 p (by omega) (by omega)).trans h1) ?_ (fun j hj => ?_) (fun j hj => ?_) (fun x hx => (e1 x (by omega) (by omega)).trans (h5 x hx)) (fun x hx => (e2 x (by omega)).trans (h6 x hx)) (fun k => by rw [e2 _ (by omega)]; exact h7 k)
    · rw [hD, fup_s, Int.toNat_natCast, idsF_set (by omega)]
    · by_cases hj2 : j < i
      · exact (h3 j hj2).agr (fun x a1 a2 => e1 x (by omega) (by omega)) (by omega)
      · obtain rfl : j = i := by omega
        exact hC.2.1.agr (fun x a1 a2 => by rw [hD, fup_n (by omega)]) (by omega)
    · by_cases hj2 : j < i
      · exact (h4 j hj2).keep (fun x a1 a2 => e2 x (by omega))
      · obtain rfl : j = i := by omega
        exact hC.2.2
theorem i_cmds (hst : l.stackTraces = false) {p : Nat} (hs : sh p = sO 0 [fN, fN, fI]) (hm : ∀ k, μ p k = 0) : Kx G l M_X0_init [.ref (gB G + p)] (p + 1) sh μ 23 112 (fun sh' μ' => low p sh sh' μ μ' ∧ isCmds (p + 24) sh' p ∧ zer μ' p (p + 24)) := by
  refine Kx.of hst rfl (by decide +kernel) (Nat.le_of_ble_eq_true rfl) rfl ?_
  refine VW.aload_n dX0_init_0 rfl ?_
  refine VW.objInit dX0_init_1 wd_75 wd_35 wd_36 (by decide) (by decide) ?_
  refine VW.aload_n dX0_init_4 rfl ?_
  refine VW.bipush dX0_init_5 rfl ?_
  refine VW.newQ (n0 := p + 1) (c0 := true) dX0_init_7 wd_76 rfl (by omega) ⟨by omega, by omega⟩ ?_
  refine VW.putR dX0_init_10 rfl ff_X0_11 (fun _ => ⟨rfl, rfl⟩) (by omega) ((fup_n (by omega)).trans hs) (by decide) ?_
  refine VW.nmd (N' := p + 2 + 2 * 0) (k' := 1 + 2 * 0) (n' := 10 + 10 * 0) (by omega) (by omega) (by omega) (fun shA μA hA mA => ?_)
  refine VW.iconst dX0_init_13 ?_
  refine VW.istore_n (lv' := [(0, _), (1, _)]) dX0_init_14 (by decide) rfl ?_
  refine lp_X0 hst (sh0 := sh) (μ0 := μ) (fun shE μE g1 g2 g3 g4 g5 g6 g7 => ?_) 10 0 shA μA _ _ _ (by omega) rfl rfl rfl (by rw [hA]; exact fup_s _ _ _) (by rw [hA, fup_n (by omega), fup_s, idsF_0]; rfl) (fun j hj => absurd hj (by omega)) (fun j hj => absurd hj (by omega)) (fun x hx => by rw [hA, fup_n (by omega), fup_n (by omega)]) (fun x hx => by rw [mA, fup_n (by omega)]) (fun k => by rw [mA, fup_s])
  refine VW.aload_n dX0_init_45 rfl ?_
  refine VW.new (n0 := p + 1) dX0_init_46 na_X0_9 rfl (by omega) ?_
  refine VW.nmd (N' := p + 23) (k' := 22) (n' := 112) (by omega) (by omega) (by omega) (fun shB μB hB mB => ?_)
  refine VW.dup dX0_init_49 rfl ?_
  refine VW.iconst dX0_init_50 ?_
  refine VW.kI (b := p + 22) (av := [vI ((0 : Nat) : Int)]) (n0 := p + 1) ci_X0_init_X4_init dX0_init_51 rfl (Nat.le_of_ble_eq_true rfl) rfl (by omega) (i_row (cap := 0) hst (by rw [hB]; exact fup_s _ _ _) (fun k => by rw [mB, fup_s]) (by decide)) (fun shC μC hC => ?_)
  refine VW.putR dX0_init_54 rfl ff_X0_20 (fun _ => ⟨rfl, rfl⟩) (by omega) ((hC.1 p (by omega)).1.trans ((congrFun hB p).trans ((fup_n (by omega)).trans g1))) (by simp) ?_
  refine VW.nmd (N' := p + 24) (k' := 23) (n' := 112) (by omega) (by omega) (by omega) (fun shD μD hD mD => ?_)
  subst mD
  have S := stepF (by omega) hB mB hC.1 hD
  refine VW.aload_n dX0_init_57 rfl ?_
  refine VW.iconst dX0_init_58 ?_
  refine VW.putI dX0_init_59 fp_X0_24 (by omega) S.2.2.1 rfl ?_
  refine VW.vreturn dX0_init_62 rfl ?_
  have eμ : ∀ x, x < p + 22 → μD x = μE x := fun x hx => S.2.1 x hx
  refine ⟨shD, _, rfl, fun i hi => ⟨(S.1 i (by omega) (by omega)).trans (g5 i hi), by rw [mup_n (by omega), eμ i (by omega)]; exact g6 i (by omega)⟩, ⟨by omega, S.2.2.1, by omega, ?_, fun j hj => (g3 j hj).agr (fun x a1 a2 => S.1 x (by omega) (by omega)) (by omega), hC.2.1.agr (fun x a1 a2 => S.2.2.2 x (by omega)) (by omega)⟩, fun i h1 h2 k => ?_⟩
  · rw [S.1 (p + 1) (by omega) (by omega), g2, idsF_n]
  · by_cases e0 : i = p
    · subst e0
      by_cases hk : k = 2
      · rw [hk]; exact mup_s _ _ _ _
      · rw [mup_k hk, eμ i (by omega), g6 i (by omega)]; exact hm k
    · rw [mup_n e0]
      by_cases e1 : i = p + 1
      · rw [e1, eμ _ (by omega)]; exact g7 k
      · by_cases e2 : i < p + 22
        · rw [eμ i e2]
          exact g4 ((i - (p + 2)) / 2) (by omega) i (by omega) (by omega) k
        · exact hC.2.2 i (by omega) (by omega) k
theorem i_state (hst : l.stackTraces = false) {p : Nat} (hs : sh p = sO 5 [fN, fN, fN]) (hm : ∀ k, μ p k = 0) : Kx G l M_X5_init [.ref (gB G + p)] (p + 1) sh μ 31 210 (fun sh' μ' => low p sh sh' μ μ' ∧ isState (p + 32) sh' p ∧ zer μ' p (p + 30) ∧ hasRow μ' (p + 30) 5 S0) := by
  refine Kx.of hst rfl (by decide +kernel) (Nat.le_of_ble_eq_true rfl) rfl ?_
  refine VW.aload_n dX5_init_0 rfl ?_
  refine VW.objInit dX5_init_1 wd_42 wd_35 wd_36 (by decide) (by decide) ?_
  refine VW.aload_n dX5_init_4 rfl ?_
  refine VW.new (n0 := p + 1) dX5_init_5 na_X5_9 rfl (by omega) ?_
  refine VW.nmd (N' := p + 2) (k' := 1) (n' := 2) (by omega) (by omega) (by omega) (fun shB1 μB1 hB1 mB1 => ?_)
  refine VW.dup dX5_init_8 rfl ?_
  refine VW.kI (b := p + 1) (av := []) (n0 := p + 1) ci_X5_init_X3_init dX5_init_9 rfl (Nat.le_of_ble_eq_true rfl) rfl (by omega) (i_path hst (by rw [hB1]; exact fup_s _ _ _) (fun k => by rw [mB1, fup_s])) (fun shC1 μC1 hC1 => ?_)
  refine VW.putR dX5_init_12 rfl ff_X5_12 (fun _ => ⟨rfl, rfl⟩) (by omega) ((hC1.1 p (by omega)).1.trans ((congrFun hB1 p).trans ((fup_n (by omega)).trans hs))) (by simp) ?_
  refine VW.nmd (N' := p + 6) (k' := 5) (n' := 88) (by omega) (by omega) (by omega) (fun shD1 μD1 hD1 mD1 => ?_)
  subst mD1
  have S1 := stepF (by omega) hB1 mB1 hC1.1 hD1
  refine VW.aload_n dX5_init_15 rfl ?_
  refine VW.new (n0 := p + 1) dX5_init_16 na_X5_18 rfl (by omega) ?_
  refine VW.nmd (N' := p + 7) (k' := 6) (n' := 91) (by omega) (by omega) (by omega) (fun shB2 μB2 hB2 mB2 => ?_)
  refine VW.dup dX5_init_19 rfl ?_
  refine VW.kI (b := p + 6) (av := []) (n0 := p + 1) ci_X5_init_X0_init dX5_init_20 rfl (Nat.le_of_ble_eq_true rfl) rfl (by omega) (i_cmds hst (by rw [hB2]; exact fup_s _ _ _) (fun k => by rw [mB2, fup_s])) (fun shC2 μC2 hC2 => ?_)
  refine VW.putR dX5_init_23 rfl ff_X5_21 (fun _ => ⟨rfl, rfl⟩) (by omega) ((hC2.1 p (by omega)).1.trans ((congrFun hB2 p).trans ((fup_n (by omega)).trans S1.2.2.1))) (by simp) ?_
  refine VW.nmd (N' := p + 30) (k' := 29) (n' := 203) (by omega) (by omega) (by omega) (fun shD2 μD2 hD2 mD2 => ?_)
  subst mD2
  have S2 := stepF (by omega) hB2 mB2 hC2.1 hD2
  refine VW.aload_n dX5_init_26 rfl ?_
  refine VW.new (n0 := p + 1) dX5_init_27 na_X5_25 rfl (by omega) ?_
  refine VW.nmd (N' := p + 31) (k' := 30) (n' := 205) (by omega) (by omega) (by omega) (fun shB3 μB3 hB3 mB3 => ?_)
  refine VW.dup dX5_init_30 rfl ?_
  refine VW.iconst dX5_init_31 ?_
  refine VW.kI (b := p + 30) (av := [vI ((5 : Nat) : Int)]) (n0 := p + 1) ci_X5_init_X4_init dX5_init_32 rfl (Nat.le_of_ble_eq_true rfl) rfl (by omega) (i_row (cap := 5) hst (by rw [hB3]; exact fup_s _ _ _) (fun k => by rw [mB3, fup_s]) (by decide)) (fun shC3 μC3 hC3 => ?_)
  refine VW.putR dX5_init_35 rfl ff_X5_30 (fun _ => ⟨rfl, rfl⟩) (by omega) ((hC3.1 p (by omega)).1.trans ((congrFun hB3 p).trans ((fup_n (by omega)).trans S2.2.2.1))) (by simp) ?_
  refine VW.nmd (N' := p + 32) (k' := 31) (n' := 210) (by omega) (by omega) (by omega) (fun shD3 μD3 hD3 mD3 => ?_)
  subst mD3
  have S3 := stepF (by omega) hB3 mB3 hC3.1 hD3
  have hrow : isRow (p + 32) shD3 (p + 30) 5 := hC3.2.1.agr (fun x h1 h2 => S3.2.2.2 x (by omega)) (by omega)
  have hr0 : hasRow μD3 (p + 30) 5 [] := row_z (hC3.2.2.sub (by omega) (by omega))
  refine VW.iconst dX5_init_38 ?_
  refine VW.istore_n (lv' := [(0, _), (1, _)]) dX5_init_39 (by decide) rfl ?_
  refine VW.iload_n dX5_init_40 rfl ?_
  refine VW.iconst dX5_init_41 ?_
  refine VW.icmp_ge 65 (by decide) (by decide) dX5_init_42 (by decide) (fun c42 => absurd c42 (by decide)) (fun _ => ?_)
  refine VW.aload_n dX5_init_45 rfl ?_
  refine VW.getR dX5_init_46 fa_X5_30 (by omega) S3.2.2.1 rfl ?_
  refine VW.gets dX5_init_49 ta_X5_34 ?_
  refine VW.iload_n dX5_init_52 rfl ?_
  refine VW.pN2 cn_X5_init_X7_of dX5_init_53 (Nat.le_of_ble_eq_true rfl) (s_X7_of hst (t := 0) (by decide) (by decide)) ?_
  refine VW.fvV1 cv_X5_init_X4_add dX5_init_56 (Nat.le_of_ble_eq_true rfl) hrow.1 hrow.2.1 (r_add hst hrow hr0 (by decide)) (fun μr1 hr1 => ?_)
  refine VW.iinc (lv' := [(0, _), (1, _)]) dX5_init_59 rfl (by decide) rfl ?_
  refine VW.goto 40 dX5_init_62 (by decide) ?_
  refine VW.iload_n dX5_init_40 rfl ?_
  refine VW.iconst dX5_init_41 ?_
  refine VW.icmp_ge 65 (by decide) (by decide) dX5_init_42 (by decide) (fun c42 => absurd c42 (by decide)) (fun _ => ?_)
  refine VW.aload_n dX5_init_45 rfl ?_
  refine VW.getR dX5_init_46 fa_X5_30 (by omega) S3.2.2.1 rfl ?_
  refine VW.gets dX5_init_49 ta_X5_34 ?_
  refine VW.iload_n dX5_init_52 rfl ?_
  refine VW.pN2 cn_X5_init_X7_of dX5_init_53 (Nat.le_of_ble_eq_true rfl) (s_X7_of hst (t := 0) (by decide) (by decide)) ?_
  refine VW.fvV1 cv_X5_init_X4_add dX5_init_56 (Nat.le_of_ble_eq_true rfl) hrow.1 hrow.2.1 (r_add hst hrow hr1.1 (by decide)) (fun μr2 hr2 => ?_)
  refine VW.iinc (lv' := [(0, _), (1, _)]) dX5_init_59 rfl (by decide) rfl ?_
  refine VW.goto 40 dX5_init_62 (by decide) ?_
  refine VW.iload_n dX5_init_40 rfl ?_
  refine VW.iconst dX5_init_41 ?_
  refine VW.icmp_ge 65 (by decide) (by decide) dX5_init_42 (by decide) (fun c42 => absurd c42 (by decide)) (fun _ => ?_)
  refine VW.aload_n dX5_init_45 rfl ?_
  refine VW.getR dX5_init_46 fa_X5_30 (by omega) S3.2.2.1 rfl ?_
  refine VW.gets dX5_init_49 ta_X5_34 ?_
  refine VW.iload_n dX5_init_52 rfl ?_
  refine VW.pN2 cn_X5_init_X7_of dX5_init_53 (Nat.le_of_ble_eq_true rfl) (s_X7_of hst (t := 0) (by decide) (by decide)) ?_
  refine VW.fvV1 cv_X5_init_X4_add dX5_init_56 (Nat.le_of_ble_eq_true rfl) hrow.1 hrow.2.1 (r_add hst hrow hr2.1 (by decide)) (fun μr3 hr3 => ?_)
  refine VW.iinc (lv' := [(0, _), (1, _)]) dX5_init_59 rfl (by decide) rfl ?_
  refine VW.goto 40 dX5_init_62 (by decide) ?_
  refine VW.iload_n dX5_init_40 rfl ?_
  refine VW.iconst dX5_init_41 ?_
  refine VW.icmp_ge 65 (by decide) (by decide) dX5_init_42 (by decide) (fun c42 => absurd c42 (by decide)) (fun _ => ?_)
  refine VW.aload_n dX5_init_45 rfl ?_
  refine VW.getR dX5_init_46 fa_X5_30 (by omega) S3.2.2.1 rfl ?_
  refine VW.gets dX5_init_49 ta_X5_34 ?_
  refine VW.iload_n dX5_init_52 rfl ?_
  refine VW.pN2 cn_X5_init_X7_of dX5_init_53 (Nat.le_of_ble_eq_true rfl) (s_X7_of hst (t := 0) (by decide) (by decide)) ?_
  refine VW.fvV1 cv_X5_init_X4_add dX5_init_56 (Nat.le_of_ble_eq_true rfl) hrow.1 hrow.2.1 (r_add hst hrow hr3.1 (by decide)) (fun μr4 hr4 => ?_)
  refine VW.iinc (lv' := [(0, _), (1, _)]) dX5_init_59 rfl (by decide) rfl ?_
  refine VW.goto 40 dX5_init_62 (by decide) ?_
  refine VW.iload_n dX5_init_40 rfl ?_
  refine VW.iconst dX5_init_41 ?_
  refine VW.icmp_ge 65 (by decide) (by decide) dX5_init_42 (by decide) (fun c42 => absurd c42 (by decide)) (fun _ => ?_)
  refine VW.aload_n dX5_init_45 rfl ?_
  refine VW.getR dX5_init_46 fa_X5_30 (by omega) S3.2.2.1 rfl ?_
  refine VW.gets dX5_init_49 ta_X5_34 ?_
  refine VW.iload_n dX5_init_52 rfl ?_
  refine VW.pN2 cn_X5_init_X7_of dX5_init_53 (Nat.le_of_ble_eq_true rfl) (s_X7_of hst (t := 0) (by decide) (by decide)) ?_
  refine VW.fvV1 cv_X5_init_X4_add dX5_init_56 (Nat.le_of_ble_eq_true rfl) hrow.1 hrow.2.1 (r_add hst hrow hr4.1 (by decide)) (fun μr5 hr5 => ?_)
  refine VW.iinc (lv' := [(0, _), (1, _)]) dX5_init_59 rfl (by decide) rfl ?_
  refine VW.goto 40 dX5_init_62 (by decide) ?_
  refine VW.iload_n dX5_init_40 rfl ?_
  refine VW.iconst dX5_init_41 ?_
  refine VW.icmp_ge 65 (by decide) (by decide) dX5_init_42 (by decide) (fun _ => ?_) (fun c42 => absurd c42 (by decide))
  refine VW.vreturn dX5_init_65 rfl ?_
  have hs5 : hasRow μr5 (p + 30) 5 S0 := hr5.1
  have em : ∀ x, x < p + 30 → μr5 x = μD3 x := fun x hx => (((((hr5.2 x (by omega)).trans (hr4.2 x (by omega))).trans (hr3.2 x (by omega))).trans (hr2.2 x (by omega))).trans (hr1.2 x (by omega)))
  refine ⟨shD3, μr5, rfl, fun i hi => ⟨(S3.1 i (by omega) (by omega)).trans ((S2.1 i (by omega) (by omega)).trans ((S1.1 i (by omega) (by omega)))), (em i (by omega)).trans ((S3.2.1 i (by omega)).trans ((S2.2.1 i (by omega)).trans ((S1.2.1 i (by omega)))))⟩, ⟨by omega, S3.2.2.1, (hC1.2.1.agr (fun x h1 h2 => (S3.1 x (by omega) (by omega)).trans ((S2.1 x (by omega) (by omega)).trans ((S1.2.2.2 x (by omega))))) (by omega)), (hC2.2.1.agr (fun x h1 h2 => (S3.1 x (by omega) (by omega)).trans ((S2.2.2.2 x (by omega)))) (by omega)), (hC3.2.1.agr (fun x h1 h2 => (S3.2.2.2 x (by omega))) (by omega))⟩, fun i h1 h2 k => ?_, hs5⟩
  rw [em i (by omega)]
  rcases (by omega : i = p ∨ (p + 1 ≤ i ∧ i < p + 6) ∨ (p + 6 ≤ i ∧ i < p + 30)) with rfl | q | q
  · rw [(S3.2.1 i (by omega)).trans ((S2.2.1 i (by omega)).trans ((S1.2.1 i (by omega))))]
    exact hm k
  · exact (hC1.2.2.keep (fun x h1 h2 => (S3.2.1 x (by omega)).trans ((S2.2.1 x (by omega))))) i (by omega) (by omega) k
  · exact (hC2.2.2.keep (fun x h1 h2 => (S3.2.1 x (by omega)))) i (by omega) (by omega) k
theorem lp_X1 (hst : l.stackTraces = false) {p : Nat} {sh0 : Nat → ShT} {μ0 : Mem} {Φ : RT → Prop} (K : ∀ sh' μ', sh' p = sO 1 [fR (p + 1), fI, fI] → sh' (p + 1) = sQ false (idsF 6 (p + 2) 32 6) → (∀ j, j < 6 → isState (p + 2 + 32 * 6) sh' (p + 2 + 32 * j)) → (∀ j, j < 6 → zer μ' (p + 2 + 32 * j) (p + 2 + 32 * j + 30)) → (∀ x, x < p → sh' x = sh0 x) → (∀ x, x < p + 1 → μ' x = μ0 x) → (∀ k, μ' (p + 1) k = 0) → VW G l (some (p + 1)) M_X1_init 43 [(0, .ref (gB G + p)), (1, vI ((6 : Nat) : Int))] [] (p + 194, sh', μ') 193 1284 Φ) : ∀ (n i : Nat) (sh : Nat → ShT) (μ : Mem) (N k m : Nat), i + n = 6 → N = p + 2 + 32 * i → k = 1 + 32 * i → m = 6 + 213 * i → sh p = sO 1 [fR (p + 1), fI, fI] → sh (p + 1) = sQ false (idsF 6 (p + 2) 32 i) → (∀ j, j < i → isState (p + 2 + 32 * i) sh (p + 2 + 32 * j)) → (∀ j, j < i → zer μ (p + 2 + 32 * j) (p + 2 + 32 * j + 30)) → (∀ x, x < p → sh x = sh0 x) → (∀ x, x < p + 1 → μ x = μ0 x) → (∀ k, μ (p + 1) k = 0) → VW G l (some (p + 1)) M_X1_init 15 [(0, .ref (gB G + p)), (1, vI (i : Int))] [] (N, sh, μ) k m Φ := by
  intro n
  induction n with
  | zero =>
    intro i sh μ N k m hi hN hk hm h1 h2 h3 h4 h5 h6 h7
    subst hN
    subst hk
    subst hm
    refine VW.iload_n dX1_init_15 rfl ?_
    refine VW.aload_n dX1_init_16 rfl ?_
    refine VW.getR dX1_init_17 fa_X1_11 (by omega) h1 rfl ?_
    refine VW.alenQ dX1_init_20 (by omega) h2 ?_
    rw [idsF_len]
    refine VW.icmp_ge 43 ⟨by omega, by omega⟩ ⟨by omega, by omega⟩ dX1_init_21 (by decide) (fun c21 => ?_) (fun c21 => by omega)
    obtain rfl : i = 6 := by omega
    exact K sh μ h1 h2 h3 h4 h5 h6 h7
  | succ n ih =>
    intro i sh μ N k m hi hN hk hm h1 h2 h3 h4 h5 h6 h7
    subst hN
    subst hk
    subst hm
    refine VW.iload_n dX1_init_15 rfl ?_
    refine VW.aload_n dX1_init_16 rfl ?_
    refine VW.getR dX1_init_17 fa_X1_11 (by omega) h1 rfl ?_
    refine VW.alenQ dX1_init_20 (by omega) h2 ?_
    rw [idsF_len]
    refine VW.icmp_ge 43 ⟨by omega, by omega⟩ ⟨by omega, by omega⟩ dX1_init_21 (by decide) (fun c21 => by omega) (fun c21 => ?_)
    refine VW.aload_n dX1_init_24 rfl ?_
    refine VW.getR dX1_init_25 fa_X1_11 (by omega) h1 rfl ?_
    refine VW.iload_n dX1_init_28 rfl ?_
    refine VW.new (n0 := p + 1) dX1_init_29 na_X1_9 rfl (by omega) ?_
    refine VW.nmd (N' := p + 2 + 32 * i + 1) (k' := 1 + 32 * i + 1) (n' := 6 + 213 * i + 3) (by omega) (by omega) (by omega) (fun shB μB hB mB => ?_)
    refine VW.dup dX1_init_32 rfl ?_
    refine VW.kI (b := p + 2 + 32 * i) (av := []) (n0 := p + 1) ci_X1_init_X5_init dX1_init_33 rfl (Nat.le_of_ble_eq_true rfl) rfl (by omega) (i_state hst (by rw [hB]; exact fup_s _ _ _) (fun k => by rw [mB, fup_s])) (fun shC μC hC => ?_)
    refine VW.aastore (b := p + 2 + 32 * i) dX1_init_36 (by omega) ((hC.1 (p + 1) (by omega)).1.trans ((congrFun hB _).trans ((fup_n (by omega)).trans h2))) (by omega) hC.2.1.2.1 rfl (by omega) (by rw [idsF_len]; omega) (by rw [idsF_len]; omega) ?_
    refine VW.nmd (N' := p + 2 + 32 * (i + 1)) (k' := 1 + 32 * (i + 1)) (n' := 6 + 213 * (i + 1)) (by omega) (by omega) (by omega) (fun shD μD hD mD => ?_)
    subst mD
    refine VW.iinc (lv' := [(0, _), (1, _)]) dX1_init_37 rfl (by decide) rfl ?_
    refine VW.goto 15 dX1_init_40 (by decide) ?_
    have e1 : ∀ x, x < p + 2 + 32 * i → x ≠ p + 1 → shD x = sh x := fun x a1 a2 => by rw [hD, fup_n a2, (hC.1 x a1).1, hB, fup_n (by omega)]
    have e2 : ∀ x, x < p + 2 + 32 * i → μD x = μ x := fun x a1 => by rw [(hC.1 x a1).2, mB, fup_n (by omega)]
    refine ih (i + 1) shD μD _ _ _ (by omega) rfl rfl rfl ((e1 p (by omega) (by omega)).trans h1) ?_ (fun j hj => ?_) (fun j hj => ?_) (fun x hx => (e1 x (by omega) (by omega)).trans (h5 x hx)) (fun x hx => (e2 x (by omega)).trans (h6 x hx)) (fun k => by rw [e2 _ (by omega)]; exact h7 k)
    · rw [hD, fup_s, Int.toNat_natCast, idsF_set (by omega)]
    · by_cases hj2 : j < i
      · exact (h3 j hj2).agr (fun x a1 a2 => e1 x (by omega) (by omega)) (by omega)
      · obtain rfl : j = i := by omega
        exact hC.2.1.agr (fun x a1 a2 => by rw [hD, fup_n (by omega)]) (by omega)
    · by_cases hj2 : j < i
      · exact (h4 j hj2).keep (fun x a1 a2 => e2 x (by omega))
      · obtain rfl : j = i := by omega
        exact hC.2.2.1
theorem i_hist (hst : l.stackTraces = false) {p : Nat} (hs : sh p = sO 1 [fN, fI, fI]) (hm : ∀ k, μ p k = 0) : Kx G l M_X1_init [.ref (gB G + p)] (p + 1) sh μ 193 1284 (fun sh' μ' => low p sh sh' μ μ' ∧ isHist (p + 194) sh' p ∧ (∀ k, μ' p k = 0) ∧ ∀ j, j < 6 → wfC μ' (p + 2 + 32 * j + 6)) := by
  refine Kx.of hst rfl (by decide +kernel) (Nat.le_of_ble_eq_true rfl) rfl ?_
  refine VW.aload_n dX1_init_0 rfl ?_
  refine VW.objInit dX1_init_1 wd_120 wd_35 wd_36 (by decide) (by decide) ?_
  refine VW.aload_n dX1_init_4 rfl ?_
  refine VW.bipush dX1_init_5 rfl ?_
  refine VW.newQ (n0 := p + 1) (c0 := false) dX1_init_7 wd_121 rfl (by omega) ⟨by omega, by omega⟩ ?_
  refine VW.putR dX1_init_10 rfl ff_X1_11 (fun _ => ⟨rfl, rfl⟩) (by omega) ((fup_n (by omega)).trans hs) (by decide) ?_
  refine VW.nmd (N' := p + 2 + 32 * 0) (k' := 1 + 32 * 0) (n' := 6 + 213 * 0) (by omega) (by omega) (by omega) (fun shA μA hA mA => ?_)
  refine VW.iconst dX1_init_13 ?_
  refine VW.istore_n (lv' := [(0, _), (1, _)]) dX1_init_14 (by decide) rfl ?_
  refine lp_X1 hst (sh0 := sh) (μ0 := μ) (fun shE μE g1 g2 g3 g4 g5 g6 g7 => ?_) 6 0 shA μA _ _ _ (by omega) rfl rfl rfl (by rw [hA]; exact fup_s _ _ _) (by rw [hA, fup_n (by omega), fup_s, idsF_0]; rfl) (fun j hj => absurd hj (by omega)) (fun j hj => absurd hj (by omega)) (fun x hx => by rw [hA, fup_n (by omega), fup_n (by omega)]) (fun x hx => by rw [mA, fup_n (by omega)]) (fun k => by rw [mA, fup_s])
  refine VW.aload_n dX1_init_43 rfl ?_
  refine VW.iconst dX1_init_44 ?_
  refine VW.putI dX1_init_45 fp_X1_18 (by omega) g1 rfl ?_
  refine VW.aload_n dX1_init_48 rfl ?_
  refine VW.iconst dX1_init_49 ?_
  refine VW.putI dX1_init_50 fp_X1_22 (by omega) g1 rfl ?_
  refine VW.vreturn dX1_init_53 rfl ?_
  refine ⟨shE, _, rfl, fun i hi => ⟨g5 i hi, by rw [mup_n (by omega), mup_n (by omega)]; exact g6 i (by omega)⟩, ⟨by omega, g1, by omega, by rw [g2, idsF_n], g3⟩, fun k => ?_, fun j hj => wfC_z (fun i h1 h2 k => ?_)⟩
  · by_cases hk : k = 2
    · rw [hk]; exact mup_s _ _ _ _
    · rw [mup_k hk]
      by_cases hk1 : k = 1
      · rw [hk1]; exact mup_s _ _ _ _
      · rw [mup_k hk1, g6 p (by omega)]; exact hm k
  · rw [mup_n (by omega), mup_n (by omega)]
    exact g4 j hj i (by omega) (by omega) k
theorem i_view (hst : l.stackTraces = false) {p : Nat} (hs : sh p = sO 6 [fN, fN, fN, fN, fN, fN, fN, fI]) (hm : ∀ k, μ p k = 0) : Kx G l M_X6_init [.ref (gB G + p)] (p + 1) sh μ 15 204 (fun sh' μ' => low p sh sh' μ μ' ∧ isView (p + 16) sh' p ∧ zer μ' p (p + 16)) := by
  refine Kx.of hst rfl (by decide +kernel) (Nat.le_of_ble_eq_true rfl) rfl ?_
  refine VW.aload_n dX6_init_0 rfl ?_
  refine VW.objInit dX6_init_1 wd_141 wd_35 wd_36 (by decide) (by decide) ?_
  refine VW.aload_n dX6_init_4 rfl ?_
  refine VW.new (n0 := p + 1) dX6_init_5 na_X6_9 rfl (by omega) ?_
  refine VW.nmd (N' := p + 2) (k' := 1) (n' := 1) (by omega) (by omega) (by omega) (fun shB1 μB1 hB1 mB1 => ?_)
  refine VW.dup dX6_init_8 rfl ?_
  refine VW.kI (b := p + 1) (av := []) (n0 := p + 1) ci_X6_init_X2_init dX6_init_9 rfl (Nat.le_of_ble_eq_true rfl) rfl (by omega) (i_meter hst (by rw [hB1]; exact fup_s _ _ _) (fun k => by rw [mB1, fup_s])) (fun shC1 μC1 hC1 => ?_)
  refine VW.putR dX6_init_12 rfl ff_X6_12 (fun _ => ⟨rfl, rfl⟩) (by omega) ((hC1.1 p (by omega)).1.trans ((congrFun hB1 p).trans ((fup_n (by omega)).trans hs))) (by simp) ?_
  refine VW.nmd (N' := p + 4) (k' := 3) (n' := 12) (by omega) (by omega) (by omega) (fun shD1 μD1 hD1 mD1 => ?_)
  subst mD1
  have S1 := stepF (by omega) hB1 mB1 hC1.1 hD1
  refine VW.aload_n dX6_init_15 rfl ?_
  refine VW.new (n0 := p + 1) dX6_init_16 na_X6_18 rfl (by omega) ?_
  refine VW.nmd (N' := p + 5) (k' := 4) (n' := 14) (by omega) (by omega) (by omega) (fun shB2 μB2 hB2 mB2 => ?_)
  refine VW.dup dX6_init_19 rfl ?_
  refine VW.bipush dX6_init_20 rfl ?_
  refine VW.kI (b := p + 4) (av := [vI ((40 : Nat) : Int)]) (n0 := p + 1) ci_X6_init_X4_init dX6_init_22 rfl (Nat.le_of_ble_eq_true rfl) rfl (by omega) (i_row (cap := 40) hst (by rw [hB2]; exact fup_s _ _ _) (fun k => by rw [mB2, fup_s]) (by decide)) (fun shC2 μC2 hC2 => ?_)
  refine VW.putR dX6_init_25 rfl ff_X6_23 (fun _ => ⟨rfl, rfl⟩) (by omega) ((hC2.1 p (by omega)).1.trans ((congrFun hB2 p).trans ((fup_n (by omega)).trans S1.2.2.1))) (by simp) ?_
  refine VW.nmd (N' := p + 6) (k' := 5) (n' := 54) (by omega) (by omega) (by omega) (fun shD2 μD2 hD2 mD2 => ?_)
  subst mD2
  have S2 := stepF (by omega) hB2 mB2 hC2.1 hD2
  refine VW.aload_n dX6_init_28 rfl ?_
  refine VW.new (n0 := p + 1) dX6_init_29 na_X6_18 rfl (by omega) ?_
  refine VW.nmd (N' := p + 7) (k' := 6) (n' := 56) (by omega) (by omega) (by omega) (fun shB3 μB3 hB3 mB3 => ?_)
  refine VW.dup dX6_init_32 rfl ?_
  refine VW.bipush dX6_init_33 rfl ?_
  refine VW.kI (b := p + 6) (av := [vI ((40 : Nat) : Int)]) (n0 := p + 1) ci_X6_init_X4_init dX6_init_35 rfl (Nat.le_of_ble_eq_true rfl) rfl (by omega) (i_row (cap := 40) hst (by rw [hB3]; exact fup_s _ _ _) (fun k => by rw [mB3, fup_s]) (by decide)) (fun shC3 μC3 hC3 => ?_)
  refine VW.putR dX6_init_38 rfl ff_X6_27 (fun _ => ⟨rfl, rfl⟩) (by omega) ((hC3.1 p (by omega)).1.trans ((congrFun hB3 p).trans ((fup_n (by omega)).trans S2.2.2.1))) (by simp) ?_
  refine VW.nmd (N' := p + 8) (k' := 7) (n' := 96) (by omega) (by omega) (by omega) (fun shD3 μD3 hD3 mD3 => ?_)
  subst mD3
  have S3 := stepF (by omega) hB3 mB3 hC3.1 hD3
  refine VW.aload_n dX6_init_41 rfl ?_
  refine VW.new (n0 := p + 1) dX6_init_42 na_X6_18 rfl (by omega) ?_
  refine VW.nmd (N' := p + 9) (k' := 8) (n' := 98) (by omega) (by omega) (by omega) (fun shB4 μB4 hB4 mB4 => ?_)
  refine VW.dup dX6_init_45 rfl ?_
  refine VW.bipush dX6_init_46 rfl ?_
  refine VW.kI (b := p + 8) (av := [vI ((40 : Nat) : Int)]) (n0 := p + 1) ci_X6_init_X4_init dX6_init_48 rfl (Nat.le_of_ble_eq_true rfl) rfl (by omega) (i_row (cap := 40) hst (by rw [hB4]; exact fup_s _ _ _) (fun k => by rw [mB4, fup_s]) (by decide)) (fun shC4 μC4 hC4 => ?_)
  refine VW.putR dX6_init_51 rfl ff_X6_30 (fun _ => ⟨rfl, rfl⟩) (by omega) ((hC4.1 p (by omega)).1.trans ((congrFun hB4 p).trans ((fup_n (by omega)).trans S3.2.2.1))) (by simp) ?_
  refine VW.nmd (N' := p + 10) (k' := 9) (n' := 138) (by omega) (by omega) (by omega) (fun shD4 μD4 hD4 mD4 => ?_)
  subst mD4
  have S4 := stepF (by omega) hB4 mB4 hC4.1 hD4
  refine VW.aload_n dX6_init_54 rfl ?_
  refine VW.new (n0 := p + 1) dX6_init_55 na_X6_18 rfl (by omega) ?_
  refine VW.nmd (N' := p + 11) (k' := 10) (n' := 140) (by omega) (by omega) (by omega) (fun shB5 μB5 hB5 mB5 => ?_)
  refine VW.dup dX6_init_58 rfl ?_
  refine VW.bipush dX6_init_59 rfl ?_
  refine VW.kI (b := p + 10) (av := [vI ((40 : Nat) : Int)]) (n0 := p + 1) ci_X6_init_X4_init dX6_init_61 rfl (Nat.le_of_ble_eq_true rfl) rfl (by omega) (i_row (cap := 40) hst (by rw [hB5]; exact fup_s _ _ _) (fun k => by rw [mB5, fup_s]) (by decide)) (fun shC5 μC5 hC5 => ?_)
  refine VW.putR dX6_init_64 rfl ff_X6_33 (fun _ => ⟨rfl, rfl⟩) (by omega) ((hC5.1 p (by omega)).1.trans ((congrFun hB5 p).trans ((fup_n (by omega)).trans S4.2.2.1))) (by simp) ?_
  refine VW.nmd (N' := p + 12) (k' := 11) (n' := 180) (by omega) (by omega) (by omega) (fun shD5 μD5 hD5 mD5 => ?_)
  subst mD5
  have S5 := stepF (by omega) hB5 mB5 hC5.1 hD5
  refine VW.aload_n dX6_init_67 rfl ?_
  refine VW.new (n0 := p + 1) dX6_init_68 na_X6_18 rfl (by omega) ?_
  refine VW.nmd (N' := p + 13) (k' := 12) (n' := 182) (by omega) (by omega) (by omega) (fun shB6 μB6 hB6 mB6 => ?_)
  refine VW.dup dX6_init_71 rfl ?_
  refine VW.bipush dX6_init_72 rfl ?_
  refine VW.kI (b := p + 12) (av := [vI ((10 : Nat) : Int)]) (n0 := p + 1) ci_X6_init_X4_init dX6_init_74 rfl (Nat.le_of_ble_eq_true rfl) rfl (by omega) (i_row (cap := 10) hst (by rw [hB6]; exact fup_s _ _ _) (fun k => by rw [mB6, fup_s]) (by decide)) (fun shC6 μC6 hC6 => ?_)
  refine VW.putR dX6_init_77 rfl ff_X6_36 (fun _ => ⟨rfl, rfl⟩) (by omega) ((hC6.1 p (by omega)).1.trans ((congrFun hB6 p).trans ((fup_n (by omega)).trans S5.2.2.1))) (by simp) ?_
  refine VW.nmd (N' := p + 14) (k' := 13) (n' := 192) (by omega) (by omega) (by omega) (fun shD6 μD6 hD6 mD6 => ?_)
  subst mD6
  have S6 := stepF (by omega) hB6 mB6 hC6.1 hD6
  refine VW.aload_n dX6_init_80 rfl ?_
  refine VW.new (n0 := p + 1) dX6_init_81 na_X6_18 rfl (by omega) ?_
  refine VW.nmd (N' := p + 15) (k' := 14) (n' := 194) (by omega) (by omega) (by omega) (fun shB7 μB7 hB7 mB7 => ?_)
  refine VW.dup dX6_init_84 rfl ?_
  refine VW.bipush dX6_init_85 rfl ?_
  refine VW.kI (b := p + 14) (av := [vI ((10 : Nat) : Int)]) (n0 := p + 1) ci_X6_init_X4_init dX6_init_87 rfl (Nat.le_of_ble_eq_true rfl) rfl (by omega) (i_row (cap := 10) hst (by rw [hB7]; exact fup_s _ _ _) (fun k => by rw [mB7, fup_s]) (by decide)) (fun shC7 μC7 hC7 => ?_)
  refine VW.putR dX6_init_90 rfl ff_X6_39 (fun _ => ⟨rfl, rfl⟩) (by omega) ((hC7.1 p (by omega)).1.trans ((congrFun hB7 p).trans ((fup_n (by omega)).trans S6.2.2.1))) (by simp) ?_
  refine VW.nmd (N' := p + 16) (k' := 15) (n' := 204) (by omega) (by omega) (by omega) (fun shD7 μD7 hD7 mD7 => ?_)
  subst mD7
  have S7 := stepF (by omega) hB7 mB7 hC7.1 hD7
  refine VW.aload_n dX6_init_93 rfl ?_
  refine VW.iconst dX6_init_94 ?_
  refine VW.putI dX6_init_95 fp_X6_42 (by omega) S7.2.2.1 rfl ?_
  refine VW.vreturn dX6_init_98 rfl ?_
  refine ⟨shD7, _, rfl, fun i hi => ⟨(S7.1 i (by omega) (by omega)).trans ((S6.1 i (by omega) (by omega)).trans ((S5.1 i (by omega) (by omega)).trans ((S4.1 i (by omega) (by omega)).trans ((S3.1 i (by omega) (by omega)).trans ((S2.1 i (by omega) (by omega)).trans ((S1.1 i (by omega) (by omega)))))))), (mup_n (by omega)).trans ((S7.2.1 i (by omega)).trans ((S6.2.1 i (by omega)).trans ((S5.2.1 i (by omega)).trans ((S4.2.1 i (by omega)).trans ((S3.2.1 i (by omega)).trans ((S2.2.1 i (by omega)).trans ((S1.2.1 i (by omega)))))))))⟩, ⟨by omega, S7.2.2.1, (hC1.2.1.agr (fun x h1 h2 => (S7.1 x (by omega) (by omega)).trans ((S6.1 x (by omega) (by omega)).trans ((S5.1 x (by omega) (by omega)).trans ((S4.1 x (by omega) (by omega)).trans ((S3.1 x (by omega) (by omega)).trans ((S2.1 x (by omega) (by omega)).trans ((S1.2.2.2 x (by omega))))))))) (by omega)), (hC2.2.1.agr (fun x h1 h2 => (S7.1 x (by omega) (by omega)).trans ((S6.1 x (by omega) (by omega)).trans ((S5.1 x (by omega) (by omega)).trans ((S4.1 x (by omega) (by omega)).trans ((S3.1 x (by omega) (by omega)).trans ((S2.2.2.2 x (by omega)))))))) (by omega)), (hC3.2.1.agr (fun x h1 h2 => (S7.1 x (by omega) (by omega)).trans ((S6.1 x (by omega) (by omega)).trans ((S5.1 x (by omega) (by omega)).trans ((S4.1 x (by omega) (by omega)).trans ((S3.2.2.2 x (by omega))))))) (by omega)), (hC4.2.1.agr (fun x h1 h2 => (S7.1 x (by omega) (by omega)).trans ((S6.1 x (by omega) (by omega)).trans ((S5.1 x (by omega) (by omega)).trans ((S4.2.2.2 x (by omega)))))) (by omega)), (hC5.2.1.agr (fun x h1 h2 => (S7.1 x (by omega) (by omega)).trans ((S6.1 x (by omega) (by omega)).trans ((S5.2.2.2 x (by omega))))) (by omega)), (hC6.2.1.agr (fun x h1 h2 => (S7.1 x (by omega) (by omega)).trans ((S6.2.2.2 x (by omega)))) (by omega)), (hC7.2.1.agr (fun x h1 h2 => (S7.2.2.2 x (by omega))) (by omega))⟩, fun i h1 h2 k => ?_⟩
  rcases (by omega : i = p ∨ (p + 1 ≤ i ∧ i < p + 4) ∨ (p + 4 ≤ i ∧ i < p + 6) ∨ (p + 6 ≤ i ∧ i < p + 8) ∨ (p + 8 ≤ i ∧ i < p + 10) ∨ (p + 10 ≤ i ∧ i < p + 12) ∨ (p + 12 ≤ i ∧ i < p + 14) ∨ (p + 14 ≤ i ∧ i < p + 16)) with rfl | q | q | q | q | q | q | q
  · by_cases hk : k = 7
    · rw [hk]; exact mup_s _ _ _ _
    · rw [mup_k hk, (S7.2.1 i (by omega)).trans ((S6.2.1 i (by omega)).trans ((S5.2.1 i (by omega)).trans ((S4.2.1 i (by omega)).trans ((S3.2.1 i (by omega)).trans ((S2.2.1 i (by omega)).trans ((S1.2.1 i (by omega))))))))]
      exact hm k
  · rw [mup_n (by omega)]
    exact (hC1.2.2.keep (fun x h1 h2 => (S7.2.1 x (by omega)).trans ((S6.2.1 x (by omega)).trans ((S5.2.1 x (by omega)).trans ((S4.2.1 x (by omega)).trans ((S3.2.1 x (by omega)).trans ((S2.2.1 x (by omega))))))))) i (by omega) (by omega) k
  · rw [mup_n (by omega)]
    exact (hC2.2.2.keep (fun x h1 h2 => (S7.2.1 x (by omega)).trans ((S6.2.1 x (by omega)).trans ((S5.2.1 x (by omega)).trans ((S4.2.1 x (by omega)).trans ((S3.2.1 x (by omega)))))))) i (by omega) (by omega) k
  · rw [mup_n (by omega)]
    exact (hC3.2.2.keep (fun x h1 h2 => (S7.2.1 x (by omega)).trans ((S6.2.1 x (by omega)).trans ((S5.2.1 x (by omega)).trans ((S4.2.1 x (by omega))))))) i (by omega) (by omega) k
  · rw [mup_n (by omega)]
    exact (hC4.2.2.keep (fun x h1 h2 => (S7.2.1 x (by omega)).trans ((S6.2.1 x (by omega)).trans ((S5.2.1 x (by omega)))))) i (by omega) (by omega) k
  · rw [mup_n (by omega)]
    exact (hC5.2.2.keep (fun x h1 h2 => (S7.2.1 x (by omega)).trans ((S6.2.1 x (by omega))))) i (by omega) (by omega) k
  · rw [mup_n (by omega)]
    exact (hC6.2.2.keep (fun x h1 h2 => (S7.2.1 x (by omega)))) i (by omega) (by omega) k
  · rw [mup_n (by omega)]
    exact (hC7.2.2.keep (fun x h1 h2 => rfl)) i (by omega) (by omega) k
theorem i_gest (hst : l.stackTraces = false) (hs : sh 0 = sO 7 [fN, fN, fN, fN, fN, fN, fN, fN, fN]) (hm : ∀ k, μ 0 k = 0) : Kx G l M_X7_init [.ref (gB G + 0)] (1) sh μ 272 2103 (fun sh' μ' => low 0 sh sh' μ μ' ∧ isG 273 sh' ∧ hasA μ' (mk [] [] [] S0 [] [])) := by
  refine Kx.of hst rfl (by decide +kernel) (Nat.le_of_ble_eq_true rfl) rfl ?_
  refine VW.aload_n dX7_init_0 rfl ?_
  refine VW.objInit dX7_init_1 wd_34 wd_35 wd_36 (by decide) (by decide) ?_
  refine VW.aload_n dX7_init_4 rfl ?_
  refine VW.new (n0 := 1) dX7_init_5 na_X7_7 rfl (by omega) ?_
  refine VW.nmd (N' := 2) (k' := 1) (n' := 3) (by omega) (by omega) (by omega) (fun shB1 μB1 hB1 mB1 => ?_)
  refine VW.dup dX7_init_8 rfl ?_
  refine VW.kI (b := 1) (av := []) (n0 := 1) ci_X7_init_X5_init dX7_init_9 rfl (Nat.le_of_ble_eq_true rfl) rfl (by omega) (i_state hst (by rw [hB1]; exact fup_s _ _ _) (fun k => by rw [mB1, fup_s])) (fun shC1 μC1 hC1 => ?_)
  refine VW.putR dX7_init_12 rfl ff_X7_10 (fun _ => ⟨rfl, rfl⟩) (by omega) ((hC1.1 0 (by omega)).1.trans ((congrFun hB1 0).trans ((fup_n (by omega)).trans hs))) (by simp) ?_
  refine VW.nmd (N' := 33) (k' := 32) (n' := 213) (by omega) (by omega) (by omega) (fun shD1 μD1 hD1 mD1 => ?_)
  subst mD1
  have S1 := stepF (by omega) hB1 mB1 hC1.1 hD1
  refine VW.aload_n dX7_init_15 rfl ?_
  refine VW.new (n0 := 1) dX7_init_16 na_X7_16 rfl (by omega) ?_
  refine VW.nmd (N' := 34) (k' := 33) (n' := 216) (by omega) (by omega) (by omega) (fun shB2 μB2 hB2 mB2 => ?_)
  refine VW.dup dX7_init_19 rfl ?_
  refine VW.kI (b := 33) (av := []) (n0 := 1) ci_X7_init_X1_init dX7_init_20 rfl (Nat.le_of_ble_eq_true rfl) rfl (by omega) (i_hist hst (by rw [hB2]; exact fup_s _ _ _) (fun k => by rw [mB2, fup_s])) (fun shC2 μC2 hC2 => ?_)
  refine VW.putR dX7_init_23 rfl ff_X7_19 (fun _ => ⟨rfl, rfl⟩) (by omega) ((hC2.1 0 (by omega)).1.trans ((congrFun hB2 0).trans ((fup_n (by omega)).trans S1.2.2.1))) (by simp) ?_
  refine VW.nmd (N' := 227) (k' := 226) (n' := 1500) (by omega) (by omega) (by omega) (fun shD2 μD2 hD2 mD2 => ?_)
  subst mD2
  have S2 := stepF (by omega) hB2 mB2 hC2.1 hD2
  refine VW.aload_n dX7_init_26 rfl ?_
  refine VW.new (n0 := 1) dX7_init_27 na_X7_23 rfl (by omega) ?_
  refine VW.nmd (N' := 228) (k' := 227) (n' := 1502) (by omega) (by omega) (by omega) (fun shB3 μB3 hB3 mB3 => ?_)
  refine VW.dup dX7_init_30 rfl ?_
  refine VW.bipush dX7_init_31 rfl ?_
  refine VW.kI (b := 227) (av := [vI ((60 : Nat) : Int)]) (n0 := 1) ci_X7_init_X4_init dX7_init_33 rfl (Nat.le_of_ble_eq_true rfl) rfl (by omega) (i_row (cap := 60) hst (by rw [hB3]; exact fup_s _ _ _) (fun k => by rw [mB3, fup_s]) (by decide)) (fun shC3 μC3 hC3 => ?_)
  refine VW.putR dX7_init_36 rfl ff_X7_28 (fun _ => ⟨rfl, rfl⟩) (by omega) ((hC3.1 0 (by omega)).1.trans ((congrFun hB3 0).trans ((fup_n (by omega)).trans S2.2.2.1))) (by simp) ?_
  refine VW.nmd (N' := 229) (k' := 228) (n' := 1562) (by omega) (by omega) (by omega) (fun shD3 μD3 hD3 mD3 => ?_)
  subst mD3
  have S3 := stepF (by omega) hB3 mB3 hC3.1 hD3
  refine VW.aload_n dX7_init_39 rfl ?_
  refine VW.new (n0 := 1) dX7_init_40 na_X7_32 rfl (by omega) ?_
  refine VW.nmd (N' := 230) (k' := 229) (n' := 1570) (by omega) (by omega) (by omega) (fun shB4 μB4 hB4 mB4 => ?_)
  refine VW.dup dX7_init_43 rfl ?_
  refine VW.kI (b := 229) (av := []) (n0 := 1) ci_X7_init_X6_init dX7_init_44 rfl (Nat.le_of_ble_eq_true rfl) rfl (by omega) (i_view hst (by rw [hB4]; exact fup_s _ _ _) (fun k => by rw [mB4, fup_s])) (fun shC4 μC4 hC4 => ?_)
  refine VW.putR dX7_init_47 rfl ff_X7_35 (fun _ => ⟨rfl, rfl⟩) (by omega) ((hC4.1 0 (by omega)).1.trans ((congrFun hB4 0).trans ((fup_n (by omega)).trans S3.2.2.1))) (by simp) ?_
  refine VW.nmd (N' := 245) (k' := 244) (n' := 1774) (by omega) (by omega) (by omega) (fun shD4 μD4 hD4 mD4 => ?_)
  subst mD4
  have S4 := stepF (by omega) hB4 mB4 hC4.1 hD4
  refine VW.aload_n dX7_init_50 rfl ?_
  refine VW.new (n0 := 1) dX7_init_51 na_X7_39 rfl (by omega) ?_
  refine VW.nmd (N' := 246) (k' := 245) (n' := 1775) (by omega) (by omega) (by omega) (fun shB5 μB5 hB5 mB5 => ?_)
  refine VW.dup dX7_init_54 rfl ?_
  refine VW.kI (b := 245) (av := []) (n0 := 1) ci_X7_init_X2_init dX7_init_55 rfl (Nat.le_of_ble_eq_true rfl) rfl (by omega) (i_meter hst (by rw [hB5]; exact fup_s _ _ _) (fun k => by rw [mB5, fup_s])) (fun shC5 μC5 hC5 => ?_)
  refine VW.putR dX7_init_58 rfl ff_X7_42 (fun _ => ⟨rfl, rfl⟩) (by omega) ((hC5.1 0 (by omega)).1.trans ((congrFun hB5 0).trans ((fup_n (by omega)).trans S4.2.2.1))) (by simp) ?_
  refine VW.nmd (N' := 248) (k' := 247) (n' := 1786) (by omega) (by omega) (by omega) (fun shD5 μD5 hD5 mD5 => ?_)
  subst mD5
  have S5 := stepF (by omega) hB5 mB5 hC5.1 hD5
  refine VW.aload_n dX7_init_61 rfl ?_
  refine VW.new (n0 := 1) dX7_init_62 na_X7_46 rfl (by omega) ?_
  refine VW.nmd (N' := 249) (k' := 248) (n' := 1788) (by omega) (by omega) (by omega) (fun shB6 μB6 hB6 mB6 => ?_)
  refine VW.dup dX7_init_65 rfl ?_
  refine VW.kI (b := 248) (av := []) (n0 := 1) ci_X7_init_X3_init dX7_init_66 rfl (Nat.le_of_ble_eq_true rfl) rfl (by omega) (i_path hst (by rw [hB6]; exact fup_s _ _ _) (fun k => by rw [mB6, fup_s])) (fun shC6 μC6 hC6 => ?_)
  refine VW.putR dX7_init_69 rfl ff_X7_49 (fun _ => ⟨rfl, rfl⟩) (by omega) ((hC6.1 0 (by omega)).1.trans ((congrFun hB6 0).trans ((fup_n (by omega)).trans S5.2.2.1))) (by simp) ?_
  refine VW.nmd (N' := 253) (k' := 252) (n' := 1874) (by omega) (by omega) (by omega) (fun shD6 μD6 hD6 mD6 => ?_)
  subst mD6
  have S6 := stepF (by omega) hB6 mB6 hC6.1 hD6
  refine VW.aload_n dX7_init_72 rfl ?_
  refine VW.new (n0 := 1) dX7_init_73 na_X7_32 rfl (by omega) ?_
  refine VW.nmd (N' := 254) (k' := 253) (n' := 1882) (by omega) (by omega) (by omega) (fun shB7 μB7 hB7 mB7 => ?_)
  refine VW.dup dX7_init_76 rfl ?_
  refine VW.kI (b := 253) (av := []) (n0 := 1) ci_X7_init_X6_init dX7_init_77 rfl (Nat.le_of_ble_eq_true rfl) rfl (by omega) (i_view hst (by rw [hB7]; exact fup_s _ _ _) (fun k => by rw [mB7, fup_s])) (fun shC7 μC7 hC7 => ?_)
  refine VW.putR dX7_init_80 rfl ff_X7_53 (fun _ => ⟨rfl, rfl⟩) (by omega) ((hC7.1 0 (by omega)).1.trans ((congrFun hB7 0).trans ((fup_n (by omega)).trans S6.2.2.1))) (by simp) ?_
  refine VW.nmd (N' := 269) (k' := 268) (n' := 2086) (by omega) (by omega) (by omega) (fun shD7 μD7 hD7 mD7 => ?_)
  subst mD7
  have S7 := stepF (by omega) hB7 mB7 hC7.1 hD7
  refine VW.aload_n dX7_init_83 rfl ?_
  refine VW.new (n0 := 1) dX7_init_84 na_X7_23 rfl (by omega) ?_
  refine VW.nmd (N' := 270) (k' := 269) (n' := 2088) (by omega) (by omega) (by omega) (fun shB8 μB8 hB8 mB8 => ?_)
  refine VW.dup dX7_init_87 rfl ?_
  refine VW.iconst dX7_init_88 ?_
  refine VW.kI (b := 269) (av := [vI ((5 : Nat) : Int)]) (n0 := 1) ci_X7_init_X4_init dX7_init_89 rfl (Nat.le_of_ble_eq_true rfl) rfl (by omega) (i_row (cap := 5) hst (by rw [hB8]; exact fup_s _ _ _) (fun k => by rw [mB8, fup_s]) (by decide)) (fun shC8 μC8 hC8 => ?_)
  refine VW.putR dX7_init_92 rfl ff_X7_56 (fun _ => ⟨rfl, rfl⟩) (by omega) ((hC8.1 0 (by omega)).1.trans ((congrFun hB8 0).trans ((fup_n (by omega)).trans S7.2.2.1))) (by simp) ?_
  refine VW.nmd (N' := 271) (k' := 270) (n' := 2093) (by omega) (by omega) (by omega) (fun shD8 μD8 hD8 mD8 => ?_)
  subst mD8
  have S8 := stepF (by omega) hB8 mB8 hC8.1 hD8
  refine VW.aload_n dX7_init_95 rfl ?_
  refine VW.new (n0 := 1) dX7_init_96 na_X7_23 rfl (by omega) ?_
  refine VW.nmd (N' := 272) (k' := 271) (n' := 2095) (by omega) (by omega) (by omega) (fun shB9 μB9 hB9 mB9 => ?_)
  refine VW.dup dX7_init_99 rfl ?_
  refine VW.bipush dX7_init_100 rfl ?_
  refine VW.kI (b := 271) (av := [vI ((8 : Nat) : Int)]) (n0 := 1) ci_X7_init_X4_init dX7_init_102 rfl (Nat.le_of_ble_eq_true rfl) rfl (by omega) (i_row (cap := 8) hst (by rw [hB9]; exact fup_s _ _ _) (fun k => by rw [mB9, fup_s]) (by decide)) (fun shC9 μC9 hC9 => ?_)
  refine VW.putR dX7_init_105 rfl ff_X7_59 (fun _ => ⟨rfl, rfl⟩) (by omega) ((hC9.1 0 (by omega)).1.trans ((congrFun hB9 0).trans ((fup_n (by omega)).trans S8.2.2.1))) (by simp) ?_
  refine VW.nmd (N' := 273) (k' := 272) (n' := 2103) (by omega) (by omega) (by omega) (fun shD9 μD9 hD9 mD9 => ?_)
  subst mD9
  have S9 := stepF (by omega) hB9 mB9 hC9.1 hD9
  refine VW.vreturn dX7_init_108 rfl ?_
  have z1 : zer μD9 1 31 := (hC1.2.2.1.keep (fun x h1 h2 => (S9.2.1 x (by omega)).trans ((S8.2.1 x (by omega)).trans ((S7.2.1 x (by omega)).trans ((S6.2.1 x (by omega)).trans ((S5.2.1 x (by omega)).trans ((S4.2.1 x (by omega)).trans ((S3.2.1 x (by omega)).trans ((S2.2.1 x (by omega)))))))))))
  have r1 : hasRow μD9 31 5 S0 := hC1.2.2.2.agm ((S9.2.1 31 (by omega)).trans ((S8.2.1 31 (by omega)).trans ((S7.2.1 31 (by omega)).trans ((S6.2.1 31 (by omega)).trans ((S5.2.1 31 (by omega)).trans ((S4.2.1 31 (by omega)).trans ((S3.2.1 31 (by omega)).trans ((S2.2.1 31 (by omega)))))))))) ((S9.2.1 32 (by omega)).trans ((S8.2.1 32 (by omega)).trans ((S7.2.1 32 (by omega)).trans ((S6.2.1 32 (by omega)).trans ((S5.2.1 32 (by omega)).trans ((S4.2.1 32 (by omega)).trans ((S3.2.1 32 (by omega)).trans ((S2.2.1 32 (by omega))))))))))
  have z2 : ∀ k, μD9 33 k = 0 := fun k => (congrFun ((S9.2.1 33 (by omega)).trans ((S8.2.1 33 (by omega)).trans ((S7.2.1 33 (by omega)).trans ((S6.2.1 33 (by omega)).trans ((S5.2.1 33 (by omega)).trans ((S4.2.1 33 (by omega)).trans ((S3.2.1 33 (by omega))))))))) k).trans (hC2.2.2.1 k)
  have w2 : ∀ j, j < 6 → wfC μD9 (33 + 2 + 32 * j + 6) := fun j hj => (hC2.2.2.2 j hj).agm (fun x h1 h2 => (S9.2.1 x (by omega)).trans ((S8.2.1 x (by omega)).trans ((S7.2.1 x (by omega)).trans ((S6.2.1 x (by omega)).trans ((S5.2.1 x (by omega)).trans ((S4.2.1 x (by omega)).trans ((S3.2.1 x (by omega)))))))))
  have z3 : zer μD9 227 229 := (hC3.2.2.keep (fun x h1 h2 => (S9.2.1 x (by omega)).trans ((S8.2.1 x (by omega)).trans ((S7.2.1 x (by omega)).trans ((S6.2.1 x (by omega)).trans ((S5.2.1 x (by omega)).trans ((S4.2.1 x (by omega)))))))))
  have z4 : zer μD9 229 245 := (hC4.2.2.keep (fun x h1 h2 => (S9.2.1 x (by omega)).trans ((S8.2.1 x (by omega)).trans ((S7.2.1 x (by omega)).trans ((S6.2.1 x (by omega)).trans ((S5.2.1 x (by omega))))))))
  have z6 : zer μD9 248 253 := (hC6.2.2.keep (fun x h1 h2 => (S9.2.1 x (by omega)).trans ((S8.2.1 x (by omega)).trans ((S7.2.1 x (by omega))))))
  refine ⟨shD9, μD9, rfl, fun i hi => absurd hi (by omega), ⟨by omega, S9.2.2.1, (hC1.2.1.agr (fun x h1 h2 => (S9.1 x (by omega) (by omega)).trans ((S8.1 x (by omega) (by omega)).trans ((S7.1 x (by omega) (by omega)).trans ((S6.1 x (by omega) (by omega)).trans ((S5.1 x (by omega) (by omega)).trans ((S4.1 x (by omega) (by omega)).trans ((S3.1 x (by omega) (by omega)).trans ((S2.1 x (by omega) (by omega)).trans ((S1.2.2.2 x (by omega))))))))))) (by omega)), (hC2.2.1.agr (fun x h1 h2 => (S9.1 x (by omega) (by omega)).trans ((S8.1 x (by omega) (by omega)).trans ((S7.1 x (by omega) (by omega)).trans ((S6.1 x (by omega) (by omega)).trans ((S5.1 x (by omega) (by omega)).trans ((S4.1 x (by omega) (by omega)).trans ((S3.1 x (by omega) (by omega)).trans ((S2.2.2.2 x (by omega)))))))))) (by omega)), (hC3.2.1.agr (fun x h1 h2 => (S9.1 x (by omega) (by omega)).trans ((S8.1 x (by omega) (by omega)).trans ((S7.1 x (by omega) (by omega)).trans ((S6.1 x (by omega) (by omega)).trans ((S5.1 x (by omega) (by omega)).trans ((S4.1 x (by omega) (by omega)).trans ((S3.2.2.2 x (by omega))))))))) (by omega)), (hC4.2.1.agr (fun x h1 h2 => (S9.1 x (by omega) (by omega)).trans ((S8.1 x (by omega) (by omega)).trans ((S7.1 x (by omega) (by omega)).trans ((S6.1 x (by omega) (by omega)).trans ((S5.1 x (by omega) (by omega)).trans ((S4.2.2.2 x (by omega)))))))) (by omega)), (hC5.2.1.agr (fun x h1 h2 => (S9.1 x (by omega) (by omega)).trans ((S8.1 x (by omega) (by omega)).trans ((S7.1 x (by omega) (by omega)).trans ((S6.1 x (by omega) (by omega)).trans ((S5.2.2.2 x (by omega))))))) (by omega)), (hC6.2.1.agr (fun x h1 h2 => (S9.1 x (by omega) (by omega)).trans ((S8.1 x (by omega) (by omega)).trans ((S7.1 x (by omega) (by omega)).trans ((S6.2.2.2 x (by omega)))))) (by omega)), (hC7.2.1.agr (fun x h1 h2 => (S9.1 x (by omega) (by omega)).trans ((S8.1 x (by omega) (by omega)).trans ((S7.2.2.2 x (by omega))))) (by omega)), (hC8.2.1.agr (fun x h1 h2 => (S9.1 x (by omega) (by omega)).trans ((S8.2.2.2 x (by omega)))) (by omega)), (hC9.2.1.agr (fun x h1 h2 => (S9.2.2.2 x (by omega))) (by omega))⟩, ?_⟩
  refine ⟨⟨hasP_z (z1.sub (by omega) (by omega)), hasC_z (z1.sub (by omega) (by omega)), r1, ⟨w2, ⟨by rw [z2]; decide, by rw [z2]; decide⟩, z2 2, by decide, fun k hk => absurd hk (by simp)⟩, row_z (z3.sub (by omega) (by omega)), [], [], hasP_z z6⟩, ?_⟩
  exact ⟨row_z (z4.sub (by omega) (by omega)), row_z (z4.sub (by omega) (by omega)), row_z (z4.sub (by omega) (by omega)), row_z (z4.sub (by omega) (by omega)), z4 229 (by omega) (by omega) 7, row_z (z4.sub (by omega) (by omega)), row_z (z4.sub (by omega) (by omega))⟩
end PCT
