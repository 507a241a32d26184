/-! ===== the model: the calls that change ===== -/
def zS (f : Nat → Int) (σ : St) : Prop := zR f σ.1.1 σ.1.2 σ.2.1 σ.2.2
def hasM (μ : Mem) (xs ys : List Int) (C : List (List Int)) (S : List Int) (Z : List St) (B : List Int) : Prop :=
  zR (μ 274) xs ys C S ∧ μ 273 1 = (Z.length : Int) ∧ (∀ k : Nat, k < Z.length → zS (fun i => μ 275 (177 * k + i)) (Z.getD k (([], []), [], []))) ∧ μ 273 3 = (B.length : Int) ∧ arr μ 276 B
def hasMA (μ : Mem) (A : AS) : Prop := hasM μ A.1.1.1 A.1.1.2 A.1.2.1 A.1.2.2 A.2.1 A.2.2
abbrev aM : List Nat := [274, 275, 276, 277, 278, 279, 280, 281, 282, 283, 284]
abbrev bM : List Nat := [1, 3, 5, 8, 11, 13, 17]
abbrev aL : List Nat := [277, 278, 279, 280, 281, 282, 283, 284]
abbrev bL : List Nat := [5, 8, 11, 13, 17]
/-- how a call of the model ends -/
def tP (q : QS) (μ : Mem) : Int → Mem → Prop := fun r μ' => r = (if q.1.1 = 0 then q.1.2 else 0) ∧ μ' 273 5 = q.1.1 ∧ hasMA μ' q.2 ∧ frK aM bM μ μ'
theorem mup_f (μ : Mem) (a k : Nat) (v : Int) : mup μ a k v a = fup (μ a) k v := by simp [mup, fup]
section PQ
variable {G : GT} {l : Launch} {N : Nat} {sh : Nat → ShT} {μ μ' : Mem} {xs ys S D Ln : List Int} {C : List (List Int)} {v lo hi : Int}
variable {Z : List St} {B : List Int} {q : QS}
theorem zR_c {f g : Nat → Int} (ok : okS ((xs, ys), C, S)) (h : zR f xs ys C S) (e : ∀ i, i < 177 → g i = f i) : zR g xs ys C S := by
  obtain ⟨⟨ok1, ok2, ok3, ok4⟩, ⟨ok5, ok6, ok7⟩, ok8⟩ := okS.un ok
  obtain ⟨h1, h2, h3, h4, h5⟩ := h
  refine ⟨fun s hs => by rw [e _ (by omega)]; exact h1 s hs, by rw [e _ (by omega)]; exact h2, by rw [e _ (by omega)]; exact h3, fun k hk => ?_, fun c hc => ?_⟩
  · rw [e _ (by omega), e _ (by omega)]; exact h4 k hk
  · have l8 := (ok6 _ (getD_mem C (i := c.toNat) (by omega))).1
    rw [e _ (by omega)]
    exact ⟨(h5 c hc).1, fun j hj => by rw [e _ (by omega)]; exact (h5 c hc).2 j hj⟩
theorem zS_c {f g : Nat → Int} {σ : St} (ok : okS σ) (h : zS f σ) (e : ∀ i, i < 177 → g i = f i) : zS g σ := zR_c ok h e
theorem getZ_mem {Z : List St} {k : Nat} (h : k < Z.length) : Z.getD k (([], []), [], []) ∈ Z := by simp [List.getD, h]
theorem hasM.keep {a b : List Nat} (h : hasM μ xs ys C S Z B) (f : frK a b μ μ') (h4 : 274 ∉ a) (h5 : 275 ∉ a) (h6 : 276 ∉ a) (h1 : 1 ∉ b) (h3 : 3 ∉ b) : hasM μ' xs ys C S Z B :=
  ⟨h.1.keep f h4, by rw [f.2 1 h1]; exact h.2.1, by rw [f.1 275 (by decide) h5]; exact h.2.2.1, by rw [f.2 3 h3]; exact h.2.2.2.1, h.2.2.2.2.keep f (by decide) h6⟩
theorem hasM.z {a b : List Nat} {xs' ys' S' : List Int} {C' : List (List Int)} (h : hasM μ xs ys C S Z B) (f : frK a b μ μ') (hz : zR (μ' 274) xs' ys' C' S') (h5 : 275 ∉ a) (h6 : 276 ∉ a) (h1 : 1 ∉ b) (h3 : 3 ∉ b) : hasM μ' xs' ys' C' S' Z B :=
  ⟨hz, by rw [f.2 1 h1]; exact h.2.1, by rw [f.1 275 (by decide) h5]; exact h.2.2.1, by rw [f.2 3 h3]; exact h.2.2.2.1, h.2.2.2.2.keep f (by decide) h6⟩
theorem tP_x {k : Int} (e : q = ((k, 0), mk xs ys C S Z B)) (h : hasM μ' xs ys C S Z B) (f : frK aM bM μ μ') (hk : ¬ k = 0) (h5 : μ' 273 5 = k) : tP q μ 0 μ' := by
  subst e
  exact ⟨by rw [if_neg hk], h5, h, f⟩
theorem tP_r {r : Int} (e : q = ((0, r), mk xs ys C S Z B)) (h : hasM μ' xs ys C S Z B) (f : frK aM bM μ μ') (h5 : μ' 273 5 = 0) : tP q μ r μ' := by
  subst e
  exact ⟨by rw [if_pos rfl], h5, h, f⟩
theorem lp_X8_sv1 (hst : l.stackTraces = false) (hm : isM N sh) {Φ : RT → Prop} (kk : ∀ μ3 : Mem, (∀ j : Nat, j < 885 → μ3 275 j = μ 275 (j + 177)) → frK [275] [] μ μ3 → VW G l none M_X8_save 42 [(0, .ref (gB G + 273))] [] (N, sh, μ3) 0 0 Φ) : ∀ (n : Nat) (i : Int), 177 ≤ i → i + n = 1062 → ∀ μ2 : Mem, (∀ j : Nat, (j : Int) < i - 177 → μ2 275 j = μ 275 (j + 177)) → (∀ j : Nat, i - 177 ≤ (j : Int) → μ2 275 j = μ 275 j) → frK [275] [] μ μ2 → VW G l none M_X8_save 13 [(0, .ref (gB G + 273)), (1, vI i)] [] (N, sh, μ2) 0 0 Φ := by
  intro n
  induction n with
  | zero =>
    intro i h1 h2 μ2 h3 h4 hf
    refine VW.iload_n dX8_save_13 rfl ?_
    refine VW.sipush dX8_save_14 rfl ?_
    refine VW.icmp_ge 42 ⟨by omega, by omega⟩ ⟨by omega, by omega⟩ dX8_save_17 (by decide) (fun c17 => ?_) (fun c17 => by omega)
    refine VW.sub ?_ [0] rfl
    exact kk μ2 (fun j hj => h3 j (by omega)) hf
  | succ n ih =>
    intro i h1 h2 μ2 h3 h4 hf
    refine VW.iload_n dX8_save_13 rfl ?_
    refine VW.sipush dX8_save_14 rfl ?_
    refine VW.icmp_ge 42 ⟨by omega, by omega⟩ ⟨by omega, by omega⟩ dX8_save_17 (by decide) (fun c17 => by omega) (fun c17 => ?_)
    refine VW.aload_n dX8_save_20 rfl ?_
    refine VW.getR dX8_save_21 fa_X8_13 (by have := hm.1; omega) hm.2.1 rfl ?_
    refine VW.iload_n dX8_save_24 rfl ?_
    refine VW.sipush dX8_save_25 rfl ?_
    refine VW.isub dX8_save_28 ?_
    refine VW.aload_n dX8_save_29 rfl ?_
    refine VW.getR dX8_save_30 fa_X8_13 (by have := hm.1; omega) hm.2.1 rfl ?_
    refine VW.iload_n dX8_save_33 rfl ?_
    refine VW.iaload dX8_save_34 (by have := hm.1; omega) hm.2.2.2.1 (by omega) (by omega) (by decide) ?_
    
    refine VW.iastore dX8_save_35 (by have := hm.1; omega) hm.2.2.2.1 (by omega) (by omega) (by decide) ?_
    refine VW.iinc (lv' := [(0, _), (1, _)]) dX8_save_36 rfl (by decide) rfl ?_
    refine VW.goto 13 dX8_save_39 (by decide) ?_
    refine ih (i + 1) (by omega) (by omega) _ (fun j hj => ?_) (fun j hj => ?_) (hf.tr ((frK_a (by decide) : frK [275] [] μ2 _)))
    · by_cases e : j = (i - 177).toNat
      · rw [e, mup_s, h4 i.toNat (by omega)]
        congr 1
        omega
      · rw [mup_k e]; exact h3 j (by omega)
    · rw [mup_k (by omega)]; exact h4 j (by omega)
theorem lp_X8_sv2 (hst : l.stackTraces = false) (hm : isM N sh) {p : Nat} (hp : p < 6) (hp1 : μ 273 1 = (p : Int)) {Φ : RT → Prop} (kk : ∀ μ3 : Mem, (∀ j : Nat, j < 177 → μ3 275 (177 * p + j) = μ 274 j) → (∀ j : Nat, j < 177 * p → μ3 275 j = μ 275 j) → frK [275] [] μ μ3 → VW G l none M_X8_save 88 [(0, .ref (gB G + 273))] [] (N, sh, μ3) 0 0 Φ) : ∀ (n : Nat) (i : Int), 0 ≤ i → i + n = 177 → ∀ μ2 : Mem, (∀ j : Nat, (j : Int) < i → μ2 275 (177 * p + j) = μ 274 j) → (∀ j : Nat, j < 177 * p → μ2 275 j = μ 275 j) → frK [275] [] μ μ2 → VW G l none M_X8_save 54 [(0, .ref (gB G + 273)), (1, vI i)] [] (N, sh, μ2) 0 0 Φ := by
  intro n
  induction n with
  | zero =>
    intro i h1 h2 μ2 h3 h4 hf
    refine VW.iload_n dX8_save_54 rfl ?_
    refine VW.sipush dX8_save_55 rfl ?_
    refine VW.icmp_ge 88 ⟨by omega, by omega⟩ ⟨by omega, by omega⟩ dX8_save_58 (by decide) (fun c58 => ?_) (fun c58 => by omega)
    refine VW.sub ?_ [0] rfl
    exact kk μ2 (fun j hj => h3 j (by omega)) h4 hf
  | succ n ih =>
    intro i h1 h2 μ2 h3 h4 hf
    refine VW.iload_n dX8_save_54 rfl ?_
    refine VW.sipush dX8_save_55 rfl ?_
    refine VW.icmp_ge 88 ⟨by omega, by omega⟩ ⟨by omega, by omega⟩ dX8_save_58 (by decide) (fun c58 => by omega) (fun c58 => ?_)
    have e1 : μ2 273 1 = (p : Int) := (hf.2 1 (by decide)).trans hp1
    have e4 : μ2 274 = μ 274 := hf.1 274 (by decide) (by decide)
    refine VW.aload_n dX8_save_61 rfl ?_
    refine VW.getR dX8_save_62 fa_X8_13 (by have := hm.1; omega) hm.2.1 rfl ?_
    refine VW.sipush dX8_save_65 rfl ?_
    refine VW.aload_n dX8_save_68 rfl ?_
    refine VW.getI dX8_save_69 fa_X8_47 (by have := hm.1; omega) hm.2.1 rfl ?_
    rw [e1]
    refine VW.imul dX8_save_72 ?_
    refine VW.iload_n dX8_save_73 rfl ?_
    refine VW.iadd dX8_save_74 ?_
    refine VW.aload_n dX8_save_75 rfl ?_
    refine VW.getR dX8_save_76 fa_X8_7 (by have := hm.1; omega) hm.2.1 rfl ?_
    refine VW.iload_n dX8_save_79 rfl ?_
    refine VW.iaload dX8_save_80 (by have := hm.1; omega) hm.2.2.1 (by omega) (by omega) (by decide) ?_
    rw [e4]
    refine VW.iastore dX8_save_81 (by have := hm.1; omega) hm.2.2.2.1 (by omega) (by omega) (by decide) ?_
    refine VW.iinc (lv' := [(0, _), (1, _)]) dX8_save_82 rfl (by decide) rfl ?_
    refine VW.goto 54 dX8_save_85 (by decide) ?_
    refine ih (i + 1) (by omega) (by omega) _ (fun j hj => ?_) (fun j hj => ?_) (hf.tr (frK_a (by decide)))
    · by_cases e : j = i.toNat
      · rw [e, show (177 * (p : Int) + i).toNat = 177 * p + i.toNat by omega, mup_s]
      · rw [mup_k (by omega)]; exact h3 j (by omega)
    · rw [mup_k (by omega)]; exact h4 j hj
theorem sv_tail (hst : l.stackTraces = false) (hm : isM N sh) (h : hasM μ xs ys C S Z B) (ok : okS ((xs, ys), C, S)) (okZ : ∀ τ ∈ Z, okS τ) (h6 : Z.length < 6) : VW G l none M_X8_save 52 [(0, .ref (gB G + 273))] [] (N, sh, μ) 0 0 (fxP N sh (oN (vN_v (fun μ' => hasM μ' xs ys C S (Z ++ [((xs, ys), C, S)]) B ∧ frK [275] [1] μ μ')))) := by
  refine VW.iconst dX8_save_52 ?_
  refine VW.istore_n (lv' := [(0, _), (1, _)]) dX8_save_53 (by decide) rfl ?_
  refine lp_X8_sv2 hst hm (p := Z.length) h6 h.2.1 (fun μ3 h3 h4 hf => ?_) 177 0 (by omega) (by omega) μ (fun j hj => by omega) (fun j hj => rfl) frK.rf
  refine VW.aload_n dX8_save_88 rfl ?_
  refine VW.dup dX8_save_89 rfl ?_
  refine VW.getI dX8_save_90 fa_X8_47 (by have := hm.1; omega) hm.2.1 rfl ?_
  rw [hf.2 1 (by decide), h.2.1]
  refine VW.iconst dX8_save_93 ?_
  refine VW.iadd dX8_save_94 ?_
  refine VW.putI dX8_save_95 fp_X8_47 (by have := hm.1; omega) hm.2.1 rfl ?_
  refine VW.vreturn dX8_save_98 rfl ?_
  refine fxP.vv ?_
  have g : frK [275] [1] μ (mup μ3 273 1 ((Z.length : Int) + 1)) := (hf.wid (by decide) (by decide)).tr (frK_f.wid (by decide) (by decide))
  refine ⟨⟨h.1.keep g (by decide), by rw [mup_s]; simp, fun k hk => ?_, by rw [g.2 3 (by decide)]; exact h.2.2.2.1, h.2.2.2.2.keep g (by decide) (by decide)⟩, g⟩
  rw [mup_n (show (275 : Nat) ≠ 273 by decide)]
  rw [List.length_append, List.length_singleton] at hk
  by_cases e : k = Z.length
  · subst e
    have e2 : (Z ++ [((xs, ys), C, S)]).getD Z.length (([], []), [], []) = ((xs, ys), C, S) := by simp [List.getD]
    rw [e2]
    exact zR_c ok h.1 (fun i hi => h3 i hi)
  · have e2 : (Z ++ [((xs, ys), C, S)]).getD k (([], []), [], []) = Z.getD k (([], []), [], []) := by simp [List.getD, List.getElem?_append_left (show k < Z.length by omega)]
    rw [e2]
    have hk2 := h.2.2.1 k (by omega)
    exact zS_c (okZ _ (getZ_mem (by omega))) hk2 (fun i hi => h4 _ (by omega))
theorem t_save (hst : l.stackTraces = false) (hm : isM N sh) (h : hasM μ xs ys C S Z B) (ok : okS ((xs, ys), C, S)) (okZ : ∀ τ ∈ Z, okS τ) (h6 : Z.length ≤ 6) : Zv G l N sh M_X8_save [.ref (gB G + 273)] μ (fun μ' => hasM μ' xs ys C S (kp Z ((xs, ys), C, S)) B ∧ frK [275] [1] μ μ') := by
  refine Fx.of hst rfl (by decide +kernel) (Nat.le_of_ble_eq_true rfl) rfl ?_
  have hn : μ 273 1 = (Z.length : Int) := h.2.1
  unfold kp
  by_cases e6 : Z.length = 6
  · rw [if_pos e6]
    refine VW.aload_n dX8_save_0 rfl ?_
    refine VW.getI dX8_save_1 fa_X8_47 (by have := hm.1; omega) hm.2.1 rfl ?_
    refine VW.bipush dX8_save_4 rfl ?_
    refine VW.icmp_ne 52 ⟨by omega, by omega⟩ ⟨by omega, by omega⟩ dX8_save_6 (by decide) (fun c6 => by omega) (fun c6 => ?_)
    refine VW.sipush dX8_save_9 rfl ?_
    refine VW.istore_n (lv' := [(0, _), (1, _)]) dX8_save_12 (by decide) rfl ?_
    refine lp_X8_sv1 hst hm (fun μ3 h3 hf => ?_) 885 177 (by omega) (by omega) μ (fun j hj => by omega) (fun j hj => rfl) frK.rf
    refine VW.aload_n dX8_save_42 rfl ?_
    refine VW.dup dX8_save_43 rfl ?_
    refine VW.getI dX8_save_44 fa_X8_47 (by have := hm.1; omega) hm.2.1 rfl ?_
    rw [hf.2 1 (by decide), hn]
    refine VW.iconst dX8_save_47 ?_
    refine VW.isub dX8_save_48 ?_
    refine VW.putI dX8_save_49 fp_X8_47 (by have := hm.1; omega) hm.2.1 rfl ?_
    have g : frK [275] [1] μ (mup μ3 273 1 ((Z.length : Int) - 1)) := (hf.wid (by decide) (by decide)).tr (frK_f.wid (by decide) (by decide))
    have h9 : hasM (mup μ3 273 1 ((Z.length : Int) - 1)) xs ys C S (Z.drop 1) B := by
      refine ⟨h.1.keep g (by decide), by rw [mup_s, List.length_drop]; omega, fun k hk => ?_, by rw [g.2 3 (by decide)]; exact h.2.2.2.1, h.2.2.2.2.keep g (by decide) (by decide)⟩
      rw [List.length_drop] at hk
      rw [mup_n (show (275 : Nat) ≠ 273 by decide)]
      have e2 : (Z.drop 1).getD k (([], []), [], []) = Z.getD (k + 1) (([], []), [], []) := by simp [List.getD, Nat.add_comm]
      rw [e2]
      exact zS_c (okZ _ (getZ_mem (by omega))) (h.2.2.1 (k + 1) (by omega)) (fun i hi => by
        show μ3 275 (177 * k + i) = μ 275 (177 * (k + 1) + i)
        rw [h3 _ (by omega)]
        congr 1
        omega)
    refine VW.mono (sv_tail hst hm h9 ok (fun τ ht => okZ τ (List.mem_of_mem_drop ht)) (by rw [List.length_drop]; omega)) ?_
    rintro r ⟨oo, μ', rfl, v, rfl, rfl, a, b⟩
    exact fxP.vv ⟨a, g.tr b⟩
  · rw [if_neg e6]
    refine VW.aload_n dX8_save_0 rfl ?_
    refine VW.getI dX8_save_1 fa_X8_47 (by have := hm.1; omega) hm.2.1 rfl ?_
    refine VW.bipush dX8_save_4 rfl ?_
    refine VW.icmp_ne 52 ⟨by omega, by omega⟩ ⟨by omega, by omega⟩ dX8_save_6 (by decide) (fun c6 => ?_) (fun c6 => by omega)
    exact sv_tail hst hm h ok okZ (by omega)
theorem zR_add {f g : Nat → Int} {x y : Int} (hz : zR f xs ys C S) (hl : ys.length = xs.length ∧ xs.length ≤ 39) (h5 : g 5 = (xs.length : Int) + 1) (hx : g (7 + 2 * xs.length) = x) (hy : g (7 + 2 * xs.length + 1) = y) (e : ∀ i, i ≠ 5 → i ≠ 7 + 2 * xs.length → i ≠ 7 + 2 * xs.length + 1 → g i = f i) : zR g (xs ++ [x]) (ys ++ [y]) C S := by
  obtain ⟨h1, h2, h3, h4, hc⟩ := hz
  refine ⟨fun s hs => by rw [e _ (by omega) (by omega) (by omega)]; exact h1 s hs, by rw [h5]; simp, by rw [e 6 (by omega) (by omega) (by omega)]; exact h3, fun k hk => ?_, fun c hc2 => ?_⟩
  · rw [List.length_append, List.length_singleton] at hk
    rw [rat_snoc, rat_snoc]
    by_cases ek : k = xs.length
    · rw [if_pos ek, if_pos (by omega), show (7 + 2 * k).toNat = 7 + 2 * xs.length by omega, show (7 + 2 * k + 1).toNat = 7 + 2 * xs.length + 1 by omega]
      exact ⟨hx, hy⟩
    · rw [if_neg ek, if_neg (by omega), e _ (by omega) (by omega) (by omega), e _ (by omega) (by omega) (by omega)]
      exact h4 k (by omega)
  · rw [e _ (by omega) (by omega) (by omega)]
    exact ⟨(hc c hc2).1, fun j hj => by rw [e _ (by omega) (by omega) (by omega)]; exact (hc c hc2).2 j hj⟩
theorem t_addPoint (hst : l.stackTraces = false) (hm : isM N sh) (hz : zR (μ 274) xs ys C S) (hl : ys.length = xs.length ∧ xs.length ≤ 39) {x y : Int} : Zv G l N sh M_X8_addPoint [.ref (gB G + 273), vI x, vI y] μ (fun μ' => zR (μ' 274) (xs ++ [x]) (ys ++ [y]) C S ∧ frK [274] [] μ μ') := by
  refine Fx.of hst rfl (by decide +kernel) (Nat.le_of_ble_eq_true rfl) rfl ?_
  have z5 : μ 274 5 = (xs.length : Int) := hz.2.1
  refine VW.aload_n dX8_addPoint_0 rfl ?_
  refine VW.getR dX8_addPoint_1 fa_X8_7 (by have := hm.1; omega) hm.2.1 rfl ?_
  refine VW.bipush dX8_addPoint_4 rfl ?_
  refine VW.iconst dX8_addPoint_6 ?_
  refine VW.aload_n dX8_addPoint_7 rfl ?_
  refine VW.getR dX8_addPoint_8 fa_X8_7 (by have := hm.1; omega) hm.2.1 rfl ?_
  refine VW.iconst dX8_addPoint_11 ?_
  refine VW.iaload dX8_addPoint_12 (by have := hm.1; omega) hm.2.2.1 (by omega) (by omega) (by decide) ?_
  rw [show (5 : Int).toNat = 5 from rfl, z5]
  refine VW.imul dX8_addPoint_13 ?_
  refine VW.iadd dX8_addPoint_14 ?_
  refine VW.iload_n dX8_addPoint_15 rfl ?_
  refine VW.iastore dX8_addPoint_16 (by have := hm.1; omega) hm.2.2.1 (by omega) (by omega) (by decide) ?_
  refine VW.aload_n dX8_addPoint_17 rfl ?_
  refine VW.getR dX8_addPoint_18 fa_X8_7 (by have := hm.1; omega) hm.2.1 rfl ?_
  refine VW.bipush dX8_addPoint_21 rfl ?_
  refine VW.iconst dX8_addPoint_23 ?_
  refine VW.aload_n dX8_addPoint_24 rfl ?_
  refine VW.getR dX8_addPoint_25 fa_X8_7 (by have := hm.1; omega) hm.2.1 rfl ?_
  refine VW.iconst dX8_addPoint_28 ?_
  refine VW.iaload dX8_addPoint_29 (by have := hm.1; omega) hm.2.2.1 (by omega) (by omega) (by decide) ?_
  rw [show (5 : Int).toNat = 5 from rfl, mup_k (show 5 ≠ (7 + 2 * (xs.length : Int)).toNat by omega), z5]
  refine VW.imul dX8_addPoint_30 ?_
  refine VW.iadd dX8_addPoint_31 ?_
  refine VW.iconst dX8_addPoint_32 ?_
  refine VW.iadd dX8_addPoint_33 ?_
  refine VW.iload_n dX8_addPoint_34 rfl ?_
  refine VW.iastore dX8_addPoint_35 (by have := hm.1; omega) hm.2.2.1 (by omega) (by omega) (by decide) ?_
  refine VW.aload_n dX8_addPoint_36 rfl ?_
  refine VW.getR dX8_addPoint_37 fa_X8_7 (by have := hm.1; omega) hm.2.1 rfl ?_
  refine VW.iconst dX8_addPoint_40 ?_
  refine VW.dup2 dX8_addPoint_41 rfl rfl ?_
  refine VW.iaload dX8_addPoint_42 (by have := hm.1; omega) hm.2.2.1 (by omega) (by omega) (by decide) ?_
  rw [show (5 : Int).toNat = 5 from rfl, mup_k (show 5 ≠ (7 + 2 * (xs.length : Int) + 1).toNat by omega), mup_k (show 5 ≠ (7 + 2 * (xs.length : Int)).toNat by omega), z5]
  refine VW.iconst dX8_addPoint_43 ?_
  refine VW.iadd dX8_addPoint_44 ?_
  refine VW.iastore dX8_addPoint_45 (by have := hm.1; omega) hm.2.2.1 (by omega) (by omega) (by decide) ?_
  refine VW.vreturn dX8_addPoint_46 rfl ?_
  refine fxP.vv ?_
  refine ⟨?_, ((frK_a (by decide)).tr (frK_a (by decide))).tr (frK_a (by decide))⟩
  rw [mup_f, mup_f, mup_f, show (5 : Int).toNat = 5 from rfl, show (7 + 2 * (xs.length : Int)).toNat = 7 + 2 * xs.length by omega, show (7 + 2 * (xs.length : Int) + 1).toNat = 7 + 2 * xs.length + 1 by omega]
  exact zR_add hz hl (fup_s _ _ _) (by rw [fup_n (by omega), fup_n (by omega), fup_s]) (by rw [fup_n (by omega), fup_s]) (fun i a b c => by rw [fup_n a, fup_n c, fup_n b])
theorem zR_cut {f g : Nat → Int} {p : Int} (hz : zR f xs ys C S) (hp : 0 ≤ p ∧ p ≤ xs.length) (hl : ys.length = xs.length) (h5 : g 5 = p) (e : ∀ i, i ≠ 5 → (i < 7 + 2 * p.toNat ∨ 87 ≤ i) → g i = f i) : zR g (xs.take p.toNat) (ys.take p.toNat) C S := by
  obtain ⟨h1, h2, h3, h4, hc⟩ := hz
  have rt : ∀ (L : List Int) (k : Int), L.length = xs.length → 0 ≤ k ∧ k < p → rat (L.take p.toNat) k = rat L k := fun L k hL hk => by
    unfold rat
    rw [List.length_take, if_pos (by omega), if_pos (by omega)]
    unfold List.getD
    rw [List.getElem?_take, if_pos (by omega)]
  refine ⟨fun s hs => by rw [e _ (by omega) (by omega)]; exact h1 s hs, by rw [h5, List.length_take]; omega, by rw [e 6 (by omega) (by omega)]; exact h3, fun k hk => ?_, fun c hc2 => ?_⟩
  · rw [List.length_take] at hk
    rw [e _ (by omega) (by omega), e _ (by omega) (by omega), rt xs k rfl (by omega), rt ys k hl (by omega)]
    exact h4 k (by omega)
  · rw [e _ (by omega) (by omega)]
    exact ⟨(hc c hc2).1, fun j hj => by rw [e _ (by omega) (by omega)]; exact (hc c hc2).2 j hj⟩
theorem lp_X8_cf (hst : l.stackTraces = false) (hm : isM N sh) (hz : zR (μ 274) xs ys C S) {p : Int} (hp : 0 ≤ p ∧ p ≤ xs.length) (hl : ys.length = xs.length ∧ xs.length ≤ 40) : ∀ (n : Nat) (i : Int), 7 + 2 * p ≤ i → i + n = 87 → ∀ μ2 : Mem, μ2 274 5 = p → (∀ j : Nat, j ≠ 5 → (j < 7 + 2 * p.toNat ∨ 87 ≤ j) → μ2 274 j = μ 274 j) → frK [274] [] μ μ2 → VW G l none M_X8_clearFrom 14 [(0, .ref (gB G + 273)), (1, vI p), (2, vI i)] [] (N, sh, μ2) 0 0 (fxP N sh (oN (vN_v (fun μ' => zR (μ' 274) (xs.take p.toNat) (ys.take p.toNat) C S ∧ frK [274] [] μ μ')))) := by
  intro n
  induction n with
  | zero =>
    intro i h1 h2 μ2 h3 h4 hf
    refine VW.iload_n dX8_clearFrom_14 rfl ?_
    refine VW.bipush dX8_clearFrom_15 rfl ?_
    refine VW.icmp_ge 33 ⟨by omega, by omega⟩ ⟨by omega, by omega⟩ dX8_clearFrom_17 (by decide) (fun c17 => ?_) (fun c17 => by omega)
    refine VW.vreturn dX8_clearFrom_33 rfl ?_
    refine fxP.vv ?_
    exact ⟨zR_cut hz hp hl.1 h3 h4, hf⟩
  | succ n ih =>
    intro i h1 h2 μ2 h3 h4 hf
    refine VW.iload_n dX8_clearFrom_14 rfl ?_
    refine VW.bipush dX8_clearFrom_15 rfl ?_
    refine VW.icmp_ge 33 ⟨by omega, by omega⟩ ⟨by omega, by omega⟩ dX8_clearFrom_17 (by decide) (fun c17 => by omega) (fun c17 => ?_)
    refine VW.aload_n dX8_clearFrom_20 rfl ?_
    refine VW.getR dX8_clearFrom_21 fa_X8_7 (by have := hm.1; omega) hm.2.1 rfl ?_
    refine VW.iload_n dX8_clearFrom_24 rfl ?_
    refine VW.iconst dX8_clearFrom_25 ?_
    refine VW.iastore dX8_clearFrom_26 (by have := hm.1; omega) hm.2.2.1 (by omega) (by omega) (by decide) ?_
    refine VW.iinc (lv' := [(0, _), (1, _), (2, _)]) dX8_clearFrom_27 rfl (by decide) rfl ?_
    refine VW.goto 14 dX8_clearFrom_30 (by decide) ?_
    refine ih (i + 1) (by omega) (by omega) _ (by rw [mup_k (by omega)]; exact h3) (fun j a b => ?_) (hf.tr (frK_a (by decide)))
    rw [mup_k (by omega)]
    exact h4 j a b
theorem t_clearFrom (hst : l.stackTraces = false) (hm : isM N sh) (hz : zR (μ 274) xs ys C S) {p : Int} (hp : 0 ≤ p ∧ p ≤ xs.length) (hl : ys.length = xs.length ∧ xs.length ≤ 40) : Zv G l N sh M_X8_clearFrom [.ref (gB G + 273), vI p] μ (fun μ' => zR (μ' 274) (xs.take p.toNat) (ys.take p.toNat) C S ∧ frK [274] [] μ μ') := by
  refine Fx.of hst rfl (by decide +kernel) (Nat.le_of_ble_eq_true rfl) rfl ?_
  refine VW.aload_n dX8_clearFrom_0 rfl ?_
  refine VW.getR dX8_clearFrom_1 fa_X8_7 (by have := hm.1; omega) hm.2.1 rfl ?_
  refine VW.iconst dX8_clearFrom_4 ?_
  refine VW.iload_n dX8_clearFrom_5 rfl ?_
  refine VW.iastore dX8_clearFrom_6 (by have := hm.1; omega) hm.2.2.1 (by omega) (by omega) (by decide) ?_
  refine VW.bipush dX8_clearFrom_7 rfl ?_
  refine VW.iconst dX8_clearFrom_9 ?_
  refine VW.iload_n dX8_clearFrom_10 rfl ?_
  refine VW.imul dX8_clearFrom_11 ?_
  refine VW.iadd dX8_clearFrom_12 ?_
  refine VW.istore_n (lv' := [(0, _), (1, _), (2, _)]) dX8_clearFrom_13 (by decide) rfl ?_
  exact lp_X8_cf hst hm hz hp hl (80 - 2 * p.toNat) (7 + 2 * p) (by omega) (by omega) _ (mup_s _ _ _ _) (fun j a b => mup_k a) (frK_a (by decide))
theorem zR_learn {f g : Nat → Int} (hz : zR f xs ys C S) (hx : xs.length ≤ 40) (h8 : ∀ L ∈ C, L.length ≤ 8) (hl : D.length ≤ 8 ∧ C.length < 10) (h6 : g 6 = (C.length : Int) + 1) (ha : g (87 + 9 * C.length) = (D.length : Int)) (hd : ∀ j : Int, 0 ≤ j ∧ j < D.length → g (87 + 9 * (C.length : Int) + 1 + j).toNat = rat D j) (e : ∀ i, i ≠ 6 → i < 87 + 9 * C.length → g i = f i) : zR g xs ys (C ++ [D]) S := by
  obtain ⟨h1, h2, h3, h4, hc⟩ := hz
  refine ⟨fun s hs => by rw [e _ (by omega) (by omega)]; exact h1 s hs, by rw [e 5 (by omega) (by omega)]; exact h2, by rw [h6]; simp, fun k hk => by rw [e _ (by omega) (by omega), e _ (by omega) (by omega)]; exact h4 k hk, fun c hc2 => ?_⟩
  rw [List.length_append, List.length_singleton] at hc2
  by_cases ec : c.toNat = C.length
  · have e1 : (C ++ [D]).getD c.toNat [] = D := by rw [ec]; simp [List.getD]
    rw [e1, show (87 + 9 * c).toNat = 87 + 9 * C.length by omega]
    refine ⟨ha, fun j hj => ?_⟩
    rw [show (87 + 9 * c + 1 + j) = (87 + 9 * (C.length : Int) + 1 + j) by omega]
    exact hd j hj
  · have e1 : (C ++ [D]).getD c.toNat [] = C.getD c.toNat [] := by simp [List.getD, List.getElem?_append_left (show c.toNat < C.length by omega)]
    have l8 := h8 _ (getD_mem C (i := c.toNat) (by omega))
    rw [e1, e _ (by omega) (by omega)]
    exact ⟨(hc c (by omega)).1, fun j hj => by rw [e _ (by omega) (by omega)]; exact (hc c (by omega)).2 j hj⟩
theorem lp_X8_ln (hst : l.stackTraces = false) (hm : isM N sh) (hz : zR (μ 274) xs ys C S) (ok : okS ((xs, ys), C, S)) (hK : hasK μ D) (hl : D.length ≤ 8 ∧ C.length < 10) : ∀ (n : Nat) (k : Int), 0 ≤ k → k + n = D.length → ∀ μ2 : Mem, μ2 274 (87 + 9 * C.length) = (D.length : Int) → (∀ j : Int, 0 ≤ j ∧ j < k → μ2 274 (87 + 9 * (C.length : Int) + 1 + j).toNat = rat D j) → (∀ i : Nat, i < 87 + 9 * C.length → μ2 274 i = μ 274 i) → frK [274] [] μ μ2 → VW G l none M_X8_learns 26 [(0, .ref (gB G + 273)), (1, vI (87 + 9 * (C.length : Int))), (2, vI k)] [] (N, sh, μ2) 0 0 (fxP N sh (oN (vN_i (fun r μ' => r = (C.length : Int) ∧ zR (μ' 274) xs ys (C ++ [D]) S ∧ frK [274] [] μ μ')))) := by
  obtain ⟨⟨ok1, ok2, ok3, ok4⟩, ⟨ok5, ok6, ok7⟩, ok8⟩ := okS.un ok
  have z6 : μ 274 6 = (C.length : Int) := hz.2.2.1
  intro n
  induction n with
  | zero =>
    intro k h1 h2 μ2 h3 h4 h5 hf
    refine VW.iload_n dX8_learns_26 rfl ?_
    have k1 : μ2 273 13 = (D.length : Int) := (hf.2 13 (by decide)).trans hK.1
    have k2 : μ2 281 = μ 281 := hf.1 281 (by decide) (by decide)
    refine VW.aload_n dX8_learns_27 rfl ?_
    refine VW.getI dX8_learns_28 fa_X8_107 (by have := hm.1; omega) hm.2.1 rfl ?_
    refine VW.icmp_ge 56 ⟨by omega, by omega⟩ ⟨by omega, by omega⟩ dX8_learns_31 (by decide) (fun c31 => ?_) (fun c31 => by omega)
    refine VW.aload_n dX8_learns_56 rfl ?_
    refine VW.getR dX8_learns_57 fa_X8_7 (by have := hm.1; omega) hm.2.1 rfl ?_
    refine VW.bipush dX8_learns_60 rfl ?_
    refine VW.dup2 dX8_learns_62 rfl rfl ?_
    refine VW.iaload dX8_learns_63 (by have := hm.1; omega) hm.2.2.1 (by omega) (by omega) (by decide) ?_
    rw [show (6 : Int).toNat = 6 from rfl, h5 6 (by omega), z6]
    refine VW.iconst dX8_learns_64 ?_
    refine VW.iadd dX8_learns_65 ?_
    refine VW.iastore dX8_learns_66 (by have := hm.1; omega) hm.2.2.1 (by omega) (by omega) (by decide) ?_
    refine VW.aload_n dX8_learns_67 rfl ?_
    refine VW.getR dX8_learns_68 fa_X8_7 (by have := hm.1; omega) hm.2.1 rfl ?_
    refine VW.bipush dX8_learns_71 rfl ?_
    refine VW.iaload dX8_learns_73 (by have := hm.1; omega) hm.2.2.1 (by omega) (by omega) (by decide) ?_
    rw [show (6 : Int).toNat = 6 from rfl, mup_s]
    refine VW.iconst dX8_learns_74 ?_
    refine VW.isub dX8_learns_75 ?_
    refine VW.ireturn dX8_learns_76 rfl rfl ?_
    refine fxP.ii ⟨by omega, ?_, hf.tr (frK_a (by decide))⟩
    rw [mup_f]
    refine zR_learn hz ok2 (fun L hL => (ok6 L hL).1) hl (fup_s _ _ _) (by rw [fup_n (by omega)]; exact h3) (fun j hj => by rw [fup_n (by omega)]; exact h4 j (by omega)) (fun i a b => by rw [fup_n a]; exact h5 i b)
  | succ n ih =>
    intro k h1 h2 μ2 h3 h4 h5 hf
    refine VW.iload_n dX8_learns_26 rfl ?_
    have k1 : μ2 273 13 = (D.length : Int) := (hf.2 13 (by decide)).trans hK.1
    have k2 : μ2 281 = μ 281 := hf.1 281 (by decide) (by decide)
    refine VW.aload_n dX8_learns_27 rfl ?_
    refine VW.getI dX8_learns_28 fa_X8_107 (by have := hm.1; omega) hm.2.1 rfl ?_
    refine VW.icmp_ge 56 ⟨by omega, by omega⟩ ⟨by omega, by omega⟩ dX8_learns_31 (by decide) (fun c31 => by omega) (fun c31 => ?_)
    refine VW.aload_n dX8_learns_34 rfl ?_
    refine VW.getR dX8_learns_35 fa_X8_7 (by have := hm.1; omega) hm.2.1 rfl ?_
    refine VW.iload_n dX8_learns_38 rfl ?_
    refine VW.iconst dX8_learns_39 ?_
    refine VW.iadd dX8_learns_40 ?_
    refine VW.iload_n dX8_learns_41 rfl ?_
    refine VW.iadd dX8_learns_42 ?_
    refine VW.aload_n dX8_learns_43 rfl ?_
    refine VW.getR dX8_learns_44 fa_X8_31 (by have := hm.1; omega) hm.2.1 rfl ?_
    refine VW.iload_n dX8_learns_47 rfl ?_
    refine VW.iaload dX8_learns_48 (by have := hm.1; omega) hm.2.2.2.2.2.2.2.2.2.1 (by omega) (by omega) (by decide) ?_
    rw [k2, hK.2 k (by omega)]
    refine VW.iastore dX8_learns_49 (by have := hm.1; omega) hm.2.2.1 (by omega) (by omega) (by decide) ?_
    refine VW.iinc (lv' := [(0, _), (1, _), (2, _)]) dX8_learns_50 rfl (by decide) rfl ?_
    refine VW.goto 26 dX8_learns_53 (by decide) ?_
    refine VW.sub ?_ [0, 1, 2] rfl
    refine ih (k + 1) (by omega) (by omega) _ (by rw [mup_k (by omega)]; exact h3) (fun j hj => ?_) (fun j a => by rw [mup_k (by omega)]; exact h5 j a) (hf.tr (frK_a (by decide)))
    by_cases e : j = k
    · rw [e, mup_s]
    · rw [mup_k (by omega)]; exact h4 j (by omega)
theorem t_learns (hst : l.stackTraces = false) (hm : isM N sh) (hz : zR (μ 274) xs ys C S) (ok : okS ((xs, ys), C, S)) (hK : hasK μ D) (hl : D.length ≤ 8 ∧ C.length < 10) : Zi G l N sh M_X8_learns [.ref (gB G + 273)] μ (fun r μ' => r = (C.length : Int) ∧ zR (μ' 274) xs ys (C ++ [D]) S ∧ frK [274] [] μ μ') := by
  refine Fx.of hst rfl (by decide +kernel) (Nat.le_of_ble_eq_true rfl) rfl ?_
  obtain ⟨⟨ok1, ok2, ok3, ok4⟩, ⟨ok5, ok6, ok7⟩, ok8⟩ := okS.un ok
  have z6 : μ 274 6 = (C.length : Int) := hz.2.2.1
  refine VW.bipush dX8_learns_0 rfl ?_
  refine VW.bipush dX8_learns_2 rfl ?_
  refine VW.aload_n dX8_learns_4 rfl ?_
  refine VW.getR dX8_learns_5 fa_X8_7 (by have := hm.1; omega) hm.2.1 rfl ?_
  refine VW.bipush dX8_learns_8 rfl ?_
  refine VW.iaload dX8_learns_10 (by have := hm.1; omega) hm.2.2.1 (by omega) (by omega) (by decide) ?_
  rw [show (6 : Int).toNat = 6 from rfl, z6]
  refine VW.imul dX8_learns_11 ?_
  refine VW.iadd dX8_learns_12 ?_
  refine VW.istore_n (lv' := [(0, _), (1, _)]) dX8_learns_13 (by decide) rfl ?_
  refine VW.aload_n dX8_learns_14 rfl ?_
  refine VW.getR dX8_learns_15 fa_X8_7 (by have := hm.1; omega) hm.2.1 rfl ?_
  refine VW.iload_n dX8_learns_18 rfl ?_
  refine VW.aload_n dX8_learns_19 rfl ?_
  refine VW.getI dX8_learns_20 fa_X8_107 (by have := hm.1; omega) hm.2.1 rfl ?_
  refine VW.iastore dX8_learns_23 (by have := hm.1; omega) hm.2.2.1 (by omega) (by omega) (by decide) ?_
  rw [hK.1, show (87 + 9 * (C.length : Int)).toNat = 87 + 9 * C.length by omega]
  refine VW.iconst dX8_learns_24 ?_
  refine VW.istore_n (lv' := [(0, _), (1, _), (2, _)]) dX8_learns_25 (by decide) rfl ?_
  exact lp_X8_ln hst hm hz ok hK hl D.length 0 (by omega) (by omega) _ (mup_s _ _ _ _) (fun j hj => by omega) (fun i a => mup_k (by omega)) (frK_a (by decide))
end PQ
