/-! ===== LatticeGestures: the calls that change ===== -/
def isG (N : Nat) (sh : Nat → ShT) : Prop := 273 ≤ N ∧ sh 0 = sO 7 [fR 1, fR 33, fR 227, fR 229, fR 245, fR 248, fR 253, fR 269, fR 271] ∧ isState N sh 1 ∧ isHist N sh 33 ∧ isRow N sh 227 60 ∧ isView N sh 229 ∧ isMeter N sh 245 ∧ isPath N sh 248 ∧ isView N sh 253 ∧ isRow N sh 269 5 ∧ isRow N sh 271 8
section PI0
variable {N : Nat} {sh : Nat → ShT}
theorem gLt (hg : isG N sh) : 0 < N := by have := hg.1; omega
theorem gSt (hg : isG N sh) : isState N sh 1 := hg.2.2.1
theorem gH (hg : isG N sh) : isHist N sh 33 := hg.2.2.2.1
theorem gBu (hg : isG N sh) : isRow N sh 227 60 := hg.2.2.2.2.1
theorem gV (hg : isG N sh) : isView N sh 229 := hg.2.2.2.2.2.1
theorem gM (hg : isG N sh) : isMeter N sh 245 := hg.2.2.2.2.2.2.1
theorem gPt (hg : isG N sh) : isPath N sh 248 := hg.2.2.2.2.2.2.2.1
theorem gV2 (hg : isG N sh) : isView N sh 253 := hg.2.2.2.2.2.2.2.2.1
theorem gS2 (hg : isG N sh) : isRow N sh 269 5 := hg.2.2.2.2.2.2.2.2.2.1
theorem gT2 (hg : isG N sh) : isRow N sh 271 8 := hg.2.2.2.2.2.2.2.2.2.2
theorem gSs (hg : isG N sh) : sh 1 = sO 5 [fR 2, fR 7, fR 31] := (gSt hg).2.1
theorem gSp (hg : isG N sh) : isPath N sh 2 := (gSt hg).2.2.1
theorem gSc (hg : isG N sh) : isCmds N sh 7 := (gSt hg).2.2.2.1
theorem gSr (hg : isG N sh) : isRow N sh 31 5 := (gSt hg).2.2.2.2
theorem gVs (hg : isG N sh) : sh 229 = sO 6 [fR 230, fR 233, fR 235, fR 237, fR 239, fR 241, fR 243, fI] := (gV hg).2.1
theorem gVm (hg : isG N sh) : isMeter N sh 230 := (gV hg).2.2.1
theorem gV1 (hg : isG N sh) : isRow N sh 233 40 := (gV hg).2.2.2.1
theorem gV22 (hg : isG N sh) : isRow N sh 235 40 := (gV hg).2.2.2.2.1
theorem gV3 (hg : isG N sh) : isRow N sh 237 40 := (gV hg).2.2.2.2.2.1
theorem gV4 (hg : isG N sh) : isRow N sh 239 40 := (gV hg).2.2.2.2.2.2.1
theorem gV5 (hg : isG N sh) : isRow N sh 241 10 := (gV hg).2.2.2.2.2.2.2.1
theorem gV6 (hg : isG N sh) : isRow N sh 243 10 := (gV hg).2.2.2.2.2.2.2.2
theorem gCs (hg : isG N sh) : sh 7 = sO 0 [fR 8, fR 29, fI] := (gSc hg).2.1
end PI0
section VNW
variable {G : GT} {l : Launch} {z : Option Nat} {M M' : MD} {pc idx : Nat} {lv : List (Nat × Value)} {rest : List Value} {w : WT} {k n : Nat} {Φ : RT → Prop} {N : Nat} {sh : Nat → ShT} {μ : Mem}
/-- throw new E(text) -/
theorem VW.throwSW {ik is ic : Nat} {E text : String} (hst : l.stackTraces = false) (xt : XT (mY M).cls ik ic E) (hstr : ((mY M).cls, is, text) ∈ eStr) (hh : mH M = []) (hf : 6 ≤ mF M) (ho : (rest.map fun v => v.category).sum + 82 ≤ mO M)
    (d0 : decode (mC M) pc = .ok (.new ik, 3)) (d3 : decode (mC M) (pc + 3) = .ok (.dup, 1)) (d4 : decode (mC M) (pc + 4) = .ok (.ldc_w is, 3)) (d6 : decode (mC M) (pc + 7) = .ok (.invokespecial ic, 3)) (d9 : decode (mC M) (pc + 10) = .ok (.athrow, 1))
    (hΦ : Φ (.inr E, w, k + 1, n + 6)) : VW G l z M pc lv rest w k n Φ :=
  ⟨_, hΦ, ⟨Nat.le_add_right _ _, Nat.le_add_right _ _⟩, fun p e R s m args below meth c H locs ls C hl hw hS => by
    obtain ⟨x1, x2, x3, x4, x5, x6, x7, x8⟩ := xt
    obtain ⟨a, ha⟩ := C.2.2.2.2.2.1.2.2.2.2.2.1 _ hstr
    have hat : ∀ w ∈ vx_atS (mY M).cls ic E xN, w.before args s = true := vx_hat (fun w hw => C.2.1 _ (x5 w hw)) x6 (vx_c (va_Nw.use rfl (C.2.2.2.2.2.1.2.2.2.2.2.2.2.2.1.1 _ x8)) (fun w hw => by obtain ⟨y, hy, rfl⟩ := List.mem_map.mp hw; exact va_Nw.use rfl (C.2.2.2.2.2.1.2.2.2.2.2.2.2.2.1.2 y hy)))
    exact vx_throwSW (names := xN) (text := text) (sa := a) (A := gA G) C.1.1 C.1.2.1 hst C.1.2.2.2.2 x1 x2 (C.2.1 _ x3) (C.2.1 _ x4) ha hat x7 C.2.2.2.2.2.1.2.2.2.1 C.2.2.2.2.2.1.2.2.2.2.1 hS (hl.1.trans C.1.2.2.1.symm) d0 d3 d4 d6 d9
      (fun x hx => by rw [C.2.2.2.2.1, hh] at hx; cases hx) (by have := C.2.2.1.2.1; show 2 + 3 < R.frames; omega) (by have := C.2.2.1.2.2.1; show _ + (13 * (2 + 1) + 43) ≤ R.locals; omega) C.2.2.1.2.2.2.1 C.2.2.1.2.2.2.2 C.2.2.1.1
      (fun t hvm hz hk => ⟨⟨rfl, va_P.kept hw (fun i q hq => hk _ (hw i q hq).lt)⟩, ⟨Nat.le_trans hS.1 hz, fun q h1 h2 => (hk q (Nat.lt_of_lt_of_le h1 hS.1)).trans (hS.2.1 q h1 h2)⟩⟩)
      hS.2.2 (Nat.le_refl _) (Nat.le_refl _)⟩
end VNW
def hasG0 (μ : Mem) (xs ys : List Int) (C : List (List Int)) (S : List Int) (Z : List St) (B : List Int) : Prop :=
  hasP μ 2 xs ys ∧ hasC μ 7 C ∧ hasRow μ 31 5 S ∧ hasH μ 33 Z ∧ hasRow μ 227 60 B ∧ ∃ tx ty, hasP μ 248 tx ty
def hasG (μ : Mem) (xs ys : List Int) (C : List (List Int)) (S : List Int) (Z : List St) (B : List Int) : Prop := hasG0 μ xs ys C S Z B ∧ hasV μ 229 xs ys C S
def hasA (μ : Mem) (A : AS) : Prop := hasG μ A.1.1.1 A.1.1.2 A.1.2.1 A.1.2.2 A.2.1 A.2.2
/-- how a call ends -/
def gPo (E : Int → String) (q : QS) (μ : Mem) : (Option Value ⊕ String) → Mem → Prop := fun r μ' => r = (if q.1.1 = 0 then .inl (some (vI q.1.2)) else .inr (E q.1.1)) ∧ hasA μ' q.2 ∧ frm μ μ' 0 273
def gLo (E : Int → String) (q : Int × Int) (A : AS) (μ : Mem) : (Option Value ⊕ String) → Mem → Prop := fun r μ' => r = (if q.1 = 0 then .inl (some (vI q.2)) else .inr (E q.1)) ∧ hasA μ' A ∧ frm μ μ' 0 273
abbrev xIA : String := "java/lang/IllegalArgumentException"
abbrev xIS : String := "java/lang/IllegalStateException"
abbrev xIO : String := "java/lang/IndexOutOfBoundsException"
def e12 : Int → String := fun k => if k = 1 then xIA else xIS
def eS1 : Int → String := fun _ => xIS
def eO1 : Int → String := fun _ => xIO
def eA1 : Int → String := fun _ => xIA
def eO2 : Int → String := fun k => if k = 1 then xIO else xIA
def eO3 : Int → String := fun k => if k = 1 then xIO else if k = 2 then xIA else xIS
section PI
variable {G : GT} {l : Launch} {N : Nat} {sh : Nat → ShT} {μ μ' : Mem} {xs ys xs' ys' S S' B B' : List Int} {C C' : List (List Int)} {Z Z' : List St} {E : Int → String} {q : QS} {q2 : Int × Int}
theorem gPo_x {k : Int} {s : String} (e : q = ((k, 0), mk xs ys C S Z B)) (h : hasG μ' xs ys C S Z B) (f : frm μ μ' 0 273) (hk : ¬ k = 0) (hE : E k = s) : gPo E q μ (.inr s) μ' := by
  subst e
  exact ⟨by rw [if_neg hk, hE], h, f⟩
theorem gPo_r {r : Int} (e : q = ((0, r), mk xs ys C S Z B)) (h : hasG μ' xs ys C S Z B) (f : frm μ μ' 0 273) : gPo E q μ (.inl (some (vI r))) μ' := by
  subst e
  exact ⟨by rw [if_pos rfl], h, f⟩
theorem gLo_x {k : Int} {s : String} (e : q2 = (k, 0)) (h : hasG μ' xs ys C S Z B) (f : frm μ μ' 0 273) (hk : ¬ k = 0) (hE : E k = s) : gLo E q2 (mk xs ys C S Z B) μ (.inr s) μ' := by
  subst e
  exact ⟨by rw [if_neg hk, hE], h, f⟩
theorem gLo_r {r : Int} (e : q2 = (0, r)) (h : hasG μ' xs ys C S Z B) (f : frm μ μ' 0 273) : gLo E q2 (mk xs ys C S Z B) μ (.inl (some (vI r))) μ' := by
  subst e
  exact ⟨by rw [if_pos rfl], h, f⟩
theorem bI0 {b : Bool} : bI b = 0 ↔ ¬ b = true := by cases b <;> simp [bI]
theorem bI_b (b : Bool) : 0 ≤ bI b ∧ bI b ≤ 1 := by cases b <;> simp [bI]
theorem hasG0.keep (h : hasG0 μ xs ys C S Z B) {lo hi : Nat} (f : frm μ μ' lo hi) (hl : 229 ≤ lo) (hh : hi ≤ 248 ∨ 253 ≤ lo) : hasG0 μ' xs ys C S Z B := by
  obtain ⟨a, b, c, d, e, tx, ty, g⟩ := h
  exact ⟨a.keep f (by omega), b.keep f (by omega), c.keep f (by omega), d.keep f (by omega), e.keep f (by omega), tx, ty, g.keep f (by omega)⟩
theorem hasG.keep (h : hasG μ xs ys C S Z B) {lo hi : Nat} (f : frm μ μ' lo hi) (hl : 245 ≤ lo) (hh : hi ≤ 248 ∨ 253 ≤ lo) : hasG μ' xs ys C S Z B := ⟨h.1.keep f (by omega) hh, h.2.keep f (by omega)⟩
theorem Zv.mono {M : MD} {av : List Value} {Ψ Ψ' : Mem → Prop} (h : Zv G l N sh M av μ Ψ) (f : ∀ μ', Ψ μ' → Ψ' μ') : Zv G l N sh M av μ Ψ' := Fx.mono h (by rintro o μ' ⟨v, rfl, rfl, h⟩; exact ⟨_, rfl, rfl, f _ h⟩)
theorem g_keep (hst : l.stackTraces = false) (hg : isG N sh) (h : hasG0 μ xs ys C S Z B) : Zv G l N sh M_X1_keep [.ref (gB G + 33), .ref (gB G + 1)] μ (fun μ' => hasG0 μ' xs ys C S (kp Z ((xs, ys), C, S)) B ∧ frm μ μ' 33 227) := by
  obtain ⟨a, b, c, d, e, tx, ty, g⟩ := h
  exact Zv.mono (h_keep hst (gH hg) (gSt hg) d (σ := ((xs, ys), C, S)) ⟨a, b, c⟩ (by omega)) fun μ' h => ⟨⟨a.keep h.2 (by omega), b.keep h.2 (by omega), c.keep h.2 (by omega), h.1, e.keep h.2 (by omega), tx, ty, g.keep h.2 (by omega)⟩, h.2⟩
theorem g_add (hst : l.stackTraces = false) (hg : isG N sh) (h : hasG0 μ xs ys C S Z B) {x y : Int} (hx : 0 ≤ x ∧ x ≤ 31) (hy : 0 ≤ y ∧ y ≤ 31) (hlt : xs.length < 41) : Zv G l N sh M_X3_add [.ref (gB G + 2), vI x, vI y] μ (fun μ' => hasG0 μ' (xs ++ [x]) (ys ++ [y]) C S Z B ∧ frm μ μ' 2 7) := by
  obtain ⟨a, b, c, d, e, tx, ty, g⟩ := h
  exact Zv.mono (p_add hst (gSp hg) a hlt hx hy) fun μ' h => ⟨⟨h.1, b.keep h.2 (by omega), c.keep h.2 (by omega), d.keep h.2 (by omega), e.keep h.2 (by omega), tx, ty, g.keep h.2 (by omega)⟩, h.2⟩
theorem g_cut (hst : l.stackTraces = false) (hg : isG N sh) (h : hasG0 μ xs ys C S Z B) {i : Int} (hi : R32 i) (h0 : 0 ≤ i) : Zv G l N sh M_X3_cut [.ref (gB G + 2), vI i] μ (fun μ' => hasG0 μ' (xs.take i.toNat) (ys.take i.toNat) C S Z B ∧ frm μ μ' 2 7) := by
  obtain ⟨a, b, c, d, e, tx, ty, g⟩ := h
  exact Zv.mono (p_cut hst (gSp hg) a hi h0) fun μ' h => ⟨⟨h.1, b.keep h.2 (by omega), c.keep h.2 (by omega), d.keep h.2 (by omega), e.keep h.2 (by omega), tx, ty, g.keep h.2 (by omega)⟩, h.2⟩
theorem g_pcopy (hst : l.stackTraces = false) (hg : isG N sh) (h : hasG0 μ xs ys C S Z B) (ht : hasP μ 248 xs' ys') : Zv G l N sh M_X3_copy [.ref (gB G + 2), .ref (gB G + 248)] μ (fun μ' => hasG0 μ' xs' ys' C S Z B ∧ frm μ μ' 2 7) := by
  obtain ⟨a, b, c, d, e, tx, ty, g⟩ := h
  exact Zv.mono (p_copy hst (gSp hg) (gPt hg) ht (by omega)) fun μ' h => ⟨⟨h.1, b.keep h.2 (by omega), c.keep h.2 (by omega), d.keep h.2 (by omega), e.keep h.2 (by omega), tx, ty, g.keep h.2 (by omega)⟩, h.2⟩
theorem g_cadd (hst : l.stackTraces = false) (hg : isG N sh) (h : hasG0 μ xs ys C S Z B) {r : Nat} {capb : Nat} {L : List Int} (hb : isRow N sh r capb) (hL : hasRow μ r capb L) (hl8 : L.length ≤ 8) (hlt : C.length < 10) (hd : 31 ≤ r) : Zv G l N sh M_X0_add [.ref (gB G + 7), .ref (gB G + r)] μ (fun μ' => hasG0 μ' xs ys (C ++ [L]) S Z B ∧ frm μ μ' 7 31) := by
  obtain ⟨a, b, c, d, e, tx, ty, g⟩ := h
  exact Zv.mono (c_add hst (gSc hg) b hlt hb hL hl8 (by omega)) fun μ' h => ⟨⟨a.keep h.2 (by omega), h.1, c.keep h.2 (by omega), d.keep h.2 (by omega), e.keep h.2 (by omega), tx, ty, g.keep h.2 (by omega)⟩, h.2⟩
theorem g_crem (hst : l.stackTraces = false) (hg : isG N sh) (h : hasG0 μ xs ys C S Z B) {p : Int} (h0 : 0 ≤ p ∧ p < C.length) : Zv G l N sh M_X0_remove [.ref (gB G + 7), vI p] μ (fun μ' => hasG0 μ' xs ys (C.eraseIdx p.toNat) S Z B ∧ frm μ μ' 7 31) := by
  obtain ⟨a, b, c, d, e, tx, ty, g⟩ := h
  exact Zv.mono (c_remove hst (gSc hg) b h0) fun μ' h => ⟨⟨a.keep h.2 (by omega), h.1, c.keep h.2 (by omega), d.keep h.2 (by omega), e.keep h.2 (by omega), tx, ty, g.keep h.2 (by omega)⟩, h.2⟩
theorem g_sput (hst : l.stackTraces = false) (hg : isG N sh) (h : hasG0 μ xs ys C S Z B) {i v : Int} (hi : 0 ≤ i ∧ i < S.length) : Zv G l N sh M_X4_put [.ref (gB G + 31), vI i, vI v] μ (fun μ' => hasG0 μ' xs ys C (S.set i.toNat v) Z B ∧ frm μ μ' 31 33) := by
  obtain ⟨a, b, c, d, e, tx, ty, g⟩ := h
  exact Zv.mono (r_put hst (gSr hg) c (by have := c.cap; exact ⟨by omega, by omega⟩) hi.1) fun μ' h => ⟨⟨a.keep h.2 (by omega), b.keep h.2 (by omega), h.1, d.keep (h.2.wid (by omega) (by omega) : frm μ μ' 31 33) (by omega), e.keep h.2 (by omega), tx, ty, g.keep h.2 (by omega)⟩, (h.2.wid (by omega) (by omega) : frm μ μ' 31 33)⟩
theorem g_look (hst : l.stackTraces = false) (hg : isG N sh) (h : hasG0 μ xs ys C S Z B) (hw : wfS S) (hCb : ∀ L ∈ C, bnd L 0 7) : Zv G l N sh M_X6_look [.ref (gB G + 229), .ref (gB G + 2), .ref (gB G + 1)] μ (fun μ' => hasG μ' xs ys C S Z B ∧ frm μ μ' 229 245) :=
  Zv.mono (v_look hst (gV hg) (gSp hg) (gSt hg) h.1 h.2.1 h.2.2.1 hw hCb (by omega) (by omega)) fun μ' h' => ⟨⟨h.keep h'.2 (by omega) (by omega), h'.1⟩, h'.2⟩
theorem okA.un (h : okA (mk xs ys C S Z B)) : ((ys.length = xs.length ∧ xs.length ≤ 40 ∧ bnd xs 0 31 ∧ bnd ys 0 31) ∧ (C.length ≤ 10 ∧ (∀ L ∈ C, L.length ≤ 8 ∧ bnd L 0 7) ∧ C.Nodup) ∧ wfS S) ∧ (Z.length ≤ 6 ∧ ∀ τ ∈ Z, okS τ) ∧ B.length ≤ 60 ∧ bnd B 33 126 := h
theorem g_lookAgain (hst : l.stackTraces = false) (hg : isG N sh) (h0 : hasG0 μ xs ys C S Z B) (hw : wfS S) (hCb : ∀ L ∈ C, bnd L 0 7) : Zv G l N sh M_X7_lookAgain [.ref (gB G + 0)] μ (fun μ' => hasG μ' xs ys C S Z B ∧ frm μ μ' 229 245) := by
  refine Fx.of hst rfl (by decide +kernel) (Nat.le_of_ble_eq_true rfl) rfl ?_
  refine VW.aload_n dX7_lookAgain_0 rfl ?_
  refine VW.getR dX7_lookAgain_1 fa_X7_35 (gLt hg) hg.2.1 rfl ?_
  refine VW.aload_n dX7_lookAgain_4 rfl ?_
  refine VW.getR dX7_lookAgain_5 fa_X7_10 (gLt hg) hg.2.1 rfl ?_
  refine VW.getR dX7_lookAgain_8 fa_X7_73 (by have := hg.1; omega) (gSs hg) rfl ?_
  refine VW.aload_n dX7_lookAgain_11 rfl ?_
  refine VW.getR dX7_lookAgain_12 fa_X7_10 (gLt hg) hg.2.1 rfl ?_
  refine VW.fvV2 cv_X7_lookAgain_X6_look dX7_lookAgain_15 (Nat.le_of_ble_eq_true rfl) (by have := hg.1; omega) (gVs hg) (g_look hst hg h0 hw hCb) (fun μ1 h1 => ?_)
  refine VW.vreturn dX7_lookAgain_18 rfl ?_
  refine fxP.vv ?_
  exact h1
theorem g_isCommand (hst : l.stackTraces = false) (hg : isG N sh) (hC : hasC μ 7 C) {i : Int} (hi : R32 i) : Zi G l N sh M_X7_isCommand [.ref (gB G + 0), vI i] μ (fun r μ' => r = bI (decide (0 ≤ i ∧ i < C.length)) ∧ μ' = μ) := by
  refine Fx.of hst rfl (by decide +kernel) (Nat.le_of_ble_eq_true rfl) rfl ?_
  have hC10 := hC.2.2.1
  refine VW.iload_n dX7_isCommand_0 rfl ?_
  refine VW.if_lt 22 ⟨by omega, by omega⟩ dX7_isCommand_1 (by decide) (fun c1 => ?_) (fun c1 => ?_)
  · refine VW.iconst dX7_isCommand_22 ?_
    refine VW.ireturn dX7_isCommand_23 rfl rfl ?_
    refine fxP.ii ⟨?_, rfl⟩
    unfold bI
    first | (rw [if_pos (by rw [decide_eq_true_eq]; omega)]; done) | (rw [if_neg (by rw [decide_eq_true_eq]; omega)]; done)
  · refine VW.iload_n dX7_isCommand_4 rfl ?_
    refine VW.aload_n dX7_isCommand_5 rfl ?_
    refine VW.getR dX7_isCommand_6 fa_X7_10 (gLt hg) hg.2.1 rfl ?_
    refine VW.getR dX7_isCommand_9 fa_X7_151 (by have := hg.1; omega) (gSs hg) rfl ?_
    refine VW.pV0 cv_X7_isCommand_X0_held dX7_isCommand_12 (Nat.le_of_ble_eq_true rfl) (gSc hg).1 (gSc hg).2.1 (c_held hst (gSc hg) hC) ?_
    refine VW.icmp_ge 22 ⟨by omega, by omega⟩ ⟨by omega, by omega⟩ dX7_isCommand_15 (by decide) (fun c15 => ?_) (fun c15 => ?_)
    · refine VW.iconst dX7_isCommand_22 ?_
      refine VW.ireturn dX7_isCommand_23 rfl rfl ?_
      refine fxP.ii ⟨?_, rfl⟩
      unfold bI
      first | (rw [if_pos (by rw [decide_eq_true_eq]; omega)]; done) | (rw [if_neg (by rw [decide_eq_true_eq]; omega)]; done)
    · refine VW.iconst dX7_isCommand_18 ?_
      refine VW.goto 23 dX7_isCommand_19 (by decide) ?_
      refine VW.ireturn dX7_isCommand_23 rfl rfl ?_
      refine fxP.ii ⟨?_, rfl⟩
      unfold bI
      first | (rw [if_pos (by rw [decide_eq_true_eq]; omega)]; done) | (rw [if_neg (by rw [decide_eq_true_eq]; omega)]; done)
theorem g_point (hst : l.stackTraces = false) (hg : isG N sh) (h : hasG μ xs ys C S Z B) (ok : okA (mk xs ys C S Z B)) {x y : Int} (hx : R32 x) (hy : R32 y) : Fx G l N sh M_X7_point [.ref (gB G + 0), vI x, vI y] μ (gPo e12 (opPoint xs ys C S Z B x y) μ) := by
  refine Fx.of hst rfl (by decide +kernel) (Nat.le_of_ble_eq_true rfl) rfl ?_
  obtain ⟨⟨⟨ok1, ok2, ok3, ok4⟩, ⟨ok5, ok6, ok7⟩, ok8⟩, ⟨ok9, ok10⟩, ok11, ok12⟩ := okA.un ok
  obtain ⟨h0, hv⟩ := id h
  obtain ⟨hP, hC, hS, hZ, hB, tx, ty, hT⟩ := id h0
  have okC : ∀ L ∈ C, bnd L 0 7 := fun L hL => (ok6 L hL).2
  have onb : onLat x y = true → (0 ≤ x ∧ x ≤ 31) ∧ (0 ≤ y ∧ y ≤ 31) := fun q => by unfold onLat at q; rw [decide_eq_true_eq] at q; omega
  refine VW.iload_n dX7_point_0 rfl ?_
  refine VW.iload_n dX7_point_1 rfl ?_
  refine VW.pS2 cs_X7_point_X7_isOnLattice dX7_point_2 (Nat.le_of_ble_eq_true rfl) (s_X7_isOnLattice hst hx hy) ?_
  refine VW.if_ne 18 ⟨by have := bI_b (onLat x y); omega, by have := bI_b (onLat x y); omega⟩ dX7_point_5 (by decide) (fun c5 => ?_) (fun c5 => ?_)
  · refine VW.aload_n dX7_point_18 rfl ?_
    refine VW.getR dX7_point_19 fa_X7_10 (gLt hg) hg.2.1 rfl ?_
    refine VW.getR dX7_point_22 fa_X7_73 (by have := hg.1; omega) (gSs hg) rfl ?_
    refine VW.pV0 cv_X7_point_X3_held dX7_point_25 (Nat.le_of_ble_eq_true rfl) (gSp hg).1 (gSp hg).2.1 (s_X3_held hst (gSp hg)) ?_
    have hPl := hP.1.len
    refine VW.bipush dX7_point_28 rfl ?_
    refine VW.icmp_lt 43 ⟨by omega, by omega⟩ ⟨by omega, by omega⟩ dX7_point_30 (by decide) (fun c30 => ?_) (fun c30 => ?_)
    · refine VW.aload_n dX7_point_43 rfl ?_
      refine VW.getR dX7_point_44 fa_X7_19 (gLt hg) hg.2.1 rfl ?_
      refine VW.aload_n dX7_point_47 rfl ?_
      refine VW.getR dX7_point_48 fa_X7_10 (gLt hg) hg.2.1 rfl ?_
      refine VW.fvV1 cv_X7_point_X1_keep dX7_point_51 (Nat.le_of_ble_eq_true rfl) (gH hg).1 (gH hg).2.1 (g_keep hst hg h0) (fun μ1 h1 => ?_)
      refine VW.aload_n dX7_point_54 rfl ?_
      refine VW.getR dX7_point_55 fa_X7_10 (gLt hg) hg.2.1 rfl ?_
      refine VW.getR dX7_point_58 fa_X7_73 (by have := hg.1; omega) (gSs hg) rfl ?_
      refine VW.iload_n dX7_point_61 rfl ?_
      refine VW.iload_n dX7_point_62 rfl ?_
      refine VW.fvV2 cv_X7_point_X3_add dX7_point_63 (Nat.le_of_ble_eq_true rfl) (gSp hg).1 (gSp hg).2.1 (g_add hst hg h1.1 (onb (by simpa [bI0] using c5)).1 (onb (by simpa [bI0] using c5)).2 (by omega)) (fun μ2 h2 => ?_)
      refine VW.aload_n dX7_point_66 rfl ?_
      refine VW.fvV0 cv_X7_point_X7_lookAgain dX7_point_67 (Nat.le_of_ble_eq_true rfl) (gLt hg) hg.2.1 (g_lookAgain hst hg h2.1 ok8 okC) (fun μ3 h3 => ?_)
      refine VW.aload_n dX7_point_70 rfl ?_
      refine VW.getR dX7_point_71 fa_X7_10 (gLt hg) hg.2.1 rfl ?_
      refine VW.getR dX7_point_74 fa_X7_73 (by have := hg.1; omega) (gSs hg) rfl ?_
      refine VW.pV0 cv_X7_point_X3_held dX7_point_77 (Nat.le_of_ble_eq_true rfl) (gSp hg).1 (gSp hg).2.1 (s_X3_held hst (gSp hg)) ?_
      refine VW.ireturn dX7_point_80 rfl rfl ?_
      have hl := h3.1.1.1.1.len
      rw [hl, List.length_append]
      refine fxP.r (gPo_r (xs := xs ++ [x]) ((if_neg (by simpa [bI0] using c5)).trans ((if_neg (by omega)).trans ?_)) h3.1 (((h1.2.wid (by omega) (by omega)).tr (h2.2.wid (by omega) (by omega))).tr (h3.2.wid (by omega) (by omega))))
      simp
    · refine VW.throwS (text := "there are 40 points") hst xt_X7_80 (by decide +kernel) rfl (by decide) (by decide) dX7_point_33 dX7_point_36 dX7_point_37 dX7_point_39 dX7_point_42 ?_
      exact fxP.x (gPo_x ((if_neg (by simpa [bI0] using c5)).trans (if_pos (by omega))) h frm.rf (by decide) rfl)
  · refine VW.throwS (text := "a coordinate is not 0 to 31") hst xt_X7_66 (by decide +kernel) rfl (by decide) (by decide) dX7_point_8 dX7_point_11 dX7_point_12 dX7_point_14 dX7_point_17 ?_
    exact fxP.x (gPo_x (if_pos (by simpa [bI0] using c5)) h frm.rf (by decide) rfl)
theorem p_held (hst : l.stackTraces = false) {p : Nat} (hp : isPath N sh p) (hP : hasP μ p xs ys) : Zi G l N sh M_X3_held [.ref (gB G + p)] μ (fun r μ' => r = (xs.length : Int) ∧ μ' = μ) := by
  have h := s_X3_held (G := G) (μ := μ) hst hp
  rw [hP.1.len] at h
  exact h
theorem p_x (hst : l.stackTraces = false) {p : Nat} (hp : isPath N sh p) (hP : hasP μ p xs ys) {i : Int} (hi : R32 i) : Zi G l N sh M_X3_x [.ref (gB G + p), vI i] μ (fun r μ' => r = rat xs i ∧ μ' = μ) := by
  have h := s_X3_x (G := G) (μ := μ) hst hp hP.wf hi
  rw [hP.1.2] at h
  exact h
theorem p_y (hst : l.stackTraces = false) {p : Nat} (hp : isPath N sh p) (hP : hasP μ p xs ys) {i : Int} (hi : R32 i) : Zi G l N sh M_X3_y [.ref (gB G + p), vI i] μ (fun r μ' => r = rat ys i ∧ μ' = μ) := by
  have h := s_X3_y (G := G) (μ := μ) hst hp hP.wf hi
  rw [hP.2.1.2] at h
  exact h
theorem p_dir (hst : l.stackTraces = false) {p : Nat} (hp : isPath N sh p) (hP : hasP μ p xs ys) {i : Int} (hi : -10000 ≤ i ∧ i ≤ 10000) : Zi G l N sh M_X3_directionTo [.ref (gB G + p), vI i] μ (fun r μ' => r = sDir xs ys i ∧ μ' = μ) := by
  have h := s_X3_directionTo (G := G) (μ := μ) hst hp hP.wf hi
  rw [hP.1.2, hP.2.1.2] at h
  exact h
theorem p_len (hst : l.stackTraces = false) {p : Nat} (hp : isPath N sh p) (hP : hasP μ p xs ys) {i : Int} (hi : -10000 ≤ i ∧ i ≤ 10000) : Zi G l N sh M_X3_lengthTo [.ref (gB G + p), vI i] μ (fun r μ' => r = sLen xs ys i ∧ μ' = μ) := by
  have h := s_X3_lengthTo (G := G) (μ := μ) hst hp hP.wf hi
  rw [hP.1.2, hP.2.1.2] at h
  exact h
theorem stepW_on {x dx j : Int} (hx : 0 ≤ x ∧ x ≤ 31) (hd : -1 ≤ dx ∧ dx ≤ 1) (hj : 0 ≤ j ∧ j ≤ stepsW x dx) : 0 ≤ x + j * dx ∧ x + j * dx ≤ 31 := by
  unfold stepsW at hj
  rcases (by omega : dx = -1 ∨ dx = 0 ∨ dx = 1) with rfl | rfl | rfl
  · rw [if_neg (by decide), if_neg (by decide)] at hj; omega
  · omega
  · rw [if_neg (by decide), if_pos (by decide)] at hj; omega
theorem stepW_b {x dx : Int} (hx : 0 ≤ x ∧ x ≤ 31) : 0 ≤ stepsW x dx ∧ stepsW x dx ≤ 31 := by
  unfold stepsW
  split
  · omega
  · split <;> omega
theorem goL_s (x dx : Int) (k : Nat) : goL x dx (k + 1) = goL x dx k ++ [x + ((k : Int) + 1) * dx] := by unfold goL; rw [List.range_succ, List.map_append]; rfl
theorem goL_len (x dx : Int) (k : Nat) : (goL x dx k).length = k := by simp [goL]
theorem last_b {L : List Int} (h : bnd L 0 31) : 0 ≤ lastOf L ∧ lastOf L ≤ 31 := by
  unfold lastOf
  split
  · omega
  · have := rat_b h (i := (L.length : Int) - 1) (by omega) (by omega); omega
theorem lp_X7_go (hst : l.stackTraces = false) (hg : isG N sh) (hw : wfS S) (hCb : ∀ L ∈ C, bnd L 0 7) {x0 y0 dx dy : Int} {m : Nat} (hx : 0 ≤ x0 ∧ x0 ≤ 31) (hy : 0 ≤ y0 ∧ y0 ≤ 31) (hdx : -1 ≤ dx ∧ dx ≤ 1) (hdy : -1 ≤ dy ∧ dy ≤ 1) (hm : (m : Int) ≤ stepsW x0 dx ∧ (m : Int) ≤ stepsW y0 dy ∧ m ≤ 31) (hX : xs.length + m ≤ 40)
    (e : q = ((0, (m : Int)), mk (xs ++ goL x0 dx m) (ys ++ goL y0 dy m) C S Z B)) : ∀ (n : Nat) (k : Nat), k + n = m → ∀ μ2 : Mem, hasG0 μ2 (xs ++ goL x0 dx k) (ys ++ goL y0 dy k) C S Z B → frm μ μ2 0 273 → VW G l none M_X7_go 193 [(0, .ref (gB G + 0)), (3, .ref (gB G + 2)), (5, vI x0), (6, vI y0), (7, vI dx), (8, vI dy), (9, vI m), (10, vI ((k : Int) + 1))] [] (N, sh, μ2) 0 0 (fxP N sh (gPo E q μ)) := by
  intro n
  induction n with
  | zero =>
    intro k h1 μ2 hG hf
    refine VW.iload dX7_go_193 rfl ?_
    refine VW.iload dX7_go_195 rfl ?_
    refine VW.icmp_gt 226 ⟨by omega, by omega⟩ ⟨by omega, by omega⟩ dX7_go_197 (by decide) (fun c197 => ?_) (fun c197 => by omega)
    refine VW.aload_n dX7_go_226 rfl ?_
    refine VW.fvV0 cv_X7_go_X7_lookAgain dX7_go_227 (Nat.le_of_ble_eq_true rfl) (gLt hg) hg.2.1 (g_lookAgain hst hg hG hw hCb) (fun μ3 h3 => ?_)
    refine VW.iload dX7_go_230 rfl ?_
    refine VW.ireturn dX7_go_232 rfl rfl ?_
    obtain rfl : k = m := by omega
    exact fxP.r (gPo_r e h3.1 (hf.tr (h3.2.wid (by omega) (by omega))))
  | succ n ih =>
    intro k hk μ2 hG hf
    refine VW.iload dX7_go_193 rfl ?_
    refine VW.iload dX7_go_195 rfl ?_
    refine VW.icmp_gt 226 ⟨by omega, by omega⟩ ⟨by omega, by omega⟩ dX7_go_197 (by decide) (fun c197 => by omega) (fun c197 => ?_)
    refine VW.aload_n dX7_go_200 rfl ?_
    refine VW.iload dX7_go_201 rfl ?_
    refine VW.iload dX7_go_203 rfl ?_
    refine VW.iload dX7_go_205 rfl ?_
    refine VW.imul dX7_go_207 ?_
    refine VW.iadd dX7_go_208 ?_
    refine VW.iload dX7_go_209 rfl ?_
    refine VW.iload dX7_go_211 rfl ?_
    refine VW.iload dX7_go_213 rfl ?_
    refine VW.imul dX7_go_215 ?_
    refine VW.iadd dX7_go_216 ?_
    refine VW.fvV2 cv_X7_go_X3_add dX7_go_217 (Nat.le_of_ble_eq_true rfl) (gSp hg).1 (gSp hg).2.1 (g_add hst hg hG (stepW_on (j := (k : Int) + 1) hx hdx ⟨by omega, by omega⟩) (stepW_on (j := (k : Int) + 1) hy hdy ⟨by omega, by omega⟩) (by rw [List.length_append, goL_len]; omega)) (fun μ3 h3 => ?_)
    refine VW.iinc (lv' := [(0, _), (3, _), (5, _), (6, _), (7, _), (8, _), (9, _), (10, _)]) dX7_go_220 rfl (by decide) rfl ?_
    refine VW.goto 193 dX7_go_223 (by decide) ?_
    rw [List.append_assoc, List.append_assoc, ← goL_s, ← goL_s] at h3
    rw [show (k : Int) + 1 + 1 = ((k + 1 : Nat) : Int) + 1 by omega]
    exact ih (k + 1) (by omega) μ3 h3.1 (hf.tr (h3.2.wid (by omega) (by omega)))
theorem go_tail (hst : l.stackTraces = false) (hg : isG N sh) (h : hasG μ xs ys C S Z B) (ok : okA (mk xs ys C S Z B)) {d many : Int} (hd : 0 ≤ d ∧ d < 8) (hmany : 1 ≤ many ∧ many ≤ 31) {em : Int} (hem : em = if xs.length = 0 then 1 else 0) : VW G l none M_X7_go 92 [(0, .ref (gB G + 0)), (1, vI d), (2, vI many), (3, .ref (gB G + 2)), (4, vI em), (5, vI (lastOf xs)), (6, vI (lastOf ys))] [] (N, sh, μ) 0 0 (fxP N sh (gPo e12 (opGo xs ys C S Z B d many) μ)) := by
  obtain ⟨⟨⟨ok1, ok2, ok3, ok4⟩, ⟨ok5, ok6, ok7⟩, ok8⟩, ⟨ok9, ok10⟩, ok11, ok12⟩ := okA.un ok
  obtain ⟨h0, hv⟩ := id h
  obtain ⟨hP, hC, hS, hZ, hB, tx, ty, hT⟩ := id h0
  have okC : ∀ L ∈ C, bnd L 0 7 := fun L hL => (ok6 L hL).2
  have ht3 := tbo_b 3 (by decide) d
  have ht4 := tbo_b 4 (by decide) d
  have hlx := last_b ok3
  have hly := last_b ok4
  have hbx := stepW_b (dx := tbo 3 d) hlx
  have hby := stepW_b (dx := tbo 4 d) hly
  have hem2 : 0 ≤ em ∧ em ≤ 1 := by rw [hem]; split <;> omega
  have hgl : ((goB xs).length : Int) = xs.length + em := by
    unfold goB
    rw [hem]
    split
    · simp; omega
    · simp
  have hgn : min many (min (stepsW (lastOf xs) (tbo 3 d)) (stepsW (lastOf ys) (tbo 4 d))) = goN xs ys d many := rfl
  have hd32 : R32 d := ⟨by omega, by omega⟩
  refine VW.gets dX7_go_92 ta_X7_109 ?_
  refine VW.iload_n dX7_go_95 rfl ?_
  refine VW.pS2 cs_X7_go_X7_of dX7_go_96 (Nat.le_of_ble_eq_true rfl) (s_X7_of hst (t := 3) (by decide) hd32) ?_
  refine VW.istore (lv' := [(0, _), (1, _), (2, _), (3, _), (4, _), (5, _), (6, _), (7, _)]) dX7_go_99 (by decide) rfl ?_
  refine VW.gets dX7_go_101 ta_X7_117 ?_
  refine VW.iload_n dX7_go_104 rfl ?_
  refine VW.pS2 cs_X7_go_X7_of dX7_go_105 (Nat.le_of_ble_eq_true rfl) (s_X7_of hst (t := 4) (by decide) hd32) ?_
  refine VW.istore (lv' := [(0, _), (1, _), (2, _), (3, _), (4, _), (5, _), (6, _), (7, _), (8, _)]) dX7_go_108 (by decide) rfl ?_
  refine VW.iload_n dX7_go_110 rfl ?_
  refine VW.iload dX7_go_111 rfl ?_
  refine VW.iload dX7_go_113 rfl ?_
  refine VW.pS2 cs_X7_go_X7_stepsWithin dX7_go_115 (Nat.le_of_ble_eq_true rfl) (s_X7_stepsWithin hst ⟨by omega, by omega⟩ ⟨by omega, by omega⟩) ?_
  refine VW.iload dX7_go_118 rfl ?_
  refine VW.iload dX7_go_120 rfl ?_
  refine VW.pS2 cs_X7_go_X7_stepsWithin dX7_go_122 (Nat.le_of_ble_eq_true rfl) (s_X7_stepsWithin hst ⟨by omega, by omega⟩ ⟨by omega, by omega⟩) ?_
  refine VW.mmin dX7_go_125 ⟨by omega, by omega⟩ ⟨by omega, by omega⟩ wd_399 (by decide) (Nat.le_of_ble_eq_true rfl) ?_
  refine VW.mmin dX7_go_128 ⟨by omega, by omega⟩ ⟨by omega, by omega⟩ wd_399 (by decide) (Nat.le_of_ble_eq_true rfl) ?_
  rw [hgn]
  obtain ⟨m, hm⟩ : ∃ m : Nat, goN xs ys d many = (m : Int) := ⟨(goN xs ys d many).toNat, by omega⟩
  rw [hm] at hgn ⊢
  refine VW.istore (lv' := [(0, _), (1, _), (2, _), (3, _), (4, _), (5, _), (6, _), (7, _), (8, _), (9, _)]) dX7_go_131 (by decide) rfl ?_
  refine VW.aload_n dX7_go_133 rfl ?_
  refine VW.pV0 cv_X7_go_X3_held dX7_go_134 (Nat.le_of_ble_eq_true rfl) (gSp hg).1 (gSp hg).2.1 (p_held hst (gSp hg) hP) ?_
  refine VW.iload dX7_go_137 rfl ?_
  refine VW.if_eq 146 ⟨by omega, by omega⟩ dX7_go_139 (by decide) (fun c139 => ?_) (fun c139 => ?_)
  · refine VW.iconst dX7_go_146 ?_
    refine VW.iadd dX7_go_147 ?_
    refine VW.iload dX7_go_148 rfl ?_
    refine VW.iadd dX7_go_150 ?_
    refine VW.bipush dX7_go_151 rfl ?_
    refine VW.icmp_le 166 ⟨by omega, by omega⟩ ⟨by omega, by omega⟩ dX7_go_153 (by decide) (fun c153 => ?_) (fun c153 => ?_)
    · refine VW.aload_n dX7_go_166 rfl ?_
      refine VW.getR dX7_go_167 fa_X7_19 (gLt hg) hg.2.1 rfl ?_
      refine VW.aload_n dX7_go_170 rfl ?_
      refine VW.getR dX7_go_171 fa_X7_10 (gLt hg) hg.2.1 rfl ?_
      refine VW.fvV1 cv_X7_go_X1_keep dX7_go_174 (Nat.le_of_ble_eq_true rfl) (gH hg).1 (gH hg).2.1 (g_keep hst hg h0) (fun μ1 h1 => ?_)
      refine VW.iload dX7_go_177 rfl ?_
      refine VW.if_eq 190 ⟨by omega, by omega⟩ dX7_go_179 (by decide) (fun c179 => ?_) (fun c179 => ?_)
      · refine VW.iconst dX7_go_190 ?_
        refine VW.istore (lv' := [(0, _), (1, _), (2, _), (3, _), (4, _), (5, _), (6, _), (7, _), (8, _), (9, _), (10, _)]) dX7_go_191 (by decide) rfl ?_
        refine VW.sub ?_ [0, 3, 5, 6, 7, 8, 9, 10] rfl
        have hq : opGo xs ys C S Z B d many = ((0, (m : Int)), mk2 (goB xs ++ goL (lastOf xs) (tbo 3 d) m) (goB ys ++ goL (lastOf ys) (tbo 4 d) m) C S xs ys C S Z B) := by
          refine (if_neg (by omega)).trans ((if_neg (by rw [hm]; omega)).trans ?_)
          rw [hm]
          rfl
        first
        | (have e0 : xs.length = 0 := by
             by_cases e0 : xs.length = 0
             · exact e0
             · rw [if_neg e0] at hem; omega
           have eb : goB xs = xs ++ [lastOf xs] ∧ goB ys = ys ++ [lastOf ys] := by
             obtain rfl : xs = [] := List.eq_nil_of_length_eq_zero e0
             obtain rfl : ys = [] := List.eq_nil_of_length_eq_zero (by rw [ok1]; rfl)
             exact ⟨rfl, rfl⟩
           rw [eb.1, eb.2] at hq
           refine lp_X7_go hst hg ok8 okC hlx hly ht3 ht4 ⟨by omega, by omega, by omega⟩ (by simp; omega) hq m 0 (by omega) μ2 ?_ ((h1.2.wid (by omega) (by omega)).tr (h2.2.wid (by omega) (by omega)))
           simpa [goL] using h2.1)
        | (have e0 : ¬ xs.length = 0 := by
             intro e0
             rw [if_pos e0] at hem; omega
           have eb : goB xs = xs ∧ goB ys = ys := ⟨if_neg e0, if_neg (by omega)⟩
           rw [eb.1, eb.2] at hq
           refine lp_X7_go hst hg ok8 okC hlx hly ht3 ht4 ⟨by omega, by omega, by omega⟩ (by omega) hq m 0 (by omega) μ1 ?_ (h1.2.wid (by omega) (by omega))
           simpa [goL] using h1.1)
      · refine VW.aload_n dX7_go_182 rfl ?_
        refine VW.iload dX7_go_183 rfl ?_
        refine VW.iload dX7_go_185 rfl ?_
        refine VW.fvV2 cv_X7_go_X3_add dX7_go_187 (Nat.le_of_ble_eq_true rfl) (gSp hg).1 (gSp hg).2.1 (g_add hst hg h1.1 (x := lastOf xs) (y := lastOf ys) hlx hly (by omega)) (fun μ2 h2 => ?_)
        refine VW.iconst dX7_go_190 ?_
        refine VW.istore (lv' := [(0, _), (1, _), (2, _), (3, _), (4, _), (5, _), (6, _), (7, _), (8, _), (9, _), (10, _)]) dX7_go_191 (by decide) rfl ?_
        refine VW.sub ?_ [0, 3, 5, 6, 7, 8, 9, 10] rfl
        have hq : opGo xs ys C S Z B d many = ((0, (m : Int)), mk2 (goB xs ++ goL (lastOf xs) (tbo 3 d) m) (goB ys ++ goL (lastOf ys) (tbo 4 d) m) C S xs ys C S Z B) := by
          refine (if_neg (by omega)).trans ((if_neg (by rw [hm]; omega)).trans ?_)
          rw [hm]
          rfl
        first
        | (have e0 : xs.length = 0 := by
             by_cases e0 : xs.length = 0
             · exact e0
             · rw [if_neg e0] at hem; omega
           have eb : goB xs = xs ++ [lastOf xs] ∧ goB ys = ys ++ [lastOf ys] := by
             obtain rfl : xs = [] := List.eq_nil_of_length_eq_zero e0
             obtain rfl : ys = [] := List.eq_nil_of_length_eq_zero (by rw [ok1]; rfl)
             exact ⟨rfl, rfl⟩
           rw [eb.1, eb.2] at hq
           refine lp_X7_go hst hg ok8 okC hlx hly ht3 ht4 ⟨by omega, by omega, by omega⟩ (by simp; omega) hq m 0 (by omega) μ2 ?_ ((h1.2.wid (by omega) (by omega)).tr (h2.2.wid (by omega) (by omega)))
           simpa [goL] using h2.1)
        | (have e0 : ¬ xs.length = 0 := by
             intro e0
             rw [if_pos e0] at hem; omega
           have eb : goB xs = xs ∧ goB ys = ys := ⟨if_neg e0, if_neg (by omega)⟩
           rw [eb.1, eb.2] at hq
           refine lp_X7_go hst hg ok8 okC hlx hly ht3 ht4 ⟨by omega, by omega, by omega⟩ (by omega) hq m 0 (by omega) μ1 ?_ (h1.2.wid (by omega) (by omega))
           simpa [goL] using h1.1)
    · refine VW.throwS (text := "there would be more than 40 points") hst xt_X7_80 (by decide +kernel) rfl (by decide) (by decide) dX7_go_156 dX7_go_159 dX7_go_160 dX7_go_162 dX7_go_165 ?_
      exact fxP.x (gPo_x ((if_neg (by omega)).trans (if_pos (by rw [hm]; omega))) h frm.rf (by decide) rfl)
  · refine VW.iconst dX7_go_142 ?_
    refine VW.goto 147 dX7_go_143 (by decide) ?_
    refine VW.iadd dX7_go_147 ?_
    refine VW.iload dX7_go_148 rfl ?_
    refine VW.iadd dX7_go_150 ?_
    refine VW.bipush dX7_go_151 rfl ?_
    refine VW.icmp_le 166 ⟨by omega, by omega⟩ ⟨by omega, by omega⟩ dX7_go_153 (by decide) (fun c153 => ?_) (fun c153 => ?_)
    · refine VW.aload_n dX7_go_166 rfl ?_
      refine VW.getR dX7_go_167 fa_X7_19 (gLt hg) hg.2.1 rfl ?_
      refine VW.aload_n dX7_go_170 rfl ?_
      refine VW.getR dX7_go_171 fa_X7_10 (gLt hg) hg.2.1 rfl ?_
      refine VW.fvV1 cv_X7_go_X1_keep dX7_go_174 (Nat.le_of_ble_eq_true rfl) (gH hg).1 (gH hg).2.1 (g_keep hst hg h0) (fun μ1 h1 => ?_)
      refine VW.iload dX7_go_177 rfl ?_
      refine VW.if_eq 190 ⟨by omega, by omega⟩ dX7_go_179 (by decide) (fun c179 => ?_) (fun c179 => ?_)
      · refine VW.iconst dX7_go_190 ?_
        refine VW.istore (lv' := [(0, _), (1, _), (2, _), (3, _), (4, _), (5, _), (6, _), (7, _), (8, _), (9, _), (10, _)]) dX7_go_191 (by decide) rfl ?_
        refine VW.sub ?_ [0, 3, 5, 6, 7, 8, 9, 10] rfl
        have hq : opGo xs ys C S Z B d many = ((0, (m : Int)), mk2 (goB xs ++ goL (lastOf xs) (tbo 3 d) m) (goB ys ++ goL (lastOf ys) (tbo 4 d) m) C S xs ys C S Z B) := by
          refine (if_neg (by omega)).trans ((if_neg (by rw [hm]; omega)).trans ?_)
          rw [hm]
          rfl
        first
        | (have e0 : xs.length = 0 := by
             by_cases e0 : xs.length = 0
             · exact e0
             · rw [if_neg e0] at hem; omega
           have eb : goB xs = xs ++ [lastOf xs] ∧ goB ys = ys ++ [lastOf ys] := by
             obtain rfl : xs = [] := List.eq_nil_of_length_eq_zero e0
             obtain rfl : ys = [] := List.eq_nil_of_length_eq_zero (by rw [ok1]; rfl)
             exact ⟨rfl, rfl⟩
           rw [eb.1, eb.2] at hq
           refine lp_X7_go hst hg ok8 okC hlx hly ht3 ht4 ⟨by omega, by omega, by omega⟩ (by simp; omega) hq m 0 (by omega) μ2 ?_ ((h1.2.wid (by omega) (by omega)).tr (h2.2.wid (by omega) (by omega)))
           simpa [goL] using h2.1)
        | (have e0 : ¬ xs.length = 0 := by
             intro e0
             rw [if_pos e0] at hem; omega
           have eb : goB xs = xs ∧ goB ys = ys := ⟨if_neg e0, if_neg (by omega)⟩
           rw [eb.1, eb.2] at hq
           refine lp_X7_go hst hg ok8 okC hlx hly ht3 ht4 ⟨by omega, by omega, by omega⟩ (by omega) hq m 0 (by omega) μ1 ?_ (h1.2.wid (by omega) (by omega))
           simpa [goL] using h1.1)
      · refine VW.aload_n dX7_go_182 rfl ?_
        refine VW.iload dX7_go_183 rfl ?_
        refine VW.iload dX7_go_185 rfl ?_
        refine VW.fvV2 cv_X7_go_X3_add dX7_go_187 (Nat.le_of_ble_eq_true rfl) (gSp hg).1 (gSp hg).2.1 (g_add hst hg h1.1 (x := lastOf xs) (y := lastOf ys) hlx hly (by omega)) (fun μ2 h2 => ?_)
        refine VW.iconst dX7_go_190 ?_
        refine VW.istore (lv' := [(0, _), (1, _), (2, _), (3, _), (4, _), (5, _), (6, _), (7, _), (8, _), (9, _), (10, _)]) dX7_go_191 (by decide) rfl ?_
        refine VW.sub ?_ [0, 3, 5, 6, 7, 8, 9, 10] rfl
        have hq : opGo xs ys C S Z B d many = ((0, (m : Int)), mk2 (goB xs ++ goL (lastOf xs) (tbo 3 d) m) (goB ys ++ goL (lastOf ys) (tbo 4 d) m) C S xs ys C S Z B) := by
          refine (if_neg (by omega)).trans ((if_neg (by rw [hm]; omega)).trans ?_)
          rw [hm]
          rfl
        first
        | (have e0 : xs.length = 0 := by
             by_cases e0 : xs.length = 0
             · exact e0
             · rw [if_neg e0] at hem; omega
           have eb : goB xs = xs ++ [lastOf xs] ∧ goB ys = ys ++ [lastOf ys] := by
             obtain rfl : xs = [] := List.eq_nil_of_length_eq_zero e0
             obtain rfl : ys = [] := List.eq_nil_of_length_eq_zero (by rw [ok1]; rfl)
             exact ⟨rfl, rfl⟩
           rw [eb.1, eb.2] at hq
           refine lp_X7_go hst hg ok8 okC hlx hly ht3 ht4 ⟨by omega, by omega, by omega⟩ (by simp; omega) hq m 0 (by omega) μ2 ?_ ((h1.2.wid (by omega) (by omega)).tr (h2.2.wid (by omega) (by omega)))
           simpa [goL] using h2.1)
        | (have e0 : ¬ xs.length = 0 := by
             intro e0
             rw [if_pos e0] at hem; omega
           have eb : goB xs = xs ∧ goB ys = ys := ⟨if_neg e0, if_neg (by omega)⟩
           rw [eb.1, eb.2] at hq
           refine lp_X7_go hst hg ok8 okC hlx hly ht3 ht4 ⟨by omega, by omega, by omega⟩ (by omega) hq m 0 (by omega) μ1 ?_ (h1.2.wid (by omega) (by omega))
           simpa [goL] using h1.1)
    · refine VW.throwS (text := "there would be more than 40 points") hst xt_X7_80 (by decide +kernel) rfl (by decide) (by decide) dX7_go_156 dX7_go_159 dX7_go_160 dX7_go_162 dX7_go_165 ?_
      exact fxP.x (gPo_x ((if_neg (by omega)).trans (if_pos (by rw [hm]; omega))) h frm.rf (by decide) rfl)
theorem g_go (hst : l.stackTraces = false) (hg : isG N sh) (h : hasG μ xs ys C S Z B) (ok : okA (mk xs ys C S Z B)) {d many : Int} (hd : R32 d) (hmany : R32 many) : Fx G l N sh M_X7_go [.ref (gB G + 0), vI d, vI many] μ (gPo e12 (opGo xs ys C S Z B d many) μ) := by
  refine Fx.of hst rfl (by decide +kernel) (Nat.le_of_ble_eq_true rfl) rfl ?_
  obtain ⟨⟨⟨ok1, ok2, ok3, ok4⟩, ⟨ok5, ok6, ok7⟩, ok8⟩, ⟨ok9, ok10⟩, ok11, ok12⟩ := okA.un ok
  obtain ⟨h0, hv⟩ := id h
  obtain ⟨hP, hC, hS, hZ, hB, tx, ty, hT⟩ := id h0
  have okC : ∀ L ∈ C, bnd L 0 7 := fun L hL => (ok6 L hL).2
  refine VW.iload_n dX7_go_0 rfl ?_
  refine VW.pS1 cs_X7_go_X7_isDirection dX7_go_1 (Nat.le_of_ble_eq_true rfl) (s_X7_isDirection hst hd) ?_
  refine VW.if_eq 18 ⟨by have := bI_b (decide (0 ≤ d ∧ d < 8)); omega, by have := bI_b (decide (0 ≤ d ∧ d < 8)); omega⟩ dX7_go_4 (by decide) (fun c4 => ?_) (fun c4 => ?_)
  · refine VW.throwS (text := "a direction is not 0 to 7, or many is not 1 to 31") hst xt_X7_66 (by decide +kernel) rfl (by decide) (by decide) dX7_go_18 dX7_go_21 dX7_go_22 dX7_go_24 dX7_go_27 ?_
    exact fxP.x (gPo_x (if_pos (by have hd8 := c4; simp [bI0] at hd8; omega)) h frm.rf (by decide) rfl)
  · refine VW.iload_n dX7_go_7 rfl ?_
    refine VW.iconst dX7_go_8 ?_
    refine VW.icmp_lt 18 ⟨by omega, by omega⟩ ⟨by omega, by omega⟩ dX7_go_9 (by decide) (fun c9 => ?_) (fun c9 => ?_)
    · refine VW.throwS (text := "a direction is not 0 to 7, or many is not 1 to 31") hst xt_X7_66 (by decide +kernel) rfl (by decide) (by decide) dX7_go_18 dX7_go_21 dX7_go_22 dX7_go_24 dX7_go_27 ?_
      exact fxP.x (gPo_x (if_pos (by have hd8 := c4; simp [bI0] at hd8; omega)) h frm.rf (by decide) rfl)
    · refine VW.iload_n dX7_go_12 rfl ?_
      refine VW.bipush dX7_go_13 rfl ?_
      refine VW.icmp_le 28 ⟨by omega, by omega⟩ ⟨by omega, by omega⟩ dX7_go_15 (by decide) (fun c15 => ?_) (fun c15 => ?_)
      · refine VW.aload_n dX7_go_28 rfl ?_
        refine VW.getR dX7_go_29 fa_X7_10 (gLt hg) hg.2.1 rfl ?_
        refine VW.getR dX7_go_32 fa_X7_73 (by have := hg.1; omega) (gSs hg) rfl ?_
        refine VW.astore_n (lv' := [(0, _), (1, _), (2, _), (3, _)]) dX7_go_35 (by decide) rfl ?_
        refine VW.aload_n dX7_go_36 rfl ?_
        refine VW.pV0 cv_X7_go_X3_held dX7_go_37 (Nat.le_of_ble_eq_true rfl) (gSp hg).1 (gSp hg).2.1 (p_held hst (gSp hg) hP) ?_
        refine VW.if_ne 47 ⟨by omega, by omega⟩ dX7_go_40 (by decide) (fun c40 => ?_) (fun c40 => ?_)
        · refine VW.iconst dX7_go_47 ?_
          refine VW.istore (lv' := [(0, _), (1, _), (2, _), (3, _), (4, _)]) dX7_go_48 (by decide) rfl ?_
          refine VW.iload dX7_go_50 rfl ?_
          refine VW.if_eq 59 (by decide) dX7_go_52 (by decide) (fun _ => ?_) (fun c52 => absurd c52 (by decide))
          refine VW.aload_n dX7_go_59 rfl ?_
          refine VW.aload_n dX7_go_60 rfl ?_
          refine VW.pV0 cv_X7_go_X3_held dX7_go_61 (Nat.le_of_ble_eq_true rfl) (gSp hg).1 (gSp hg).2.1 (p_held hst (gSp hg) hP) ?_
          refine VW.iconst dX7_go_64 ?_
          refine VW.isub dX7_go_65 ?_
          refine VW.pV1 cv_X7_go_X3_x dX7_go_66 (Nat.le_of_ble_eq_true rfl) (gSp hg).1 (gSp hg).2.1 (p_x hst (gSp hg) hP ⟨by omega, by omega⟩) ?_
          refine VW.istore (lv' := [(0, _), (1, _), (2, _), (3, _), (4, _), (5, _)]) dX7_go_69 (by decide) rfl ?_
          refine VW.iload dX7_go_71 rfl ?_
          refine VW.if_eq 80 (by decide) dX7_go_73 (by decide) (fun _ => ?_) (fun c73 => absurd c73 (by decide))
          refine VW.aload_n dX7_go_80 rfl ?_
          refine VW.aload_n dX7_go_81 rfl ?_
          refine VW.pV0 cv_X7_go_X3_held dX7_go_82 (Nat.le_of_ble_eq_true rfl) (gSp hg).1 (gSp hg).2.1 (p_held hst (gSp hg) hP) ?_
          refine VW.iconst dX7_go_85 ?_
          refine VW.isub dX7_go_86 ?_
          refine VW.pV1 cv_X7_go_X3_y dX7_go_87 (Nat.le_of_ble_eq_true rfl) (gSp hg).1 (gSp hg).2.1 (p_y hst (gSp hg) hP ⟨by omega, by omega⟩) ?_
          refine VW.istore (lv' := [(0, _), (1, _), (2, _), (3, _), (4, _), (5, _), (6, _)]) dX7_go_90 (by decide) rfl ?_
          have hd8 : 0 ≤ d ∧ d < 8 := by simpa [bI0] using c4
          first
          | (have e1 : lastOf xs = 0 := if_pos (by omega)
             have e2 : lastOf ys = 0 := if_pos (by omega)
             have t := go_tail (G := G) hst hg h ok (d := d) (many := many) hd8 ⟨by omega, by omega⟩ (em := 1) (by rw [if_pos (by omega)])
             rw [e1, e2] at t
             exact t)
          | (have e1 : lastOf xs = rat xs ((xs.length : Int) - 1) := if_neg (by omega)
             have e2 : lastOf ys = rat ys ((xs.length : Int) - 1) := by rw [← ok1]; exact if_neg (by omega)
             have t := go_tail (G := G) hst hg h ok (d := d) (many := many) hd8 ⟨by omega, by omega⟩ (em := 0) (by rw [if_neg (by omega)])
             rw [e1, e2] at t
             exact t)
        · refine VW.iconst dX7_go_43 ?_
          refine VW.goto 48 dX7_go_44 (by decide) ?_
          refine VW.istore (lv' := [(0, _), (1, _), (2, _), (3, _), (4, _)]) dX7_go_48 (by decide) rfl ?_
          refine VW.iload dX7_go_50 rfl ?_
          refine VW.if_eq 59 (by decide) dX7_go_52 (by decide) (fun c52 => absurd c52 (by decide)) (fun _ => ?_)
          refine VW.iconst dX7_go_55 ?_
          refine VW.goto 69 dX7_go_56 (by decide) ?_
          refine VW.istore (lv' := [(0, _), (1, _), (2, _), (3, _), (4, _), (5, _)]) dX7_go_69 (by decide) rfl ?_
          refine VW.iload dX7_go_71 rfl ?_
          refine VW.if_eq 80 (by decide) dX7_go_73 (by decide) (fun c73 => absurd c73 (by decide)) (fun _ => ?_)
          refine VW.iconst dX7_go_76 ?_
          refine VW.goto 90 dX7_go_77 (by decide) ?_
          refine VW.istore (lv' := [(0, _), (1, _), (2, _), (3, _), (4, _), (5, _), (6, _)]) dX7_go_90 (by decide) rfl ?_
          have hd8 : 0 ≤ d ∧ d < 8 := by simpa [bI0] using c4
          first
          | (have e1 : lastOf xs = 0 := if_pos (by omega)
             have e2 : lastOf ys = 0 := if_pos (by omega)
             have t := go_tail (G := G) hst hg h ok (d := d) (many := many) hd8 ⟨by omega, by omega⟩ (em := 1) (by rw [if_pos (by omega)])
             rw [e1, e2] at t
             exact t)
          | (have e1 : lastOf xs = rat xs ((xs.length : Int) - 1) := if_neg (by omega)
             have e2 : lastOf ys = rat ys ((xs.length : Int) - 1) := by rw [← ok1]; exact if_neg (by omega)
             have t := go_tail (G := G) hst hg h ok (d := d) (many := many) hd8 ⟨by omega, by omega⟩ (em := 0) (by rw [if_neg (by omega)])
             rw [e1, e2] at t
             exact t)
      · refine VW.throwS (text := "a direction is not 0 to 7, or many is not 1 to 31") hst xt_X7_66 (by decide +kernel) rfl (by decide) (by decide) dX7_go_18 dX7_go_21 dX7_go_22 dX7_go_24 dX7_go_27 ?_
        exact fxP.x (gPo_x (if_pos (by have hd8 := c4; simp [bI0] at hd8; omega)) h frm.rf (by decide) rfl)
theorem g_begin (hst : l.stackTraces = false) (hg : isG N sh) (h : hasG μ xs ys C S Z B) (ok : okA (mk xs ys C S Z B)) : Fx G l N sh M_X7_begin [.ref (gB G + 0)] μ (gPo eA1 (opBegin xs ys C S Z B) μ) := by
  refine Fx.of hst rfl (by decide +kernel) (Nat.le_of_ble_eq_true rfl) rfl ?_
  obtain ⟨⟨⟨ok1, ok2, ok3, ok4⟩, ⟨ok5, ok6, ok7⟩, ok8⟩, ⟨ok9, ok10⟩, ok11, ok12⟩ := okA.un ok
  obtain ⟨h0, hv⟩ := id h
  obtain ⟨hP, hC, hS, hZ, hB, tx, ty, hT⟩ := id h0
  have okC : ∀ L ∈ C, bnd L 0 7 := fun L hL => (ok6 L hL).2
  refine VW.aload_n dX7_begin_0 rfl ?_
  refine VW.getR dX7_begin_1 fa_X7_10 (gLt hg) hg.2.1 rfl ?_
  refine VW.getR dX7_begin_4 fa_X7_73 (by have := hg.1; omega) (gSs hg) rfl ?_
  refine VW.pV0 cv_X7_begin_X3_held dX7_begin_7 (Nat.le_of_ble_eq_true rfl) (gSp hg).1 (gSp hg).2.1 (p_held hst (gSp hg) hP) ?_
  refine VW.istore_n (lv' := [(0, _), (1, _)]) dX7_begin_10 (by decide) rfl ?_
  refine VW.aload_n dX7_begin_11 rfl ?_
  refine VW.getR dX7_begin_12 fa_X7_19 (gLt hg) hg.2.1 rfl ?_
  refine VW.aload_n dX7_begin_15 rfl ?_
  refine VW.getR dX7_begin_16 fa_X7_10 (gLt hg) hg.2.1 rfl ?_
  refine VW.fvV1 cv_X7_begin_X1_keep dX7_begin_19 (Nat.le_of_ble_eq_true rfl) (gH hg).1 (gH hg).2.1 (g_keep hst hg h0) (fun μ1 h1 => ?_)
  refine VW.aload_n dX7_begin_22 rfl ?_
  refine VW.getR dX7_begin_23 fa_X7_10 (gLt hg) hg.2.1 rfl ?_
  refine VW.getR dX7_begin_26 fa_X7_73 (by have := hg.1; omega) (gSs hg) rfl ?_
  refine VW.iconst dX7_begin_29 ?_
  refine VW.fvV1 cv_X7_begin_X3_cut dX7_begin_30 (Nat.le_of_ble_eq_true rfl) (gSp hg).1 (gSp hg).2.1 (g_cut hst hg h1.1 (i := 0) (by decide) (by decide)) (fun μ2 h2 => ?_)
  refine VW.aload_n dX7_begin_33 rfl ?_
  refine VW.fvV0 cv_X7_begin_X7_lookAgain dX7_begin_34 (Nat.le_of_ble_eq_true rfl) (gLt hg) hg.2.1 (g_lookAgain hst hg h2.1 ok8 okC) (fun μ3 h3 => ?_)
  refine VW.iload_n dX7_begin_37 rfl ?_
  refine VW.ireturn dX7_begin_38 rfl rfl ?_
  exact fxP.r (gPo_r (xs := xs.take (0 : Int).toNat) (ys := ys.take (0 : Int).toNat) rfl h3.1 (((h1.2.wid (by omega) (by omega)).tr (h2.2.wid (by omega) (by omega))).tr (h3.2.wid (by omega) (by omega))))
theorem hasG.buf (h : hasG μ xs ys C S Z B) (hB : hasRow μ' 227 60 B') (f : frm μ μ' 227 229) : hasG μ' xs ys C S Z B' := by
  obtain ⟨⟨a, b, c, d, e, tx, ty, g⟩, v⟩ := h
  exact ⟨⟨a.keep f (by omega), b.keep f (by omega), c.keep f (by omega), d.keep f (by omega), hB, tx, ty, g.keep f (by omega)⟩, v.keep f (by omega)⟩
theorem bB_r {L : List Int} (h : bnd L 33 126) (i : Int) : -1 ≤ rat L i ∧ rat L i ≤ 126 := by
  by_cases h0 : 0 ≤ i ∧ i < L.length
  · have := rat_b h h0.1 h0.2; omega
  · rw [rat_out (by omega)]; omega
theorem mul1 {a b : Int} (ha : -1 ≤ a ∧ a ≤ 1) (hb : 0 ≤ b ∧ b ≤ 31) : -31 ≤ a * b ∧ a * b ≤ 31 := by
  rcases (by omega : a = -1 ∨ a = 0 ∨ a = 1) with rfl | rfl | rfl <;> omega
theorem onL {x y : Int} (q : onLat x y = true) : (0 ≤ x ∧ x ≤ 31) ∧ (0 ≤ y ∧ y ≤ 31) := by unfold onLat at q; rw [decide_eq_true_eq] at q; omega
theorem bR (b : Bool) : R32 (bI b) := ⟨by have := bI_b b; omega, by have := bI_b b; omega⟩
theorem tnL_len (xs ys : List Int) (e : Int) : ∀ (n : Nat) (i x y : Int) (tx ty : List Int) (q : List Int × List Int), tnL xs ys e n i x y tx ty = some q → q.1.length = tx.length + n ∧ q.2.length = ty.length + n
  | 0, i, x, y, tx, ty, q, h => by
    cases h
    exact ⟨rfl, rfl⟩
  | n + 1, i, x, y, tx, ty, q, h => by
    have h' : (if isEven xs ys i = true ∧ onLat (tX xs ys e i x) (tY xs ys e i y) = true then tnL xs ys e n (i + 1) (tX xs ys e i x) (tY xs ys e i y) (tx ++ [tX xs ys e i x]) (ty ++ [tY xs ys e i y]) else none) = some q := h
    by_cases hc : isEven xs ys i = true ∧ onLat (tX xs ys e i x) (tY xs ys e i y) = true
    · rw [if_pos hc] at h'
      have := tnL_len xs ys e n _ _ _ _ _ q h'
      simp only [List.length_append, List.length_cons, List.length_nil] at this
      omega
    · rw [if_neg hc] at h'
      cases h'
variable {D : List Int}
theorem lp_X7_too (hst : l.stackTraces = false) (hg : isG N sh) (hC : hasC μ 7 C) (hS : hasRow μ 31 5 S) (hw : wfS S) (okC : ∀ L ∈ C, bnd L 0 7) {r cap : Nat} (hr : isRow N sh r cap) (hD : hasRow μ r cap D) (hDl : D.length ≤ 40) (hDb : bnd D 0 7) (hrd : r + 2 ≤ 245 ∨ 248 ≤ r) : ∀ (n : Nat) (i : Int), 0 ≤ i → i + n = C.length → ∀ μ2 : Mem, frm μ μ2 245 248 → VW G l none M_X7_isTooNear 2 [(0, .ref (gB G + 0)), (1, .ref (gB G + r)), (2, vI i)] [] (N, sh, μ2) 0 0 (fxP N sh (oN (vN_i (fun a μ' => a = bI (tnF C S D n i) ∧ frm μ μ' 245 248)))) := by
  have hC10 := hC.2.2.1
  obtain ⟨hw5, hw0, hw1, hw2, hw3, hw4⟩ := id hw
  intro n
  induction n with
  | zero =>
    intro i h1 h2 μ2 hf
    refine VW.iload_n dX7_isTooNear_2 rfl ?_
    refine VW.aload_n dX7_isTooNear_3 rfl ?_
    refine VW.getR dX7_isTooNear_4 fa_X7_10 (gLt hg) hg.2.1 rfl ?_
    refine VW.getR dX7_isTooNear_7 fa_X7_151 (by have := hg.1; omega) (gSs hg) rfl ?_
    refine VW.pV0 cv_X7_isTooNear_X0_held dX7_isTooNear_10 (Nat.le_of_ble_eq_true rfl) (gSc hg).1 (gSc hg).2.1 (c_held hst (gSc hg) (hC.keep hf (by omega))) ?_
    refine VW.icmp_ge 73 ⟨by omega, by omega⟩ ⟨by omega, by omega⟩ dX7_isTooNear_13 (by decide) (fun c13 => ?_) (fun c13 => by omega)
    refine VW.iconst dX7_isTooNear_73 ?_
    refine VW.ireturn dX7_isTooNear_74 rfl rfl ?_
    exact fxP.ii ⟨rfl, hf⟩
  | succ n ih =>
    intro i h1 h2 μ2 hf
    refine VW.iload_n dX7_isTooNear_2 rfl ?_
    refine VW.aload_n dX7_isTooNear_3 rfl ?_
    refine VW.getR dX7_isTooNear_4 fa_X7_10 (gLt hg) hg.2.1 rfl ?_
    refine VW.getR dX7_isTooNear_7 fa_X7_151 (by have := hg.1; omega) (gSs hg) rfl ?_
    refine VW.pV0 cv_X7_isTooNear_X0_held dX7_isTooNear_10 (Nat.le_of_ble_eq_true rfl) (gSc hg).1 (gSc hg).2.1 (c_held hst (gSc hg) (hC.keep hf (by omega))) ?_
    refine VW.icmp_ge 73 ⟨by omega, by omega⟩ ⟨by omega, by omega⟩ dX7_isTooNear_13 (by decide) (fun c13 => by omega) (fun c13 => ?_)
    refine VW.aload_n dX7_isTooNear_16 rfl ?_
    refine VW.getR dX7_isTooNear_17 fa_X7_42 (gLt hg) hg.2.1 rfl ?_
    refine VW.aload_n dX7_isTooNear_20 rfl ?_
    refine VW.aload_n dX7_isTooNear_21 rfl ?_
    refine VW.getR dX7_isTooNear_22 fa_X7_10 (gLt hg) hg.2.1 rfl ?_
    refine VW.getR dX7_isTooNear_25 fa_X7_151 (by have := hg.1; omega) (gSs hg) rfl ?_
    refine VW.iload_n dX7_isTooNear_28 rfl ?_
    refine VW.oV1 cv_X7_isTooNear_X0_directions dX7_isTooNear_29 (Nat.le_of_ble_eq_true rfl) (gSc hg).1 (gSc hg).2.1 (c_directions hst (gSc hg) ⟨by omega, by omega⟩) ?_
    refine VW.aload_n dX7_isTooNear_32 rfl ?_
    refine VW.getR dX7_isTooNear_33 fa_X7_10 (gLt hg) hg.2.1 rfl ?_
    refine VW.getR dX7_isTooNear_36 fa_X7_209 (by have := hg.1; omega) (gSs hg) rfl ?_
    refine VW.fvV3 cv_X7_isTooNear_X2_measure dX7_isTooNear_39 (Nat.le_of_ble_eq_true rfl) (gM hg).1 (gM hg).2.1 (m_measure hst (gM hg) hr (hD.keep hf (by omega)) hDl hDb ((gSc hg).2.2.2.2.1 i.toNat (by omega)) ((hC.keep hf (by omega)).row (i := i.toNat) (by omega)) (hC.len8 (by omega)) (okC _ (getD_mem C (by omega))) (gSr hg) (hS.keep hf (by omega)) hw (by omega) (by omega) (by omega)) (fun μ3 h3 => ?_)
    refine VW.aload_n dX7_isTooNear_42 rfl ?_
    refine VW.getR dX7_isTooNear_43 fa_X7_42 (gLt hg) hg.2.1 rfl ?_
    refine VW.pV0 cv_X7_isTooNear_X2_whole dX7_isTooNear_46 (Nat.le_of_ble_eq_true rfl) (gM hg).1 (gM hg).2.1 (m_whole hst (gM hg) h3.1) ?_
    have hdb := dstOf_b hw D (C.getD i.toNat []) hDl (hC.len8 (by omega))
    have hd9 : costF (rat S 3) (rat S 2) D (KL (C.getD i.toNat [])) (C.getD i.toNat []).length = dstOf S D (C.getD i.toNat []) := rfl
    rw [hd9]
    refine VW.iconst dX7_isTooNear_49 ?_
    refine VW.aload_n dX7_isTooNear_50 rfl ?_
    refine VW.getR dX7_isTooNear_51 fa_X7_10 (gLt hg) hg.2.1 rfl ?_
    refine VW.getR dX7_isTooNear_54 fa_X7_209 (by have := hg.1; omega) (gSs hg) rfl ?_
    refine VW.iconst dX7_isTooNear_57 ?_
    refine VW.pV1 cv_X7_isTooNear_X4_at dX7_isTooNear_58 (Nat.le_of_ble_eq_true rfl) (gSr hg).1 (gSr hg).2.1 (r_at hst (gSr hg) ((hS.keep hf (by omega)).keep h3.2 (by omega)) (by decide)) ?_
    refine VW.imul dX7_isTooNear_61 ?_
    refine VW.icmp_gt 67 ⟨by omega, by omega⟩ ⟨by omega, by omega⟩ dX7_isTooNear_62 (by decide) (fun c62 => ?_) (fun c62 => ?_)
    · refine VW.iinc (lv' := [(0, _), (1, _), (2, _)]) dX7_isTooNear_67 rfl (by decide) rfl ?_
      refine VW.goto 2 dX7_isTooNear_70 (by decide) ?_
      rw [show tnF C S D (n + 1) i = tnF C S D n (i + 1) from if_neg (by omega)]
      exact ih (i + 1) (by omega) (by omega) μ3 (hf.tr h3.2)
    · refine VW.iconst dX7_isTooNear_65 ?_
      refine VW.ireturn dX7_isTooNear_66 rfl rfl ?_
      refine fxP.ii ⟨?_, hf.tr h3.2⟩
      rw [show tnF C S D (n + 1) i = true from if_pos (by omega)]
      rfl
theorem g_isTooNear (hst : l.stackTraces = false) (hg : isG N sh) (hC : hasC μ 7 C) (hS : hasRow μ 31 5 S) (hw : wfS S) (okC : ∀ L ∈ C, bnd L 0 7) {r cap : Nat} (hr : isRow N sh r cap) (hD : hasRow μ r cap D) (hDl : D.length ≤ 40) (hDb : bnd D 0 7) (hrd : r + 2 ≤ 245 ∨ 248 ≤ r) : Zi G l N sh M_X7_isTooNear [.ref (gB G + 0), .ref (gB G + r)] μ (fun a μ' => a = bI (tooN C S D) ∧ frm μ μ' 245 248) := by
  refine Fx.of hst rfl (by decide +kernel) (Nat.le_of_ble_eq_true rfl) rfl ?_
  refine VW.iconst dX7_isTooNear_0 ?_
  refine VW.istore_n (lv' := [(0, _), (1, _), (2, _)]) dX7_isTooNear_1 (by decide) rfl ?_
  exact lp_X7_too hst hg hC hS hw okC hr hD hDl hDb hrd C.length 0 (by omega) (by omega) μ frm.rf
theorem lp_X7_laI (hst : l.stackTraces = false) (hg : isG N sh) (hC : hasC μ 7 C) (okC : ∀ L ∈ C, bnd L 0 7) {s : Nat} (hrs : isRow N sh s 5) (hS : hasRow μ s 5 S) (hw : wfS S) (hsd : s + 2 ≤ 245 ∨ 248 ≤ s) {c b9 : Int} (hc : 0 ≤ c ∧ c < C.length) {Φ : RT → Prop} (kk : ∀ b : Int, (-1 ≤ b ∧ b ≤ 1000) → b = b9 → ∀ μ2 : Mem, frm μ μ2 245 248 → VW G l none M_X7_leastApart 4 [(0, .ref (gB G + 0)), (1, .ref (gB G + s)), (2, vI b), (3, vI (c + 1))] [] (N, sh, μ2) 0 0 Φ) :
    ∀ (n : Nat) (p b : Int), 0 ≤ p → p + n = c → (-1 ≤ b ∧ b ≤ 1000) → laI C S c n p b = b9 → ∀ μ2 : Mem, frm μ μ2 245 248 → VW G l none M_X7_leastApart 21 [(0, .ref (gB G + 0)), (1, .ref (gB G + s)), (2, vI b), (3, vI c), (4, vI p)] [] (N, sh, μ2) 0 0 Φ := by
  have hC10 := hC.2.2.1
  intro n
  induction n with
  | zero =>
    intro p b h1 h2 hb Φe μ2 hf
    refine VW.iload dX7_leastApart_21 rfl ?_
    refine VW.iload_n dX7_leastApart_23 rfl ?_
    refine VW.icmp_ge 88 ⟨by omega, by omega⟩ ⟨by omega, by omega⟩ dX7_leastApart_24 (by decide) (fun c24 => ?_) (fun c24 => by omega)
    refine VW.iinc (lv' := [(0, _), (1, _), (2, _), (3, _), (4, _)]) dX7_leastApart_88 rfl (by decide) rfl ?_
    refine VW.goto 4 dX7_leastApart_91 (by decide) ?_
    refine VW.sub ?_ [0, 1, 2, 3] rfl
    exact kk b hb Φe μ2 hf
  | succ n ih =>
    intro p b h1 h2 hb Φe μ2 hf
    refine VW.iload dX7_leastApart_21 rfl ?_
    refine VW.iload_n dX7_leastApart_23 rfl ?_
    refine VW.icmp_ge 88 ⟨by omega, by omega⟩ ⟨by omega, by omega⟩ dX7_leastApart_24 (by decide) (fun c24 => by omega) (fun c24 => ?_)
    refine VW.aload_n dX7_leastApart_27 rfl ?_
    refine VW.getR dX7_leastApart_28 fa_X7_42 (gLt hg) hg.2.1 rfl ?_
    refine VW.aload_n dX7_leastApart_31 rfl ?_
    refine VW.getR dX7_leastApart_32 fa_X7_10 (gLt hg) hg.2.1 rfl ?_
    refine VW.getR dX7_leastApart_35 fa_X7_151 (by have := hg.1; omega) (gSs hg) rfl ?_
    refine VW.iload dX7_leastApart_38 rfl ?_
    refine VW.oV1 cv_X7_leastApart_X0_directions dX7_leastApart_40 (Nat.le_of_ble_eq_true rfl) (gSc hg).1 (gSc hg).2.1 (c_directions hst (gSc hg) ⟨by omega, by omega⟩) ?_
    refine VW.aload_n dX7_leastApart_43 rfl ?_
    refine VW.getR dX7_leastApart_44 fa_X7_10 (gLt hg) hg.2.1 rfl ?_
    refine VW.getR dX7_leastApart_47 fa_X7_151 (by have := hg.1; omega) (gSs hg) rfl ?_
    refine VW.iload_n dX7_leastApart_50 rfl ?_
    refine VW.oV1 cv_X7_leastApart_X0_directions dX7_leastApart_51 (Nat.le_of_ble_eq_true rfl) (gSc hg).1 (gSc hg).2.1 (c_directions hst (gSc hg) ⟨by omega, by omega⟩) ?_
    refine VW.aload_n dX7_leastApart_54 rfl ?_
    refine VW.fvV3 cv_X7_leastApart_X2_measure dX7_leastApart_55 (Nat.le_of_ble_eq_true rfl) (gM hg).1 (gM hg).2.1 (m_measure hst (gM hg) ((gSc hg).2.2.2.2.1 p.toNat (by omega)) ((hC.keep hf (by omega)).row (i := p.toNat) (by omega)) (by have := hC.len8 (i := p.toNat) (by omega); omega) (okC _ (getD_mem C (by omega))) ((gSc hg).2.2.2.2.1 c.toNat (by omega)) ((hC.keep hf (by omega)).row (i := c.toNat) (by omega)) (hC.len8 (by omega)) (okC _ (getD_mem C (by omega))) hrs (hS.keep hf (by omega)) hw (by omega) (by omega) (by omega)) (fun μ3 h3 => ?_)
    have hdb := dstOf_b hw (C.getD p.toNat []) (C.getD c.toNat []) (by have := hC.len8 (i := p.toNat) (by omega); omega) (hC.len8 (by omega))
    have hd9 : costF (rat S 3) (rat S 2) (C.getD p.toNat []) (KL (C.getD c.toNat [])) (C.getD c.toNat []).length = dstOf S (C.getD p.toNat []) (C.getD c.toNat []) := rfl
    refine VW.iload_n dX7_leastApart_58 rfl ?_
    refine VW.iconst dX7_leastApart_59 ?_
    refine VW.icmp_eq 74 ⟨by omega, by omega⟩ ⟨by omega, by omega⟩ dX7_leastApart_60 (by decide) (fun c60 => ?_) (fun c60 => ?_)
    · refine VW.aload_n dX7_leastApart_74 rfl ?_
      refine VW.getR dX7_leastApart_75 fa_X7_42 (gLt hg) hg.2.1 rfl ?_
      refine VW.pV0 cv_X7_leastApart_X2_whole dX7_leastApart_78 (Nat.le_of_ble_eq_true rfl) (gM hg).1 (gM hg).2.1 (m_whole hst (gM hg) h3.1) ?_
      rw [hd9]
      refine VW.istore_n (lv' := [(0, _), (1, _), (2, _), (3, _), (4, _)]) dX7_leastApart_81 (by decide) rfl ?_
      refine VW.iinc (lv' := [(0, _), (1, _), (2, _), (3, _), (4, _)]) dX7_leastApart_82 rfl (by decide) rfl ?_
      refine VW.goto 21 dX7_leastApart_85 (by decide) ?_
      rw [show laI C S c (n + 1) p b = laI C S c n (p + 1) (if b = -1 ∨ dstOf S (C.getD p.toNat []) (C.getD c.toNat []) < b then dstOf S (C.getD p.toNat []) (C.getD c.toNat []) else b) from rfl] at Φe
      first
      | (rw [if_pos (by omega)] at Φe; exact ih (p + 1) _ (by omega) (by omega) (by omega) Φe μ3 (hf.tr h3.2); done)
      | (rw [if_neg (by omega)] at Φe; exact ih (p + 1) _ (by omega) (by omega) (by omega) Φe μ3 (hf.tr h3.2); done)
    · refine VW.aload_n dX7_leastApart_63 rfl ?_
      refine VW.getR dX7_leastApart_64 fa_X7_42 (gLt hg) hg.2.1 rfl ?_
      refine VW.pV0 cv_X7_leastApart_X2_whole dX7_leastApart_67 (Nat.le_of_ble_eq_true rfl) (gM hg).1 (gM hg).2.1 (m_whole hst (gM hg) h3.1) ?_
      rw [hd9]
      refine VW.iload_n dX7_leastApart_70 rfl ?_
      refine VW.icmp_ge 82 ⟨by omega, by omega⟩ ⟨by omega, by omega⟩ dX7_leastApart_71 (by decide) (fun c71 => ?_) (fun c71 => ?_)
      · refine VW.iinc (lv' := [(0, _), (1, _), (2, _), (3, _), (4, _)]) dX7_leastApart_82 rfl (by decide) rfl ?_
        refine VW.goto 21 dX7_leastApart_85 (by decide) ?_
        rw [show laI C S c (n + 1) p b = laI C S c n (p + 1) (if b = -1 ∨ dstOf S (C.getD p.toNat []) (C.getD c.toNat []) < b then dstOf S (C.getD p.toNat []) (C.getD c.toNat []) else b) from rfl] at Φe
        first
        | (rw [if_pos (by omega)] at Φe; exact ih (p + 1) _ (by omega) (by omega) (by omega) Φe μ3 (hf.tr h3.2); done)
        | (rw [if_neg (by omega)] at Φe; exact ih (p + 1) _ (by omega) (by omega) (by omega) Φe μ3 (hf.tr h3.2); done)
      · refine VW.aload_n dX7_leastApart_74 rfl ?_
        refine VW.getR dX7_leastApart_75 fa_X7_42 (gLt hg) hg.2.1 rfl ?_
        refine VW.pV0 cv_X7_leastApart_X2_whole dX7_leastApart_78 (Nat.le_of_ble_eq_true rfl) (gM hg).1 (gM hg).2.1 (m_whole hst (gM hg) h3.1) ?_
        rw [hd9]
        refine VW.istore_n (lv' := [(0, _), (1, _), (2, _), (3, _), (4, _)]) dX7_leastApart_81 (by decide) rfl ?_
        refine VW.iinc (lv' := [(0, _), (1, _), (2, _), (3, _), (4, _)]) dX7_leastApart_82 rfl (by decide) rfl ?_
        refine VW.goto 21 dX7_leastApart_85 (by decide) ?_
        rw [show laI C S c (n + 1) p b = laI C S c n (p + 1) (if b = -1 ∨ dstOf S (C.getD p.toNat []) (C.getD c.toNat []) < b then dstOf S (C.getD p.toNat []) (C.getD c.toNat []) else b) from rfl] at Φe
        first
        | (rw [if_pos (by omega)] at Φe; exact ih (p + 1) _ (by omega) (by omega) (by omega) Φe μ3 (hf.tr h3.2); done)
        | (rw [if_neg (by omega)] at Φe; exact ih (p + 1) _ (by omega) (by omega) (by omega) Φe μ3 (hf.tr h3.2); done)
theorem lp_X7_laO (hst : l.stackTraces = false) (hg : isG N sh) (hC : hasC μ 7 C) (okC : ∀ L ∈ C, bnd L 0 7) {s : Nat} (hrs : isRow N sh s 5) (hS : hasRow μ s 5 S) (hw : wfS S) (hsd : s + 2 ≤ 245 ∨ 248 ≤ s) : ∀ (n : Nat) (c b : Int), 0 ≤ c → c + n = C.length → (-1 ≤ b ∧ b ≤ 1000) → ∀ μ2 : Mem, frm μ μ2 245 248 → VW G l none M_X7_leastApart 4 [(0, .ref (gB G + 0)), (1, .ref (gB G + s)), (2, vI b), (3, vI c)] [] (N, sh, μ2) 0 0 (fxP N sh (oN (vN_i (fun a μ' => a = laO C S n c b ∧ frm μ μ' 245 248)))) := by
  have hC10 := hC.2.2.1
  intro n
  induction n with
  | zero =>
    intro c b h1 h2 hb μ2 hf
    refine VW.iload_n dX7_leastApart_4 rfl ?_
    refine VW.aload_n dX7_leastApart_5 rfl ?_
    refine VW.getR dX7_leastApart_6 fa_X7_10 (gLt hg) hg.2.1 rfl ?_
    refine VW.getR dX7_leastApart_9 fa_X7_151 (by have := hg.1; omega) (gSs hg) rfl ?_
    refine VW.pV0 cv_X7_leastApart_X0_held dX7_leastApart_12 (Nat.le_of_ble_eq_true rfl) (gSc hg).1 (gSc hg).2.1 (c_held hst (gSc hg) (hC.keep hf (by omega))) ?_
    refine VW.icmp_ge 94 ⟨by omega, by omega⟩ ⟨by omega, by omega⟩ dX7_leastApart_15 (by decide) (fun c15 => ?_) (fun c15 => by omega)
    refine VW.iload_n dX7_leastApart_94 rfl ?_
    refine VW.ireturn dX7_leastApart_95 rfl rfl ?_
    exact fxP.ii ⟨rfl, hf⟩
  | succ n ih =>
    intro c b h1 h2 hb μ2 hf
    refine VW.iload_n dX7_leastApart_4 rfl ?_
    refine VW.aload_n dX7_leastApart_5 rfl ?_
    refine VW.getR dX7_leastApart_6 fa_X7_10 (gLt hg) hg.2.1 rfl ?_
    refine VW.getR dX7_leastApart_9 fa_X7_151 (by have := hg.1; omega) (gSs hg) rfl ?_
    refine VW.pV0 cv_X7_leastApart_X0_held dX7_leastApart_12 (Nat.le_of_ble_eq_true rfl) (gSc hg).1 (gSc hg).2.1 (c_held hst (gSc hg) (hC.keep hf (by omega))) ?_
    refine VW.icmp_ge 94 ⟨by omega, by omega⟩ ⟨by omega, by omega⟩ dX7_leastApart_15 (by decide) (fun c15 => by omega) (fun c15 => ?_)
    refine VW.iconst dX7_leastApart_18 ?_
    refine VW.istore (lv' := [(0, _), (1, _), (2, _), (3, _), (4, _)]) dX7_leastApart_19 (by decide) rfl ?_
    rw [show laO C S (n + 1) c b = laO C S n (c + 1) (laI C S c c.toNat 0 b) from rfl]
    exact lp_X7_laI hst hg hC okC hrs hS hw hsd (by omega) (fun b' hb' e μ3 hf3 => by rw [← e]; exact ih (c + 1) b' (by omega) (by omega) hb' μ3 hf3) c.toNat 0 b (by omega) (by omega) hb rfl μ2 hf
theorem g_leastApart (hst : l.stackTraces = false) (hg : isG N sh) (hC : hasC μ 7 C) (okC : ∀ L ∈ C, bnd L 0 7) {s : Nat} (hrs : isRow N sh s 5) (hS : hasRow μ s 5 S) (hw : wfS S) (hsd : s + 2 ≤ 245 ∨ 248 ≤ s) : Zi G l N sh M_X7_leastApart [.ref (gB G + 0), .ref (gB G + s)] μ (fun a μ' => a = leastA C S ∧ frm μ μ' 245 248) := by
  refine Fx.of hst rfl (by decide +kernel) (Nat.le_of_ble_eq_true rfl) rfl ?_
  by_cases hc0 : C.length = 0
  · refine VW.iconst dX7_leastApart_0 ?_
    refine VW.istore_n (lv' := [(0, _), (1, _), (2, _)]) dX7_leastApart_1 (by decide) rfl ?_
    refine VW.iconst dX7_leastApart_2 ?_
    refine VW.istore_n (lv' := [(0, _), (1, _), (2, _), (3, _)]) dX7_leastApart_3 (by decide) rfl ?_
    refine VW.iload_n dX7_leastApart_4 rfl ?_
    refine VW.aload_n dX7_leastApart_5 rfl ?_
    refine VW.getR dX7_leastApart_6 fa_X7_10 (gLt hg) hg.2.1 rfl ?_
    refine VW.getR dX7_leastApart_9 fa_X7_151 (by have := hg.1; omega) (gSs hg) rfl ?_
    refine VW.pV0 cv_X7_leastApart_X0_held dX7_leastApart_12 (Nat.le_of_ble_eq_true rfl) (gSc hg).1 (gSc hg).2.1 (c_held hst (gSc hg) hC) ?_
    refine VW.icmp_ge 94 ⟨by omega, by omega⟩ ⟨by omega, by omega⟩ dX7_leastApart_15 (by decide) (fun c15 => ?_) (fun c15 => by omega)
    refine VW.iload_n dX7_leastApart_94 rfl ?_
    refine VW.ireturn dX7_leastApart_95 rfl rfl ?_
    exact fxP.ii ⟨by unfold leastA; rw [hc0]; rfl, frm.rf⟩
  · refine VW.iconst dX7_leastApart_0 ?_
    refine VW.istore_n (lv' := [(0, _), (1, _), (2, _)]) dX7_leastApart_1 (by decide) rfl ?_
    refine VW.iconst dX7_leastApart_2 ?_
    refine VW.istore_n (lv' := [(0, _), (1, _), (2, _), (3, _)]) dX7_leastApart_3 (by decide) rfl ?_
    have e : leastA C S = laO C S (C.length - 1) 1 (-1) := by
      unfold leastA
      obtain ⟨k, hk⟩ : ∃ k, C.length = k + 1 := ⟨C.length - 1, by omega⟩
      rw [hk]
      rfl
    rw [e]
    exact lp_X7_laO hst hg hC okC hrs hS hw hsd (C.length - 1) 1 (-1) (by omega) (by omega) (by omega) μ frm.rf
theorem bnd_add {D : List Int} (okC : ∀ L ∈ C, bnd L 0 7) (hDb : bnd D 0 7) : ∀ L ∈ C ++ [D], bnd L 0 7 := fun L hL => by
  rcases List.mem_append.mp hL with hL | hL
  · exact okC L hL
  · rw [List.mem_singleton.mp hL]; exact hDb
theorem g_addCommand (hst : l.stackTraces = false) (hg : isG N sh) (h0 : hasG0 μ xs ys C S Z B) (hw : wfS S) (okC : ∀ L ∈ C, bnd L 0 7) (hlt : C.length < 10) {r cap : Nat} (hr : isRow N sh r cap) (hD : hasRow μ r cap D) (hD8 : D.length ≤ 8) (hDb : bnd D 0 7) (hrd : 227 ≤ r) : Zi G l N sh M_X7_addCommand [.ref (gB G + 0), .ref (gB G + r)] μ (fun a μ' => a = (C.length : Int) ∧ hasG μ' xs ys (C ++ [D]) S (kp Z ((xs, ys), C, S)) B ∧ frm μ μ' 0 273) := by
  refine Fx.of hst rfl (by decide +kernel) (Nat.le_of_ble_eq_true rfl) rfl ?_
  refine VW.aload_n dX7_addCommand_0 rfl ?_
  refine VW.getR dX7_addCommand_1 fa_X7_19 (gLt hg) hg.2.1 rfl ?_
  refine VW.aload_n dX7_addCommand_4 rfl ?_
  refine VW.getR dX7_addCommand_5 fa_X7_10 (gLt hg) hg.2.1 rfl ?_
  refine VW.fvV1 cv_X7_addCommand_X1_keep dX7_addCommand_8 (Nat.le_of_ble_eq_true rfl) (gH hg).1 (gH hg).2.1 (g_keep hst hg h0) (fun μ1 h1 => ?_)
  refine VW.aload_n dX7_addCommand_11 rfl ?_
  refine VW.getR dX7_addCommand_12 fa_X7_10 (gLt hg) hg.2.1 rfl ?_
  refine VW.getR dX7_addCommand_15 fa_X7_151 (by have := hg.1; omega) (gSs hg) rfl ?_
  refine VW.aload_n dX7_addCommand_18 rfl ?_
  refine VW.fvV1 cv_X7_addCommand_X0_add dX7_addCommand_19 (Nat.le_of_ble_eq_true rfl) (gSc hg).1 (gSc hg).2.1 (g_cadd hst hg h1.1 hr (hD.keep h1.2 (by omega)) hD8 hlt (by omega)) (fun μ2 h2 => ?_)
  refine VW.aload_n dX7_addCommand_22 rfl ?_
  refine VW.fvV0 cv_X7_addCommand_X7_lookAgain dX7_addCommand_23 (Nat.le_of_ble_eq_true rfl) (gLt hg) hg.2.1 (g_lookAgain hst hg h2.1 hw (bnd_add okC hDb)) (fun μ3 h3 => ?_)
  refine VW.aload_n dX7_addCommand_26 rfl ?_
  refine VW.getR dX7_addCommand_27 fa_X7_10 (gLt hg) hg.2.1 rfl ?_
  refine VW.getR dX7_addCommand_30 fa_X7_151 (by have := hg.1; omega) (gSs hg) rfl ?_
  refine VW.pV0 cv_X7_addCommand_X0_held dX7_addCommand_33 (Nat.le_of_ble_eq_true rfl) (gSc hg).1 (gSc hg).2.1 (c_held hst (gSc hg) h3.1.1.2.1) ?_
  refine VW.iconst dX7_addCommand_36 ?_
  refine VW.isub dX7_addCommand_37 ?_
  refine VW.ireturn dX7_addCommand_38 rfl rfl ?_
  refine fxP.ii ⟨?_, h3.1, (((h1.2.wid (by omega) (by omega)).tr (h2.2.wid (by omega) (by omega))).tr (h3.2.wid (by omega) (by omega)))⟩
  simp
theorem g_learn (hst : l.stackTraces = false) (hg : isG N sh) (h : hasG μ xs ys C S Z B) (ok : okA (mk xs ys C S Z B)) : Fx G l N sh M_X7_learn [.ref (gB G + 0)] μ (gPo eS1 (opLearn xs ys C S Z B) μ) := by
  refine Fx.of hst rfl (by decide +kernel) (Nat.le_of_ble_eq_true rfl) rfl ?_
  obtain ⟨⟨⟨ok1, ok2, ok3, ok4⟩, ⟨ok5, ok6, ok7⟩, ok8⟩, ⟨ok9, ok10⟩, ok11, ok12⟩ := okA.un ok
  obtain ⟨h0, hv⟩ := id h
  obtain ⟨hP, hC, hS, hZ, hB, tx, ty, hT⟩ := id h0
  have okC : ∀ L ∈ C, bnd L 0 7 := fun L hL => (ok6 L hL).2
  have sok := stk_ok (S := S) ok3 ok4 (by omega : xs.length ≤ 41)
  refine VW.aload_n dX7_learn_0 rfl ?_
  refine VW.getR dX7_learn_1 fa_X7_35 (gLt hg) hg.2.1 rfl ?_
  refine VW.getR dX7_learn_4 fa_X7_147 (by have := hg.1; omega) (gVs hg) rfl ?_
  refine VW.pV0 cv_X7_learn_X4_held dX7_learn_7 (Nat.le_of_ble_eq_true rfl) (gV3 hg).1 (gV3 hg).2.1 (r_held hst (gV3 hg) hv.2.2.1) ?_
  refine VW.istore_n (lv' := [(0, _), (1, _)]) dX7_learn_10 (by decide) rfl ?_
  refine VW.aload_n dX7_learn_11 rfl ?_
  refine VW.getR dX7_learn_12 fa_X7_10 (gLt hg) hg.2.1 rfl ?_
  refine VW.getR dX7_learn_15 fa_X7_151 (by have := hg.1; omega) (gSs hg) rfl ?_
  refine VW.pV0 cv_X7_learn_X0_held dX7_learn_18 (Nat.le_of_ble_eq_true rfl) (gSc hg).1 (gSc hg).2.1 (c_held hst (gSc hg) hC) ?_
  refine VW.bipush dX7_learn_21 rfl ?_
  refine VW.icmp_ge 37 ⟨by omega, by omega⟩ ⟨by omega, by omega⟩ dX7_learn_23 (by decide) (fun c23 => ?_) (fun c23 => ?_)
  · refine VW.throwS (text := "there are 10 commands, or the stroke has not 1 to 8 directions") hst xt_X7_80 (by decide +kernel) rfl (by decide) (by decide) dX7_learn_37 dX7_learn_40 dX7_learn_41 dX7_learn_43 dX7_learn_46 ?_
    exact fxP.x (gPo_x (if_pos (by omega)) h frm.rf (by decide) rfl)
  · refine VW.iload_n dX7_learn_26 rfl ?_
    refine VW.iconst dX7_learn_27 ?_
    refine VW.icmp_lt 37 ⟨by omega, by omega⟩ ⟨by omega, by omega⟩ dX7_learn_28 (by decide) (fun c28 => ?_) (fun c28 => ?_)
    · refine VW.throwS (text := "there are 10 commands, or the stroke has not 1 to 8 directions") hst xt_X7_80 (by decide +kernel) rfl (by decide) (by decide) dX7_learn_37 dX7_learn_40 dX7_learn_41 dX7_learn_43 dX7_learn_46 ?_
      exact fxP.x (gPo_x (if_pos (by omega)) h frm.rf (by decide) rfl)
    · refine VW.iload_n dX7_learn_31 rfl ?_
      refine VW.bipush dX7_learn_32 rfl ?_
      refine VW.icmp_le 47 ⟨by omega, by omega⟩ ⟨by omega, by omega⟩ dX7_learn_34 (by decide) (fun c34 => ?_) (fun c34 => ?_)
      · refine VW.aload_n dX7_learn_47 rfl ?_
        refine VW.aload_n dX7_learn_48 rfl ?_
        refine VW.getR dX7_learn_49 fa_X7_35 (gLt hg) hg.2.1 rfl ?_
        refine VW.getR dX7_learn_52 fa_X7_147 (by have := hg.1; omega) (gVs hg) rfl ?_
        refine VW.fiV1 cv_X7_learn_X7_isTooNear dX7_learn_55 (Nat.le_of_ble_eq_true rfl) (gLt hg) hg.2.1 (g_isTooNear hst hg hC hS ok8 okC (gV3 hg) hv.2.2.1 sok.1 sok.2 (by omega)) (fun r1 μ1 h1 => ?_)
        obtain ⟨rfl, h1f⟩ := h1
        have hg1 := h.keep h1f (by omega) (by omega)
        refine VW.if_eq 71 (bR _) dX7_learn_58 (by decide) (fun c58 => ?_) (fun c58 => ?_)
        · refine VW.aload_n dX7_learn_71 rfl ?_
          refine VW.aload_n dX7_learn_72 rfl ?_
          refine VW.getR dX7_learn_73 fa_X7_35 (gLt hg) hg.2.1 rfl ?_
          refine VW.getR dX7_learn_76 fa_X7_147 (by have := hg.1; omega) (gVs hg) rfl ?_
          refine VW.fiV1 cv_X7_learn_X7_addCommand dX7_learn_79 (Nat.le_of_ble_eq_true rfl) (gLt hg) hg.2.1 (g_addCommand hst hg hg1.1 ok8 okC (by omega) (gV3 hg) hg1.2.2.2.1 (by omega) sok.2 (by omega)) (fun r2 μ2 h2 => ?_)
          obtain ⟨rfl, h2g, h2f⟩ := h2
          refine VW.ireturn dX7_learn_82 rfl rfl ?_
          exact fxP.r (gPo_r (if_neg (fun q => q ⟨by omega, by omega, by omega, by have t := bI0.mp c58; simpa using t⟩)) h2g ((h1f.wid (by omega) (by omega)).tr h2f))
        · refine VW.throwS (text := "a command is too near") hst xt_X7_80 (by decide +kernel) rfl (by decide) (by decide) dX7_learn_61 dX7_learn_64 dX7_learn_65 dX7_learn_67 dX7_learn_70 ?_
          exact fxP.x (gPo_x (if_pos (by rintro ⟨-, -, -, q⟩; rw [q] at c58; exact c58 rfl)) hg1 (h1f.wid (by omega) (by omega)) (by decide) rfl)
      · refine VW.throwS (text := "there are 10 commands, or the stroke has not 1 to 8 directions") hst xt_X7_80 (by decide +kernel) rfl (by decide) (by decide) dX7_learn_37 dX7_learn_40 dX7_learn_41 dX7_learn_43 dX7_learn_46 ?_
        exact fxP.x (gPo_x (if_pos (by omega)) h frm.rf (by decide) rfl)
theorem feF_b (B : List Int) : ∀ (n : Nat) (i : Int), i ≤ feF B n i ∧ feF B n i ≤ i + n
  | 0, i => by show i ≤ i ∧ i ≤ i + 0; omega
  | n + 1, i => by
    have h := feF_b B n (i + 1)
    show i ≤ (if 8 ≤ i ∨ ¬ (48 ≤ rat B i ∧ rat B i ≤ 55) ∨ (0 < i ∧ rat B (i - 1) = rat B i) then i else feF B n (i + 1)) ∧ (if 8 ≤ i ∨ ¬ (48 ≤ rat B i ∧ rat B i ≤ 55) ∨ (0 < i ∧ rat B (i - 1) = rat B i) then i else feF B n (i + 1)) ≤ i + ((n + 1 : Nat) : Int)
    split <;> omega
theorem feF_all (B : List Int) : ∀ (n : Nat) (i : Int), feF B n i = i + n → ∀ j, i ≤ j → j < i + n → j < 8 ∧ 48 ≤ rat B j ∧ rat B j ≤ 55
  | 0, i, h, j, h1, h2 => by omega
  | n + 1, i, h, j, h1, h2 => by
    have h' : (if 8 ≤ i ∨ ¬ (48 ≤ rat B i ∧ rat B i ≤ 55) ∨ (0 < i ∧ rat B (i - 1) = rat B i) then i else feF B n (i + 1)) = i + ((n + 1 : Nat) : Int) := h
    split at h'
    · omega
    · by_cases hj : j = i
      · subst hj; omega
      · exact feF_all B n (i + 1) (by omega) j (by omega) (by omega)
theorem dig_ok {B : List Int} (h : fErr B = B.length) : (dig B).length ≤ 8 ∧ bnd (dig B) 0 7 := by
  have key := feF_all B B.length 0 (by rw [show feF B B.length 0 = fErr B from rfl, h]; omega)
  refine ⟨?_, fun x hx => ?_⟩
  · show (B.map _).length ≤ 8
    rw [List.length_map]
    by_cases h0 : B.length = 0
    · omega
    · have := key ((B.length : Int) - 1) (by omega) (by omega)
      omega
  · obtain ⟨y, hy, rfl⟩ := List.mem_map.mp hx
    obtain ⟨k, hk, rfl⟩ := List.mem_iff_getElem.mp hy
    have := key k (by omega) (by omega)
    rw [rat_nat hk] at this
    simp [List.getD, hk] at this
    omega
theorem dig_snoc (B : List Int) {i : Int} (h : 0 ≤ i ∧ i.toNat < B.length) : (B.take (i + 1).toNat).map (fun c : Int => c - 48) = (B.take i.toNat).map (fun c : Int => c - 48) ++ [rat B i - 48] := by
  rw [take_snoc B h, List.map_append]
  rfl
variable {B0 : List Int}
theorem g_forget (hst : l.stackTraces = false) (hg : isG N sh) (h : hasG μ xs ys C S Z B) (ok : okA (mk xs ys C S Z B)) {c : Int} (hc : R32 c) : Fx G l N sh M_X7_forget [.ref (gB G + 0), vI c] μ (gPo eO1 (opForget xs ys C S Z B c) μ) := by
  refine Fx.of hst rfl (by decide +kernel) (Nat.le_of_ble_eq_true rfl) rfl ?_
  obtain ⟨⟨⟨ok1, ok2, ok3, ok4⟩, ⟨ok5, ok6, ok7⟩, ok8⟩, ⟨ok9, ok10⟩, ok11, ok12⟩ := okA.un ok
  obtain ⟨h0, hv⟩ := id h
  obtain ⟨hP, hC, hS, hZ, hB, tx, ty, hT⟩ := id h0
  have okC : ∀ L ∈ C, bnd L 0 7 := fun L hL => (ok6 L hL).2
  refine VW.aload_n dX7_forget_0 rfl ?_
  refine VW.iload_n dX7_forget_1 rfl ?_
  refine VW.pV1 cv_X7_forget_X7_isCommand dX7_forget_2 (Nat.le_of_ble_eq_true rfl) (gLt hg) hg.2.1 (g_isCommand hst hg hC hc) ?_
  refine VW.if_ne 18 (bR _) dX7_forget_5 (by decide) (fun c5 => ?_) (fun c5 => ?_)
  · have hcc : 0 ≤ c ∧ c < C.length := by simpa [bI0] using c5
    refine VW.aload_n dX7_forget_18 rfl ?_
    refine VW.getR dX7_forget_19 fa_X7_19 (gLt hg) hg.2.1 rfl ?_
    refine VW.aload_n dX7_forget_22 rfl ?_
    refine VW.getR dX7_forget_23 fa_X7_10 (gLt hg) hg.2.1 rfl ?_
    refine VW.fvV1 cv_X7_forget_X1_keep dX7_forget_26 (Nat.le_of_ble_eq_true rfl) (gH hg).1 (gH hg).2.1 (g_keep hst hg h0) (fun μ1 h1 => ?_)
    refine VW.aload_n dX7_forget_29 rfl ?_
    refine VW.getR dX7_forget_30 fa_X7_10 (gLt hg) hg.2.1 rfl ?_
    refine VW.getR dX7_forget_33 fa_X7_151 (by have := hg.1; omega) (gSs hg) rfl ?_
    refine VW.iload_n dX7_forget_36 rfl ?_
    refine VW.fvV1 cv_X7_forget_X0_remove dX7_forget_37 (Nat.le_of_ble_eq_true rfl) (gSc hg).1 (gSc hg).2.1 (g_crem hst hg h1.1 (p := c) hcc) (fun μ2 h2 => ?_)
    refine VW.aload_n dX7_forget_40 rfl ?_
    refine VW.fvV0 cv_X7_forget_X7_lookAgain dX7_forget_41 (Nat.le_of_ble_eq_true rfl) (gLt hg) hg.2.1 (g_lookAgain hst hg h2.1 ok8 (fun L hL => okC L (List.mem_of_mem_eraseIdx hL))) (fun μ3 h3 => ?_)
    refine VW.aload_n dX7_forget_44 rfl ?_
    refine VW.getR dX7_forget_45 fa_X7_10 (gLt hg) hg.2.1 rfl ?_
    refine VW.getR dX7_forget_48 fa_X7_151 (by have := hg.1; omega) (gSs hg) rfl ?_
    refine VW.pV0 cv_X7_forget_X0_held dX7_forget_51 (Nat.le_of_ble_eq_true rfl) (gSc hg).1 (gSc hg).2.1 (c_held hst (gSc hg) h3.1.1.2.1) ?_
    refine VW.ireturn dX7_forget_54 rfl rfl ?_
    rw [show ((C.eraseIdx c.toNat).length : Int) = (C.length : Int) - 1 by rw [List.length_eraseIdx, if_pos (by omega)]; omega]
    exact fxP.r (gPo_r (if_neg (fun q => q hcc)) h3.1 (((h1.2.wid (by omega) (by omega)).tr (h2.2.wid (by omega) (by omega))).tr (h3.2.wid (by omega) (by omega))))
  · refine VW.throwS (text := "there is no such command") hst xt_X7_188 (by decide +kernel) rfl (by decide) (by decide) dX7_forget_8 dX7_forget_11 dX7_forget_12 dX7_forget_14 dX7_forget_17 ?_
    exact fxP.x (gPo_x (if_pos (by have t := c5; simp [bI0] at t; omega)) h frm.rf (by decide) rfl)
theorem rat_set {L : List Int} {s v j : Int} (h : 0 ≤ s ∧ s < L.length) (hj : 0 ≤ j ∧ j < L.length) : rat (L.set s.toNat v) j = if j = s then v else rat L j := by
  unfold rat
  rw [List.length_set, if_pos hj, if_pos hj]
  unfold List.getD
  rw [List.getElem?_set]
  by_cases e : j = s
  · subst e
    rw [if_pos rfl, if_pos (by omega), if_pos rfl]
    rfl
  · rw [if_neg (by omega), if_neg e]
theorem wfS_set {S : List Int} (h : wfS S) {s v : Int} (hs : 0 ≤ s ∧ s < 5) (hv : tbo 1 s ≤ v ∧ v ≤ tbo 2 s) : wfS (S.set s.toNat v) := by
  obtain ⟨h5, h0, h1, h2, h3, h4⟩ := h
  refine ⟨by rw [List.length_set]; exact h5, ?_⟩
  have r : ∀ j : Int, 0 ≤ j ∧ j < 5 → rat (S.set s.toNat v) j = if j = s then v else rat S j := fun j hj => rat_set (by omega) (by omega)
  rw [r 0 (by omega), r 1 (by omega), r 2 (by omega), r 3 (by omega), r 4 (by omega)]
  rcases (by omega : s = 0 ∨ s = 1 ∨ s = 2 ∨ s = 3 ∨ s = 4) with rfl | rfl | rfl | rfl | rfl
  · rw [show tbo 1 0 = 1 from by decide, show tbo 2 0 = 9 from by decide] at hv
    refine ⟨?_, ?_, ?_, ?_, ?_⟩ <;> simp <;> omega
  · rw [show tbo 1 1 = 0 from by decide, show tbo 2 1 = 9 from by decide] at hv
    refine ⟨?_, ?_, ?_, ?_, ?_⟩ <;> simp <;> omega
  · rw [show tbo 1 2 = 1 from by decide, show tbo 2 2 = 9 from by decide] at hv
    refine ⟨?_, ?_, ?_, ?_, ?_⟩ <;> simp <;> omega
  · rw [show tbo 1 3 = 1 from by decide, show tbo 2 3 = 9 from by decide] at hv
    refine ⟨?_, ?_, ?_, ?_, ?_⟩ <;> simp <;> omega
  · rw [show tbo 1 4 = 0 from by decide, show tbo 2 4 = 20 from by decide] at hv
    refine ⟨?_, ?_, ?_, ?_, ?_⟩ <;> simp <;> omega
theorem tb12 {s : Int} : 0 ≤ tbo 1 s ∧ tbo 1 s ≤ 9 ∧ 0 ≤ tbo 2 s ∧ tbo 2 s ≤ 20 := by
  by_cases hs : 0 ≤ s ∧ s < 5
  · rcases (by omega : s = 0 ∨ s = 1 ∨ s = 2 ∨ s = 3 ∨ s = 4) with rfl | rfl | rfl | rfl | rfl <;> decide
  · have e1 : (tbV 1).length = 5 := rfl
    have e2 : (tbV 2).length = 5 := rfl
    unfold tbo
    rw [if_neg (by omega), if_neg (by omega)]
    decide
theorem laI_b {S : List Int} {C : List (List Int)} (H : ∀ x ∈ C, ∀ y ∈ C, 0 ≤ dstOf S x y ∧ dstOf S x y ≤ 1000) {c : Int} (hc : 0 ≤ c ∧ c < C.length) : ∀ (n : Nat) (o b : Int), 0 ≤ o → o + n ≤ C.length → -1 ≤ b ∧ b ≤ 1000 → -1 ≤ laI C S c n o b ∧ laI C S c n o b ≤ 1000
  | 0, o, b, _, _, hb => hb
  | n + 1, o, b, h0, h1, hb => by
    have hd := H _ (getD_mem C (i := o.toNat) (by omega)) _ (getD_mem C (i := c.toNat) (by omega))
    exact laI_b H hc n (o + 1) _ (by omega) (by omega) (by split <;> omega)
theorem laO_b {S : List Int} {C : List (List Int)} (H : ∀ x ∈ C, ∀ y ∈ C, 0 ≤ dstOf S x y ∧ dstOf S x y ≤ 1000) : ∀ (n : Nat) (c b : Int), 0 ≤ c → c + n ≤ C.length → -1 ≤ b ∧ b ≤ 1000 → -1 ≤ laO C S n c b ∧ laO C S n c b ≤ 1000
  | 0, c, b, _, _, hb => hb
  | n + 1, c, b, h0, h1, hb => laO_b H n (c + 1) _ (by omega) (by omega) (laI_b H (c := c) (by omega) c.toNat 0 b (by omega) (by omega) hb)
theorem least_b {S : List Int} {C : List (List Int)} (hw : wfS S) (h8 : ∀ L ∈ C, L.length ≤ 8 ∧ bnd L 0 7) : -1 ≤ leastA C S ∧ leastA C S ≤ 1000 :=
  laO_b (fun x hx y hy => dstOf_b hw x y (by have := (h8 x hx).1; omega) (h8 y hy).1) C.length 0 (-1) (by omega) (by omega) (by omega)
theorem g_set (hst : l.stackTraces = false) (hg : isG N sh) (h : hasG μ xs ys C S Z B) (ok : okA (mk xs ys C S Z B)) {s v : Int} (hs : R32 s) (hvv : R32 v) : Fx G l N sh M_X7_set [.ref (gB G + 0), vI s, vI v] μ (gPo eO3 (opSet xs ys C S Z B s v) μ) := by
  refine Fx.of hst rfl (by decide +kernel) (Nat.le_of_ble_eq_true rfl) rfl ?_
  obtain ⟨⟨⟨ok1, ok2, ok3, ok4⟩, ⟨ok5, ok6, ok7⟩, ok8⟩, ⟨ok9, ok10⟩, ok11, ok12⟩ := okA.un ok
  obtain ⟨h0, hv⟩ := id h
  obtain ⟨hP, hC, hS, hZ, hB, tx, ty, hT⟩ := id h0
  have okC : ∀ L ∈ C, bnd L 0 7 := fun L hL => (ok6 L hL).2
  refine VW.iload_n dX7_set_0 rfl ?_
  refine VW.pS1 cs_X7_set_X7_isSetting dX7_set_1 (Nat.le_of_ble_eq_true rfl) (s_X7_isSetting hst hs) ?_
  refine VW.if_ne 17 (bR _) dX7_set_4 (by decide) (fun c4 => ?_) (fun c4 => ?_)
  · have hss : 0 ≤ s ∧ s < 5 := by simpa [bI0] using c4
    have hS5 := ok8.1
    have t12 := @tb12 s
    refine VW.iload_n dX7_set_17 rfl ?_
    refine VW.gets dX7_set_18 ta_X7_201 ?_
    refine VW.iload_n dX7_set_21 rfl ?_
    refine VW.pS2 cs_X7_set_X7_of dX7_set_22 (Nat.le_of_ble_eq_true rfl) (s_X7_of hst (t := 1) (by decide) hs) ?_
    refine VW.icmp_lt 39 ⟨by omega, by omega⟩ ⟨by omega, by omega⟩ dX7_set_25 (by decide) (fun c25 => ?_) (fun c25 => ?_)
    · refine VW.throwS (text := "the value is out of range") hst xt_X7_66 (by decide +kernel) rfl (by decide) (by decide) dX7_set_39 dX7_set_42 dX7_set_43 dX7_set_45 dX7_set_48 ?_
      exact fxP.x (gPo_x ((if_neg (fun q => q hss)).trans (if_pos (by omega))) h frm.rf (by decide) rfl)
    · refine VW.iload_n dX7_set_28 rfl ?_
      refine VW.gets dX7_set_29 ta_X7_204 ?_
      refine VW.iload_n dX7_set_32 rfl ?_
      refine VW.pS2 cs_X7_set_X7_of dX7_set_33 (Nat.le_of_ble_eq_true rfl) (s_X7_of hst (t := 2) (by decide) hs) ?_
      refine VW.icmp_le 49 ⟨by omega, by omega⟩ ⟨by omega, by omega⟩ dX7_set_36 (by decide) (fun c36 => ?_) (fun c36 => ?_)
      · refine VW.aload_n dX7_set_49 rfl ?_
        refine VW.getR dX7_set_50 fa_X7_56 (gLt hg) hg.2.1 rfl ?_
        refine VW.aload_n dX7_set_53 rfl ?_
        refine VW.getR dX7_set_54 fa_X7_10 (gLt hg) hg.2.1 rfl ?_
        refine VW.getR dX7_set_57 fa_X7_209 (by have := hg.1; omega) (gSs hg) rfl ?_
        refine VW.fvV1 cv_X7_set_X4_copy dX7_set_60 (Nat.le_of_ble_eq_true rfl) (gS2 hg).1 (gS2 hg).2.1 (r_copy hst (gS2 hg) (gSr hg) hS (by omega) ⟨by omega, by omega, by omega⟩) (fun μ1 h1 => ?_)
        refine VW.aload_n dX7_set_63 rfl ?_
        refine VW.getR dX7_set_64 fa_X7_56 (gLt hg) hg.2.1 rfl ?_
        refine VW.iload_n dX7_set_67 rfl ?_
        refine VW.iload_n dX7_set_68 rfl ?_
        refine VW.fvV2 cv_X7_set_X4_put dX7_set_69 (Nat.le_of_ble_eq_true rfl) (gS2 hg).1 (gS2 hg).2.1 (r_put hst (gS2 hg) h1.1 (i := s) (v := v) hs (by omega)) (fun μ2 h2 => ?_)
        have hw2 := wfS_set (v := v) ok8 hss ⟨by omega, by omega⟩
        have hlb := least_b hw2 ok6
        have hg2 := (h.keep h1.2 (by omega) (by omega)).keep h2.2 (by omega) (by omega)
        refine VW.aload_n dX7_set_72 rfl ?_
        refine VW.aload_n dX7_set_73 rfl ?_
        refine VW.getR dX7_set_74 fa_X7_56 (gLt hg) hg.2.1 rfl ?_
        refine VW.fiV1 cv_X7_set_X7_leastApart dX7_set_77 (Nat.le_of_ble_eq_true rfl) (gLt hg) hg.2.1 (g_leastApart hst hg hg2.1.2.1 okC (gS2 hg) h2.1 hw2 (by omega)) (fun r3 μ3 h3 => ?_)
        obtain ⟨rfl, h3f⟩ := h3
        have hg3 := hg2.keep h3f (by omega) (by omega)
        have f3 : frm μ μ3 0 273 := ((h1.2.wid (by omega) (by omega)).tr (h2.2.wid (by omega) (by omega))).tr (h3f.wid (by omega) (by omega))
        have hw24 := hw2.2.2.2.2.2
        refine VW.istore_n (lv' := [(0, _), (1, _), (2, _), (3, _)]) dX7_set_80 (by decide) rfl ?_
        refine VW.iload_n dX7_set_81 rfl ?_
        refine VW.iconst dX7_set_82 ?_
        refine VW.icmp_eq 110 ⟨by omega, by omega⟩ ⟨by omega, by omega⟩ dX7_set_83 (by decide) (fun c83 => ?_) (fun c83 => ?_)
        · refine VW.aload_n dX7_set_110 rfl ?_
          refine VW.getR dX7_set_111 fa_X7_10 (gLt hg) hg.2.1 rfl ?_
          refine VW.getR dX7_set_114 fa_X7_209 (by have := hg.1; omega) (gSs hg) rfl ?_
          refine VW.iload_n dX7_set_117 rfl ?_
          refine VW.pV1 cv_X7_set_X4_at dX7_set_118 (Nat.le_of_ble_eq_true rfl) (gSr hg).1 (gSr hg).2.1 (r_at hst (gSr hg) hg3.1.2.2.1 hs) ?_
          refine VW.istore (lv' := [(0, _), (1, _), (2, _), (3, _), (4, _)]) dX7_set_121 (by decide) rfl ?_
          refine VW.aload_n dX7_set_123 rfl ?_
          refine VW.getR dX7_set_124 fa_X7_19 (gLt hg) hg.2.1 rfl ?_
          refine VW.aload_n dX7_set_127 rfl ?_
          refine VW.getR dX7_set_128 fa_X7_10 (gLt hg) hg.2.1 rfl ?_
          refine VW.fvV1 cv_X7_set_X1_keep dX7_set_131 (Nat.le_of_ble_eq_true rfl) (gH hg).1 (gH hg).2.1 (g_keep hst hg hg3.1) (fun μ4 h4 => ?_)
          refine VW.aload_n dX7_set_134 rfl ?_
          refine VW.getR dX7_set_135 fa_X7_10 (gLt hg) hg.2.1 rfl ?_
          refine VW.getR dX7_set_138 fa_X7_209 (by have := hg.1; omega) (gSs hg) rfl ?_
          refine VW.iload_n dX7_set_141 rfl ?_
          refine VW.iload_n dX7_set_142 rfl ?_
          refine VW.fvV2 cv_X7_set_X4_put dX7_set_143 (Nat.le_of_ble_eq_true rfl) (gSr hg).1 (gSr hg).2.1 (g_sput hst hg h4.1 (i := s) (v := v) (by omega)) (fun μ5 h5 => ?_)
          refine VW.aload_n dX7_set_146 rfl ?_
          refine VW.fvV0 cv_X7_set_X7_lookAgain dX7_set_147 (Nat.le_of_ble_eq_true rfl) (gLt hg) hg.2.1 (g_lookAgain hst hg h5.1 hw2 okC) (fun μ6 h6 => ?_)
          refine VW.iload dX7_set_150 rfl ?_
          refine VW.ireturn dX7_set_152 rfl rfl ?_
          exact fxP.r (gPo_r ((if_neg (fun q => q hss)).trans ((if_neg (by omega)).trans (if_neg (by omega)))) h6.1 (((f3.tr (h4.2.wid (by omega) (by omega))).tr (h5.2.wid (by omega) (by omega))).tr (h6.2.wid (by omega) (by omega))))
        · refine VW.iload_n dX7_set_86 rfl ?_
          refine VW.iconst dX7_set_87 ?_
          refine VW.aload_n dX7_set_88 rfl ?_
          refine VW.getR dX7_set_89 fa_X7_56 (gLt hg) hg.2.1 rfl ?_
          refine VW.iconst dX7_set_92 ?_
          refine VW.pV1 cv_X7_set_X4_at dX7_set_93 (Nat.le_of_ble_eq_true rfl) (gS2 hg).1 (gS2 hg).2.1 (r_at hst (gS2 hg) (h2.1.keep h3f (by omega)) (by decide)) ?_
          refine VW.imul dX7_set_96 ?_
          refine VW.icmp_gt 110 ⟨by omega, by omega⟩ ⟨by omega, by omega⟩ dX7_set_97 (by decide) (fun c97 => ?_) (fun c97 => ?_)
          · refine VW.aload_n dX7_set_110 rfl ?_
            refine VW.getR dX7_set_111 fa_X7_10 (gLt hg) hg.2.1 rfl ?_
            refine VW.getR dX7_set_114 fa_X7_209 (by have := hg.1; omega) (gSs hg) rfl ?_
            refine VW.iload_n dX7_set_117 rfl ?_
            refine VW.pV1 cv_X7_set_X4_at dX7_set_118 (Nat.le_of_ble_eq_true rfl) (gSr hg).1 (gSr hg).2.1 (r_at hst (gSr hg) hg3.1.2.2.1 hs) ?_
            refine VW.istore (lv' := [(0, _), (1, _), (2, _), (3, _), (4, _)]) dX7_set_121 (by decide) rfl ?_
            refine VW.aload_n dX7_set_123 rfl ?_
            refine VW.getR dX7_set_124 fa_X7_19 (gLt hg) hg.2.1 rfl ?_
            refine VW.aload_n dX7_set_127 rfl ?_
            refine VW.getR dX7_set_128 fa_X7_10 (gLt hg) hg.2.1 rfl ?_
            refine VW.fvV1 cv_X7_set_X1_keep dX7_set_131 (Nat.le_of_ble_eq_true rfl) (gH hg).1 (gH hg).2.1 (g_keep hst hg hg3.1) (fun μ4 h4 => ?_)
            refine VW.aload_n dX7_set_134 rfl ?_
            refine VW.getR dX7_set_135 fa_X7_10 (gLt hg) hg.2.1 rfl ?_
            refine VW.getR dX7_set_138 fa_X7_209 (by have := hg.1; omega) (gSs hg) rfl ?_
            refine VW.iload_n dX7_set_141 rfl ?_
            refine VW.iload_n dX7_set_142 rfl ?_
            refine VW.fvV2 cv_X7_set_X4_put dX7_set_143 (Nat.le_of_ble_eq_true rfl) (gSr hg).1 (gSr hg).2.1 (g_sput hst hg h4.1 (i := s) (v := v) (by omega)) (fun μ5 h5 => ?_)
            refine VW.aload_n dX7_set_146 rfl ?_
            refine VW.fvV0 cv_X7_set_X7_lookAgain dX7_set_147 (Nat.le_of_ble_eq_true rfl) (gLt hg) hg.2.1 (g_lookAgain hst hg h5.1 hw2 okC) (fun μ6 h6 => ?_)
            refine VW.iload dX7_set_150 rfl ?_
            refine VW.ireturn dX7_set_152 rfl rfl ?_
            exact fxP.r (gPo_r ((if_neg (fun q => q hss)).trans ((if_neg (by omega)).trans (if_neg (by omega)))) h6.1 (((f3.tr (h4.2.wid (by omega) (by omega))).tr (h5.2.wid (by omega) (by omega))).tr (h6.2.wid (by omega) (by omega))))
          · refine VW.throwS (text := "two commands would be too near") hst xt_X7_80 (by decide +kernel) rfl (by decide) (by decide) dX7_set_100 dX7_set_103 dX7_set_104 dX7_set_106 dX7_set_109 ?_
            exact fxP.x (gPo_x ((if_neg (fun q => q hss)).trans ((if_neg (by omega)).trans (if_pos (by omega)))) hg3 f3 (by decide) rfl)
      · refine VW.throwS (text := "the value is out of range") hst xt_X7_66 (by decide +kernel) rfl (by decide) (by decide) dX7_set_39 dX7_set_42 dX7_set_43 dX7_set_45 dX7_set_48 ?_
        exact fxP.x (gPo_x ((if_neg (fun q => q hss)).trans (if_pos (by omega))) h frm.rf (by decide) rfl)
  · refine VW.throwS (text := "there is no such setting") hst xt_X7_188 (by decide +kernel) rfl (by decide) (by decide) dX7_set_7 dX7_set_10 dX7_set_11 dX7_set_13 dX7_set_16 ?_
    exact fxP.x (gPo_x (if_pos (by have t := c4; simp [bI0] at t; omega)) h frm.rf (by decide) rfl)
theorem hasP.same5 {p : Nat} (h : hasP μ p xs ys) (f : ∀ i, p ≤ i ∧ i < p + 5 → μ' i = μ i) : hasP μ' p xs ys := ⟨h.1.same (f _ (by omega)) (f _ (by omega)), h.2.1.same (f _ (by omega)) (f _ (by omega)), h.2.2⟩
end PI
