/-! ===== LatticeGestures: the calls that change ===== -/
def isG (N : Nat) (sh : Nat → ShT) : Prop := 273 ≤ N ∧ sh 0 = sO 7 [fR 1, fR 33, fR 227, fR 229, fR 245, fR 248, fR 253, fR 269, fR 271] ∧ isState N sh 1 ∧ isHist N sh 33 ∧ isRow N sh 227 60 ∧ isView N sh 229 ∧ isMeter N sh 245 ∧ isPath N sh 248 ∧ isView N sh 253 ∧ isRow N sh 269 5 ∧ isRow N sh 271 8
section PI0
variable {N : Nat} {sh : Nat → ShT}
theorem gLt (hg : isG N sh) : 0 < N := by have := hg.1; omega
theorem gSt (hg : isG N sh) : isState N sh 1 := hg.2.2.1
theorem gH (hg : isG N sh) : isHist N sh 33 := hg.2.2.2.1
theorem gBu (hg : isG N sh) : isRow N sh 227 60 := hg.2.2.2.2.1
theorem gV (hg : isG N sh) : isView N sh 229 := hg.2.2.2.2.2.1
theorem gM (hg : isG N sh) : isMeter N sh 245 := hg.2.2.2.2.2.2.1
theorem gPt (hg : isG N sh) : isPath N sh 248 := hg.2.2.2.2.2.2.2.1
theorem gV2 (hg : isG N sh) : isView N sh 253 := hg.2.2.2.2.2.2.2.2.1
theorem gS2 (hg : isG N sh) : isRow N sh 269 5 := hg.2.2.2.2.2.2.2.2.2.1
theorem gT2 (hg : isG N sh) : isRow N sh 271 8 := hg.2.2.2.2.2.2.2.2.2.2
theorem gSs (hg : isG N sh) : sh 1 = sO 5 [fR 2, fR 7, fR 31] := (gSt hg).2.1
theorem gSp (hg : isG N sh) : isPath N sh 2 := (gSt hg).2.2.1
theorem gSc (hg : isG N sh) : isCmds N sh 7 := (gSt hg).2.2.2.1
theorem gSr (hg : isG N sh) : isRow N sh 31 5 := (gSt hg).2.2.2.2
theorem gVs (hg : isG N sh) : sh 229 = sO 6 [fR 230, fR 233, fR 235, fR 237, fR 239, fR 241, fR 243, fI] := (gV hg).2.1
theorem gVm (hg : isG N sh) : isMeter N sh 230 := (gV hg).2.2.1
theorem gV1 (hg : isG N sh) : isRow N sh 233 40 := (gV hg).2.2.2.1
theorem gV22 (hg : isG N sh) : isRow N sh 235 40 := (gV hg).2.2.2.2.1
theorem gV3 (hg : isG N sh) : isRow N sh 237 40 := (gV hg).2.2.2.2.2.1
theorem gV4 (hg : isG N sh) : isRow N sh 239 40 := (gV hg).2.2.2.2.2.2.1
theorem gV5 (hg : isG N sh) : isRow N sh 241 10 := (gV hg).2.2.2.2.2.2.2.1
theorem gV6 (hg : isG N sh) : isRow N sh 243 10 := (gV hg).2.2.2.2.2.2.2.2
theorem gCs (hg : isG N sh) : sh 7 = sO 0 [fR 8, fR 29, fI] := (gSc hg).2.1
end PI0
section VNW
variable {G : GT} {l : Launch} {z : Option Nat} {M M' : MD} {pc idx : Nat} {lv : List (Nat × Value)} {rest : List Value} {w : WT} {k n : Nat} {Φ : RT → Prop} {N : Nat} {sh : Nat → ShT} {μ : Mem}
/-- throw new E(text) -/
theorem VW.throwSW {ik is ic : Nat} {E text : String} (hst : l.stackTraces = false) (xt : XT (mY M).cls ik ic E) (hstr : ((mY M).cls, is, text) ∈ eStr) (hh : mH M = []) (hf : 6 ≤ mF M) (ho : (rest.map fun v => v.category).sum + 82 ≤ mO M)
    (d0 : decode (mC M) pc = .ok (.new ik, 3)) (d3 : decode (mC M) (pc + 3) = .ok (.dup, 1)) (d4 : decode (mC M) (pc + 4) = .ok (.ldc_w is, 3)) (d6 : decode (mC M) (pc + 7) = .ok (.invokespecial ic, 3)) (d9 : decode (mC M) (pc + 10) = .ok (.athrow, 1))
    (hΦ : Φ (.inr E, w, k + 1, n + 6)) : VW G l z M pc lv rest w k n Φ :=
  ⟨_, hΦ, ⟨Nat.le_add_right _ _, Nat.le_add_right _ _⟩, fun p e R s m args below meth c H locs ls C hl hw hS => by
    obtain ⟨x1, x2, x3, x4, x5, x6, x7, x8⟩ := xt
    obtain ⟨a, ha⟩ := C.2.2.2.2.2.1.2.2.2.2.2.1 _ hstr
    have hat : ∀ w ∈ vx_atS (mY M).cls ic E xN, w.before args s = true := vx_hat (fun w hw => C.2.1 _ (x5 w hw)) x6 (vx_c (va_Nw.use rfl (C.2.2.2.2.2.1.2.2.2.2.2.2.2.2.1.1 _ x8)) (fun w hw => by obtain ⟨y, hy, rfl⟩ := List.mem_map.mp hw; exact va_Nw.use rfl (C.2.2.2.2.2.1.2.2.2.2.2.2.2.2.1.2 y hy)))
    exact vx_throwSW (names := xN) (text := text) (sa := a) (A := gA G) C.1.1 C.1.2.1 hst C.1.2.2.2.2 x1 x2 (C.2.1 _ x3) (C.2.1 _ x4) ha hat x7 C.2.2.2.2.2.1.2.2.2.1 C.2.2.2.2.2.1.2.2.2.2.1 hS (hl.1.trans C.1.2.2.1.symm) d0 d3 d4 d6 d9
      (fun x hx => by rw [C.2.2.2.2.1, hh] at hx; cases hx) (by have := C.2.2.1.2.1; show 2 + 3 < R.frames; omega) (by have := C.2.2.1.2.2.1; show _ + (13 * (2 + 1) + 43) ≤ R.locals; omega) C.2.2.1.2.2.2.1 C.2.2.1.2.2.2.2 C.2.2.1.1
      (fun t hvm hz hk => ⟨⟨rfl, va_P.kept hw (fun i q hq => hk _ (hw i q hq).lt)⟩, ⟨Nat.le_trans hS.1 hz, fun q h1 h2 => (hk q (Nat.lt_of_lt_of_le h1 hS.1)).trans (hS.2.1 q h1 h2)⟩⟩)
      hS.2.2 (Nat.le_refl _) (Nat.le_refl _)⟩
end VNW
def hasG0 (μ : Mem) (xs ys : List Int) (C : List (List Int)) (S : List Int) (Z : List St) (B : List Int) : Prop :=
  hasP μ 2 xs ys ∧ hasC μ 7 C ∧ hasRow μ 31 5 S ∧ hasH μ 33 Z ∧ hasRow μ 227 60 B ∧ ∃ tx ty, hasP μ 248 tx ty
def hasG (μ : Mem) (xs ys : List Int) (C : List (List Int)) (S : List Int) (Z : List St) (B : List Int) : Prop := hasG0 μ xs ys C S Z B ∧ hasV μ 229 xs ys C S
def hasA (μ : Mem) (A : AS) : Prop := hasG μ A.1.1.1 A.1.1.2 A.1.2.1 A.1.2.2 A.2.1 A.2.2
/-- how a call ends -/
def gPo (E : Int → String) (q : QS) (μ : Mem) : (Option Value ⊕ String) → Mem → Prop := fun r μ' => r = (if q.1.1 = 0 then .inl (some (vI q.1.2)) else .inr (E q.1.1)) ∧ hasA μ' q.2 ∧ frm μ μ' 0 273
def gLo (E : Int → String) (q : Int × Int) (A : AS) (μ : Mem) : (Option Value ⊕ String) → Mem → Prop := fun r μ' => r = (if q.1 = 0 then .inl (some (vI q.2)) else .inr (E q.1)) ∧ hasA μ' A ∧ frm μ μ' 0 273
abbrev xIA : String := "java/lang/IllegalArgumentException"
abbrev xIS : String := "java/lang/IllegalStateException"
abbrev xIO : String := "java/lang/IndexOutOfBoundsException"
def e12 : Int → String := fun k => if k = 1 then xIA else xIS
def eS1 : Int → String := fun _ => xIS
def eO1 : Int → String := fun _ => xIO
def eA1 : Int → String := fun _ => xIA
def eO2 : Int → String := fun k => if k = 1 then xIO else xIA
def eO3 : Int → String := fun k => if k = 1 then xIO else if k = 2 then xIA else xIS
section PI
variable {G : GT} {l : Launch} {N : Nat} {sh : Nat → ShT} {μ μ' : Mem} {xs ys xs' ys' S S' B B' : List Int} {C C' : List (List Int)} {Z Z' : List St} {E : Int → String} {q : QS} {q2 : Int × Int}
theorem gPo_x {k : Int} {s : String} (e : q = ((k, 0), mk xs ys C S Z B)) (h : hasG μ' xs ys C S Z B) (f : frm μ μ' 0 273) (hk : ¬ k = 0) (hE : E k = s) : gPo E q μ (.inr s) μ' := by
  subst e
  exact ⟨by rw [if_neg hk, hE], h, f⟩
theorem gPo_r {r : Int} (e : q = ((0, r), mk xs ys C S Z B)) (h : hasG μ' xs ys C S Z B) (f : frm μ μ' 0 273) : gPo E q μ (.inl (some (vI r))) μ' := by
  subst e
  exact ⟨by rw [if_pos rfl], h, f⟩
theorem gLo_x {k : Int} {s : String} (e : q2 = (k, 0)) (h : hasG μ' xs ys C S Z B) (f : frm μ μ' 0 273) (hk : ¬ k = 0) (hE : E k = s) : gLo E q2 (mk xs ys C S Z B) μ (.inr s) μ' := by
  subst e
  exact ⟨by rw [if_neg hk, hE], h, f⟩
theorem gLo_r {r : Int} (e : q2 = (0, r)) (h : hasG μ' xs ys C S Z B) (f : frm μ μ' 0 273) : gLo E q2 (mk xs ys C S Z B) μ (.inl (some (vI r))) μ' := by
  subst e
  exact ⟨by rw [if_pos rfl], h, f⟩
theorem bI0 {b : Bool} : bI b = 0 ↔ ¬ b = true := by cases b <;> simp [bI]
theorem bI_b (b : Bool) : 0 ≤ bI b ∧ bI b ≤ 1 := by cases b <;> simp [bI]
theorem hasG0.keep (h : hasG0 μ xs ys C S Z B) {lo hi : Nat} (f : frm μ μ' lo hi) (hl : 229 ≤ lo) (hh : hi ≤ 248 ∨ 253 ≤ lo) : hasG0 μ' xs ys C S Z B := by
  obtain ⟨a, b, c, d, e, tx, ty, g⟩ := h
  exact ⟨a.keep f (by omega), b.keep f (by omega), c.keep f (by omega), d.keep f (by omega), e.keep f (by omega), tx, ty, g.keep f (by omega)⟩
theorem hasG.keep (h : hasG μ xs ys C S Z B) {lo hi : Nat} (f : frm μ μ' lo hi) (hl : 245 ≤ lo) (hh : hi ≤ 248 ∨ 253 ≤ lo) : hasG μ' xs ys C S Z B := ⟨h.1.keep f (by omega) hh, h.2.keep f (by omega)⟩
theorem Zv.mono {M : MD} {av : List Value} {Ψ Ψ' : Mem → Prop} (h : Zv G l N sh M av μ Ψ) (f : ∀ μ', Ψ μ' → Ψ' μ') : Zv G l N sh M av μ Ψ' := Fx.mono h (by rintro o μ' ⟨v, rfl, rfl, h⟩; exact ⟨_, rfl, rfl, f _ h⟩)
theorem g_keep (hst : l.stackTraces = false) (hg : isG N sh) (h : hasG0 μ xs ys C S Z B) : Zv G l N sh M_X1_keep [.ref (gB G + 33), .ref (gB G + 1)] μ (fun μ' => hasG0 μ' xs ys C S (kp Z ((xs, ys), C, S)) B ∧ frm μ μ' 33 227) := by
  obtain ⟨a, b, c, d, e, tx, ty, g⟩ := h
  exact Zv.mono (h_keep hst (gH hg) (gSt hg) d (σ := ((xs, ys), C, S)) ⟨a, b, c⟩ (by omega)) fun μ' h => ⟨⟨a.keep h.2 (by omega), b.keep h.2 (by omega), c.keep h.2 (by omega), h.1, e.keep h.2 (by omega), tx, ty, g.keep h.2 (by omega)⟩, h.2⟩
theorem g_add (hst : l.stackTraces = false) (hg : isG N sh) (h : hasG0 μ xs ys C S Z B) {x y : Int} (hx : 0 ≤ x ∧ x ≤ 31) (hy : 0 ≤ y ∧ y ≤ 31) (hlt : xs.length < 41) : Zv G l N sh M_X3_add [.ref (gB G + 2), vI x, vI y] μ (fun μ' => hasG0 μ' (xs ++ [x]) (ys ++ [y]) C S Z B ∧ frm μ μ' 2 7) := by
  obtain ⟨a, b, c, d, e, tx, ty, g⟩ := h
  exact Zv.mono (p_add hst (gSp hg) a hlt hx hy) fun μ' h => ⟨⟨h.1, b.keep h.2 (by omega), c.keep h.2 (by omega), d.keep h.2 (by omega), e.keep h.2 (by omega), tx, ty, g.keep h.2 (by omega)⟩, h.2⟩
theorem g_cut (hst : l.stackTraces = false) (hg : isG N sh) (h : hasG0 μ xs ys C S Z B) {i : Int} (hi : R32 i) (h0 : 0 ≤ i) : Zv G l N sh M_X3_cut [.ref (gB G + 2), vI i] μ (fun μ' => hasG0 μ' (xs.take i.toNat) (ys.take i.toNat) C S Z B ∧ frm μ μ' 2 7) := by
  obtain ⟨a, b, c, d, e, tx, ty, g⟩ := h
  exact Zv.mono (p_cut hst (gSp hg) a hi h0) fun μ' h => ⟨⟨h.1, b.keep h.2 (by omega), c.keep h.2 (by omega), d.keep h.2 (by omega), e.keep h.2 (by omega), tx, ty, g.keep h.2 (by omega)⟩, h.2⟩
theorem g_pcopy (hst : l.stackTraces = false) (hg : isG N sh) (h : hasG0 μ xs ys C S Z B) (ht : hasP μ 248 xs' ys') : Zv G l N sh M_X3_copy [.ref (gB G + 2), .ref (gB G + 248)] μ (fun μ' => hasG0 μ' xs' ys' C S Z B ∧ frm μ μ' 2 7) := by
  obtain ⟨a, b, c, d, e, tx, ty, g⟩ := h
  exact Zv.mono (p_copy hst (gSp hg) (gPt hg) ht (by omega)) fun μ' h => ⟨⟨h.1, b.keep h.2 (by omega), c.keep h.2 (by omega), d.keep h.2 (by omega), e.keep h.2 (by omega), tx, ty, g.keep h.2 (by omega)⟩, h.2⟩
theorem g_cadd (hst : l.stackTraces = false) (hg : isG N sh) (h : hasG0 μ xs ys C S Z B) {r : Nat} {capb : Nat} {L : List Int} (hb : isRow N sh r capb) (hL : hasRow μ r capb L) (hl8 : L.length ≤ 8) (hlt : C.length < 10) (hd : 31 ≤ r) : Zv G l N sh M_X0_add [.ref (gB G + 7), .ref (gB G + r)] μ (fun μ' => hasG0 μ' xs ys (C ++ [L]) S Z B ∧ frm μ μ' 7 31) := by
  obtain ⟨a, b, c, d, e, tx, ty, g⟩ := h
  exact Zv.mono (c_add hst (gSc hg) b hlt hb hL hl8 (by omega)) fun μ' h => ⟨⟨a.keep h.2 (by omega), h.1, c.keep h.2 (by omega), d.keep h.2 (by omega), e.keep h.2 (by omega), tx, ty, g.keep h.2 (by omega)⟩, h.2⟩
theorem g_crem (hst : l.stackTraces = false) (hg : isG N sh) (h : hasG0 μ xs ys C S Z B) {p : Int} (h0 : 0 ≤ p ∧ p < C.length) : Zv G l N sh M_X0_remove [.ref (gB G + 7), vI p] μ (fun μ' => hasG0 μ' xs ys (C.eraseIdx p.toNat) S Z B ∧ frm μ μ' 7 31) := by
  obtain ⟨a, b, c, d, e, tx, ty, g⟩ := h
  exact Zv.mono (c_remove hst (gSc hg) b h0) fun μ' h => ⟨⟨a.keep h.2 (by omega), h.1, c.keep h.2 (by omega), d.keep h.2 (by omega), e.keep h.2 (by omega), tx, ty, g.keep h.2 (by omega)⟩, h.2⟩
theorem g_sput (hst : l.stackTraces = false) (hg : isG N sh) (h : hasG0 μ xs ys C S Z B) {i v : Int} (hi : 0 ≤ i ∧ i < S.length) : Zv G l N sh M_X4_put [.ref (gB G + 31), vI i, vI v] μ (fun μ' => hasG0 μ' xs ys C (S.set i.toNat v) Z B ∧ frm μ μ' 31 33) := by
  obtain ⟨a, b, c, d, e, tx, ty, g⟩ := h
  exact Zv.mono (r_put hst (gSr hg) c (by have := c.cap; exact ⟨by omega, by omega⟩) hi.1) fun μ' h => ⟨⟨a.keep h.2 (by omega), b.keep h.2 (by omega), h.1, d.keep (h.2.wid (by omega) (by omega) : frm μ μ' 31 33) (by omega), e.keep h.2 (by omega), tx, ty, g.keep h.2 (by omega)⟩, (h.2.wid (by omega) (by omega) : frm μ μ' 31 33)⟩
theorem g_look (hst : l.stackTraces = false) (hg : isG N sh) (h : hasG0 μ xs ys C S Z B) (hw : wfS S) (hCb : ∀ L ∈ C, bnd L 0 7) : Zv G l N sh M_X6_look [.ref (gB G + 229), .ref (gB G + 2), .ref (gB G + 1)] μ (fun μ' => hasG μ' xs ys C S Z B ∧ frm μ μ' 229 245) :=
  Zv.mono (v_look hst (gV hg) (gSp hg) (gSt hg) h.1 h.2.1 h.2.2.1 hw hCb (by omega) (by omega)) fun μ' h' => ⟨⟨h.keep h'.2 (by omega) (by omega), h'.1⟩, h'.2⟩
theorem okA.un (h : okA (mk xs ys C S Z B)) : ((ys.length = xs.length ∧ xs.length ≤ 40 ∧ bnd xs 0 31 ∧ bnd ys 0 31) ∧ (C.length ≤ 10 ∧ (∀ L ∈ C, L.length ≤ 8 ∧ bnd L 0 7) ∧ C.Nodup) ∧ wfS S) ∧ (Z.length ≤ 6 ∧ ∀ τ ∈ Z, okS τ) ∧ B.length ≤ 60 ∧ bnd B 33 126 := h
theorem g_lookAgain (hst : l.stackTraces = false) (hg : isG N sh) (h0 : hasG0 μ xs ys C S Z B) (hw : wfS S) (hCb : ∀ L ∈ C, bnd L 0 7) : Zv G l N sh M_X7_lookAgain [.ref (gB G + 0)] μ (fun μ' => hasG μ' xs ys C S Z B ∧ frm μ μ' 229 245) := by
  refine Fx.of hst rfl (by decide +kernel) (Nat.le_of_ble_eq_true rfl) rfl ?_
  refine VW.aload_n dX7_lookAgain_0 rfl ?_
  refine VW.getR dX7_lookAgain_1 fa_X7_35 (gLt hg) hg.2.1 rfl ?_
  refine VW.aload_n dX7_lookAgain_4 rfl ?_
  refine VW.getR dX7_lookAgain_5 fa_X7_10 (gLt hg) hg.2.1 rfl ?_
  refine VW.getR dX7_lookAgain_8 fa_X7_73 (by have := hg.1; omega) (gSs hg) rfl ?_
  refine VW.aload_n dX7_lookAgain_11 rfl ?_
  refine VW.getR dX7_lookAgain_12 fa_X7_10 (gLt hg) hg.2.1 rfl ?_
  refine VW.fvV2 cv_X7_lookAgain_X6_look dX7_lookAgain_15 (Nat.le_of_ble_eq_true rfl) (by have := hg.1; omega) (gVs hg) (g_look hst hg h0 hw hCb) (fun μ1 h1 => ?_)
  refine VW.vreturn dX7_lookAgain_18 rfl ?_
  refine fxP.vv ?_
  exact h1
theorem g_isCommand (hst : l.stackTraces = false) (hg : isG N sh) (hC : hasC μ 7 C) {i : Int} (hi : R32 i) : Zi G l N sh M_X7_isCommand [.ref (gB G + 0), vI i] μ (fun r μ' => r = bI (decide (0 ≤ i ∧ i < C.length)) ∧ μ' = μ) := by
  refine Fx.of hst rfl (by decide +kernel) (Nat.le_of_ble_eq_true rfl) rfl ?_
  have hC10 := hC.2.2.1
  refine VW.iload_n dX7_isCommand_0 rfl ?_
  refine VW.if_lt 22 ⟨by omega, by omega⟩ dX7_isCommand_1 (by decide) (fun c1 => ?_) (fun c1 => ?_)
  · refine VW.iconst dX7_isCommand_22 ?_
    refine VW.ireturn dX7_isCommand_23 rfl rfl ?_
    refine fxP.ii ⟨?_, rfl⟩
    unfold bI
    first | (rw [if_pos (by rw [decide_eq_true_eq]; omega)]; done) | (rw [if_neg (by rw [decide_eq_true_eq]; omega)]; done)
  · refine VW.iload_n dX7_isCommand_4 rfl ?_
    refine VW.aload_n dX7_isCommand_5 rfl ?_
    refine VW.getR dX7_isCommand_6 fa_X7_10 (gLt hg) hg.2.1 rfl ?_
    refine VW.getR dX7_isCommand_9 fa_X7_151 (by have := hg.1; omega) (gSs hg) rfl ?_
    refine VW.pV0 cv_X7_isCommand_X0_held dX7_isCommand_12 (Nat.le_of_ble_eq_true rfl) (gSc hg).1 (gSc hg).2.1 (c_held hst (gSc hg) hC) ?_
    refine VW.icmp_ge 22 ⟨by omega, by omega⟩ ⟨by omega, by omega⟩ dX7_isCommand_15 (by decide) (fun c15 => ?_) (fun c15 => ?_)
    · refine VW.iconst dX7_isCommand_22 ?_
      refine VW.ireturn dX7_isCommand_23 rfl rfl ?_
      refine fxP.ii ⟨?_, rfl⟩
      unfold bI
      first | (rw [if_pos (by rw [decide_eq_true_eq]; omega)]; done) | (rw [if_neg (by rw [decide_eq_true_eq]; omega)]; done)
    · refine VW.iconst dX7_isCommand_18 ?_
      refine VW.goto 23 dX7_isCommand_19 (by decide) ?_
      refine VW.ireturn dX7_isCommand_23 rfl rfl ?_
      refine fxP.ii ⟨?_, rfl⟩
      unfold bI
      first | (rw [if_pos (by rw [decide_eq_true_eq]; omega)]; done) | (rw [if_neg (by rw [decide_eq_true_eq]; omega)]; done)
theorem g_point (hst : l.stackTraces = false) (hg : isG N sh) (h : hasG μ xs ys C S Z B) (ok : okA (mk xs ys C S Z B)) {x y : Int} (hx : R32 x) (hy : R32 y) : Fx G l N sh M_X7_point [.ref (gB G + 0), vI x, vI y] μ (gPo e12 (opPoint xs ys C S Z B x y) μ) := by
  refine Fx.of hst rfl (by decide +kernel) (Nat.le_of_ble_eq_true rfl) rfl ?_
  obtain ⟨⟨⟨ok1, ok2, ok3, ok4⟩, ⟨ok5, ok6, ok7⟩, ok8⟩, ⟨ok9, ok10⟩, ok11, ok12⟩ := okA.un ok
  obtain ⟨h0, hv⟩ := id h
  obtain ⟨hP, hC, hS, hZ, hB, tx, ty, hT⟩ := id h0
  have okC : ∀ L ∈ C, bnd L 0 7 := fun L hL => (ok6 L hL).2
  have onb : onLat x y = true → (0 ≤ x ∧ x ≤ 31) ∧ (0 ≤ y ∧ y ≤ 31) := fun q => by unfold onLat at q; rw [decide_eq_true_eq] at q; omega
  refine VW.iload_n dX7_point_0 rfl ?_
  refine VW.iload_n dX7_point_1 rfl ?_
  refine VW.pS2 cs_X7_point_X7_isOnLattice dX7_point_2 (Nat.le_of_ble_eq_true rfl) (s_X7_isOnLattice hst hx hy) ?_
  refine VW.if_ne 18 ⟨by have := bI_b (onLat x y); omega, by have := bI_b (onLat x y); omega⟩ dX7_point_5 (by decide) (fun c5 => ?_) (fun c5 => ?_)
  · refine VW.aload_n dX7_point_18 rfl ?_
    refine VW.getR dX7_point_19 fa_X7_10 (gLt hg) hg.2.1 rfl ?_
    refine VW.getR dX7_point_22 fa_X7_73 (by have := hg.1; omega) (gSs hg) rfl ?_
    refine VW.pV0 cv_X7_point_X3_held dX7_point_25 (Nat.le_of_ble_eq_true rfl) (gSp hg).1 (gSp hg).2.1 (s_X3_held hst (gSp hg)) ?_
    have hPl := hP.1.len
    refine VW.bipush dX7_point_28 rfl ?_
    refine VW.icmp_lt 43 ⟨by omega, by omega⟩ ⟨by omega, by omega⟩ dX7_point_30 (by decide) (fun c30 => ?_) (fun c30 => ?_)
    · refine VW.aload_n dX7_point_43 rfl ?_
      refine VW.getR dX7_point_44 fa_X7_19 (gLt hg) hg.2.1 rfl ?_
      refine VW.aload_n dX7_point_47 rfl ?_
      refine VW.getR dX7_point_48 fa_X7_10 (gLt hg) hg.2.1 rfl ?_
      refine VW.fvV1 cv_X7_point_X1_keep dX7_point_51 (Nat.le_of_ble_eq_true rfl) (gH hg).1 (gH hg).2.1 (g_keep hst hg h0) (fun μ1 h1 => ?_)
      refine VW.aload_n dX7_point_54 rfl ?_
      refine VW.getR dX7_point_55 fa_X7_10 (gLt hg) hg.2.1 rfl ?_
      refine VW.getR dX7_point_58 fa_X7_73 (by have := hg.1; omega) (gSs hg) rfl ?_
      refine VW.iload_n dX7_point_61 rfl ?_
      refine VW.iload_n dX7_point_62 rfl ?_
      refine VW.fvV2 cv_X7_point_X3_add dX7_point_63 (Nat.le_of_ble_eq_true rfl) (gSp hg).1 (gSp hg).2.1 (g_add hst hg h1.1 (onb (by simpa [bI0] using c5)).1 (onb (by simpa [bI0] using c5)).2 (by omega)) (fun μ2 h2 => ?_)
      refine VW.aload_n dX7_point_66 rfl ?_
      refine VW.fvV0 cv_X7_point_X7_lookAgain dX7_point_67 (Nat.le_of_ble_eq_true rfl) (gLt hg) hg.2.1 (g_lookAgain hst hg h2.1 ok8 okC) (fun μ3 h3 => ?_)
      refine VW.aload_n dX7_point_70 rfl ?_
      refine VW.getR dX7_point_71 fa_X7_10 (gLt hg) hg.2.1 rfl ?_
      refine VW.getR dX7_point_74 fa_X7_73 (by have := hg.1; omega) (gSs hg) rfl ?_
      refine VW.pV0 cv_X7_point_X3_held dX7_point_77 (Nat.le_of_ble_eq_true rfl) (gSp hg).1 (gSp hg).2.1 (s_X3_held hst (gSp hg)) ?_
      refine VW.ireturn dX7_point_80 rfl rfl ?_
      have hl := h3.1.1.1.1.len
      rw [hl, List.length_append]
      refine fxP.r (gPo_r (xs := xs ++ [x]) ((if_neg (by simpa [bI0] using c5)).trans ((if_neg (by omega)).trans ?_)) h3.1 (((h1.2.wid (by omega) (by omega)).tr (h2.2.wid (by omega) (by omega))).tr (h3.2.wid (by omega) (by omega))))
      simp
    · refine VW.throwS (text := "there are 40 points") hst xt_X7_80 (by decide +kernel) rfl (by decide) (by decide) dX7_point_33 dX7_point_36 dX7_point_37 dX7_point_39 dX7_point_42 ?_
      exact fxP.x (gPo_x ((if_neg (by simpa [bI0] using c5)).trans (if_pos (by omega))) h frm.rf (by decide) rfl)
  · refine VW.throwS (text := "a coordinate is not 0 to 31") hst xt_X7_66 (by decide +kernel) rfl (by decide) (by decide) dX7_point_8 dX7_point_11 dX7_point_12 dX7_point_14 dX7_point_17 ?_
    exact fxP.x (gPo_x (if_pos (by simpa [bI0] using c5)) h frm.rf (by decide) rfl)
end PI
