/-! ===== floats: the methods ===== -/
section FPZ
variable {G : GT} {l : Launch} {N : Nat} {sh : Nat → ShT} {μ μ' : Mem} {xs ys S D Ln : List Int} {C : List (List Int)} {v lo hi : Int}
theorem VW.ldcwf {z : Option Nat} {M : MD} {pc : Nat} {lv : List (Nat × Value)} {rest : List Value} {w : WT} {k n : Nat} {Φ : RT → Prop} {i : Nat} {a : UInt32} (hd : decode (mC M) pc = .ok (.ldc_w i, 3)) (hq : Cond.constantFloat (mY M).cls i a ∈ lw_G) (kk : VW G l z M (pc + 3) lv (.float a :: rest) w k n Φ) : VW G l z M pc lv rest w k n Φ :=
  VW.step ⟨Nat.le_refl _, Nat.le_refl _⟩ kk fun r p e R s m args below meth c H locs ls C hR hl hw hS kk => by
    obtain ⟨k1, cf, hk, hcf, hcp⟩ := Cond.constantFloat_spec C.1.2.2.2.2 (C.2.1 _ hq)
    intro T hT X
    obtain ⟨t, a1, b1⟩ := kk H locs ls hl hw hS T hT X
    refine ⟨t, ?_, b1⟩
    obtain ⟨k', hk', he⟩ := X.warmed.alike.2.2 _ _ hk
    have hd' : decode c.code pc = .ok (.ldc_w i, 3) := by rw [C.1.2.1]; exact hd
    have hexec := C.1.1
    jvm_step X.here [hexec, hd', Op.ldc_w.wp_float (s := T) (f := F0 m pc ls rest) X.here.top hk' (by rw [he]; exact hcf) hcp]
    exact a1
theorem vx_ofWF {l : Launch} {y : MethodName} {ws ws' : List Cond} {rm : Room} {Pc : Array Value → State → Prop} {Qc : Array Value → State → Outcome → State → Prop} {XC : String → State → State → Prop} {mc ms : Nat} {free : Addr → Prop} {cc : ByteArray} {maxL : Nat} {ret : Option FieldType}
    (hy : plainFor y = true) (hw : ws = Cond.code y cc maxL ret :: ws')
    (body : ∀ p e s m args below meth c s₁, BodyLoose p l y (headSpec ws rm) cc maxL ret e s m args below meth c s₁ → c.maxLocals = maxL → (∀ x ∈ c.exceptionTable.toList, False) → Pc args s →
      W p l e (headSpec ws rm).room s m args below meth c s.heap [] 0 0 (vx_MQ below Qc XC args s mc ms free) (entryFrame m args maxL)) : vx_Met l y ws rm Pc Qc XC mc ms free := by
  refine MetFree.of_bodySF (code := cc) (maxLocals := maxL) (ret := ret) hy ?_ ?_
  · intro args s m h hn
    obtain ⟨meth, c, h1, h2, h3, h4, h5, h6, -, -⟩ := Cond.code_spec hn (atoms_spec (ws := ws) h _ (by rw [hw]; exact List.mem_cons_self))
    exact ⟨meth, c, h1, h2, h3, h4, h5, h6⟩
  · intro p e s m args below meth c s₁ B hml hP _
    have hh0 : s₁.heap = s.heap := by rw [B.state]; rfl
    have ht : ∀ x ∈ c.exceptionTable.toList, False := by
      obtain ⟨meth9, c9, h1, h2, -, -, -, -, h7, -⟩ := Cond.code_spec B.named (atoms_spec (ws := ws) B.pre _ (by rw [hw]; exact List.mem_cons_self))
      cases Option.some.inj (h1.symm.trans B.method)
      cases Option.some.inj (h2.symm.trans (Stand.of_body B).code)
      intro x hx
      rw [Array.isEmpty_iff.mp h7] at hx
      cases hx
    obtain ⟨t, a1, o, b1, b2, b3⟩ := body p e s m args below meth c s₁ B hml ht hP s₁ hh0 (Stand.of_body B)
    exact ⟨t, o, a1, b1, b2, b3⟩
theorem Run.ofF {G : GT} {l : Launch} (hst : l.stackTraces = false) {t : Bool} {M : MD} {av : List Value} {w : WT} {r : RT} {lv : List (Nat × Value)} (hh : mH M = []) (hp : plainFor (mY M) = true) (hav : (lg_sl av).length ≤ mL M) (hlv : ∀ q ∈ lv, q ∈ lv_args 0 av)
    (h : V G l (if t then some w.1 else none) M 0 lv [] w 0 0 r) : Run G l t M av w r := by
  refine vx_ofWF (cc := mC M) (maxL := mL M) (ret := mR M) (ws' := lw_G) hp (by unfold mW mK; rw [hh]) ?_
  intro p e s m args below meth c s₁ B hml ht hv
  obtain ⟨rfl, hE, hW, htight⟩ := hv
  have hts := atoms_spec (ws := mW M) B.pre
  have hl := lv_entry av (n := mL M) hav
  rw [lg_entry_eq]
  refine h.2 p e _ s m _ below meth c s.heap [] _ ⟨⟨B.exec, B.bytes, hml, B.returns, findClass_of_methodNamed B.named⟩, fun w hw => hts w (List.mem_cons_of_mem _ hw), ⟨B.notSynchronized, Nat.le_refl _, Nat.le_refl _, Nat.le_refl _, Nat.le_refl _⟩, fun hi => by rw [← hi]; exact (name_of_methodNamed B.named B.method).1, ?_, hE, ?_, hst⟩ (hl.mono hlv) hW va_S.rf
  · rw [hh]
    cases hx : c.exceptionTable.toList with
    | nil => rfl
    | cons x xs => exact (ht x (by rw [hx]; exact List.mem_cons_self)).elim
  · intro n0 hn
    cases t with
    | true =>
      cases hn
      exact htight rfl
    | false => cases hn
theorem Fx.ofF {G : GT} {l : Launch} (hst : l.stackTraces = false) {N : Nat} {sh : Nat → ShT} {M : MD} {av : List Value} {μ : Mem} {Ψ : (Option Value ⊕ String) → Mem → Prop} {lv : List (Nat × Value)} (hh : mH M = []) (hp : plainFor (mY M) = true) (hav : (lg_sl av).length ≤ mL M) (hlv : lv_args 0 av = lv)
    (h : VW G l none M 0 lv [] (N, sh, μ) 0 0 (fxP N sh Ψ)) : Fx G l N sh M av μ Ψ := by
  obtain ⟨r, a, b⟩ := h
  exact ⟨r, Run.ofF hst (t := false) hh hp hav (fun q hq => by rw [hlv]; exact hq) b, a⟩
theorem shl23 {e : Int} (h : 0 ≤ e ∧ e ≤ 127) : Int32.ofInt e <<< (Int32.ofInt 23 &&& 31) = Int32.ofInt (e * 8388608) := by
  have hk : ∀ k : Fin 128, Int32.ofInt ((k.val : Nat) : Int) <<< (Int32.ofInt 23 &&& 31) = Int32.ofInt (((k.val : Nat) : Int) * 8388608) := by decide +kernel
  have := hk ⟨e.toNat, by omega⟩
  rw [show (((⟨e.toNat, by omega⟩ : Fin 128).val : Nat) : Int) = e from Int.toNat_of_nonneg h.1] at this
  exact this
theorem shl52 {e : Int} (h : 0 ≤ e ∧ e ≤ 1023) : Int64.ofInt e <<< ((Int32.ofInt 52).toInt64 &&& 63) = Int64.ofInt (e * 4503599627370496) := by
  have hk : ∀ k : Fin 1024, Int64.ofInt ((k.val : Nat) : Int) <<< ((Int32.ofInt 52).toInt64 &&& 63) = Int64.ofInt (((k.val : Nat) : Int) * 4503599627370496) := by decide +kernel
  have := hk ⟨e.toNat, by omega⟩
  rw [show (((⟨e.toNat, by omega⟩ : Fin 1024).val : Nat) : Int) = e from Int.toNat_of_nonneg h.1] at this
  exact this
theorem cm32_2E {E T : Nat} (hE : E = 127) (hT : T < 8388608) : ∃ x, 0 ≤ x ∧ x ≤ 1 ∧ ∀ op, Op.cmpValue (Jvm.FP.fcmp (nb32 E T) Jvm.FP.fconst1) op = Int32.ofInt x := by
  subst hE
  exact cm32_2 hT
theorem cm64_2E {E T : Nat} (hE : E = 1023) (hT : T < 4503599627370496) : ∃ x, 0 ≤ x ∧ x ≤ 1 ∧ ∀ op, Op.cmpValue (Jvm.FP.dcmp (nb64 E T) Jvm.FP.dconst1) op = Int32.ofInt x := by
  subst hE
  exact cm64_2 hT
theorem sub32E {E T : Nat} (hE : E = 127) (hT : T < 8388608) : Jvm.FP.fsub (nb32 E T) Jvm.FP.fconst1 = tl32 T := by
  subst hE
  exact sub32 hT
theorem sub64E {E T : Nat} (hE : E = 1023) (hT : T < 4503599627370496) : Jvm.FP.dsub (nb64 E T) Jvm.FP.dconst1 = tl64 T := by
  subst hE
  exact sub64 hT
theorem dblb32 {E T : Nat} (h : 1 ≤ E ∧ E < 254) (hT : T < 8388608) : Jvm.FP.fmul (nb32 E T) Jvm.FP.fconst2 = nb32 (E + 1) T := by
  show UInt32.ofNat (Jvm.FP.Core.mul Jvm.FP.Core.b32 _ _) = _
  rw [nb32_t (by omega) hT, show (Jvm.FP.fconst2).toNat = 1073741824 from rfl, dbl32 h hT]
  rfl
theorem dblb64 {E T : Nat} (h : 1 ≤ E ∧ E < 2046) (hT : T < 4503599627370496) : Jvm.FP.dmul (nb64 E T) 4611686018427387904 = nb64 (E + 1) T := by
  show UInt64.ofNat (Jvm.FP.Core.mul Jvm.FP.Core.b64 _ _) = _
  rw [nb64_t (by omega) hT, show ((4611686018427387904 : UInt64)).toNat = 4611686018427387904 from rfl, dbl64 h hT]
  rfl
theorem lp_X7_floatBits (hst : l.stackTraces = false) {T : Nat} (hT : T < 8388608) (b0 : UInt32) : ∀ (n E : Nat) (i e : Int), E + n = 127 ∧ 1 ≤ E → 0 ≤ i ∧ i + (n : Int) ≤ 126 ∧ 1 ≤ e - (n : Int) ∧ e ≤ 127 → VW G l none M_X7_floatBits 15 [(0, .float b0), (1, vI e), (2, .float (nb32 E T)), (3, vI i)] [] (N, sh, μ) 0 0 (fxP N sh (oN (vN_i (fun r μ' => r = (e - (n : Int)) * 8388608 + (T : Int) ∧ μ' = μ)))) := by
  intro n
  induction n with
  | zero =>
    intro E i e h1 h2
    have hE : E = 127 := by omega
    obtain ⟨x, hx0, hx1, hxe⟩ := cm32_2E hE hT
    refine VW.iload_n dX7_floatBits_15 rfl ?_
    refine VW.bipush dX7_floatBits_16 rfl ?_
    refine VW.icmp_ge 40 ⟨by omega, by omega⟩ ⟨by omega, by omega⟩ dX7_floatBits_18 (by decide) (fun c18 => ?_) (fun c18 => ?_)
    · refine VW.iload_n dX7_floatBits_40 rfl ?_
      refine VW.bipush dX7_floatBits_41 rfl ?_
      refine VW.ishl (x := (e * 8388608)) dX7_floatBits_43 (shl23 (by omega)) ?_
      refine VW.fload_n dX7_floatBits_44 rfl ?_
      refine VW.fconst1 dX7_floatBits_45 ?_
      refine VW.fsub (x := (tl32 T)) dX7_floatBits_46 (by rw [sub32E hE hT]; exact (tln32 hT).1) (sub32E hE hT) ?_
      refine VW.ldcwf (a := 1258291200) dX7_floatBits_47 wd_483 ?_
      refine VW.fmul (x := (tw32 T)) dX7_floatBits_50 (by rw [wgt32 hT]; exact (tln32 hT).2) (wgt32 hT) ?_
      refine VW.f2i (x := (T : Int)) dX7_floatBits_51 (whl32 hT) ?_
      refine VW.iadd dX7_floatBits_52 ?_
      refine VW.ireturn dX7_floatBits_53 rfl rfl ?_
      exact fxP.ii ⟨by omega, rfl⟩
    · refine VW.fload_n dX7_floatBits_21 rfl ?_
      refine VW.fconst1 dX7_floatBits_22 ?_
      refine VW.fcmp (x := x) dX7_floatBits_23 (hxe _) ?_
      refine VW.if_ge 40 ⟨by omega, by omega⟩ dX7_floatBits_24 (by decide) (fun c24 => ?_) (fun c24 => by omega)
      refine VW.iload_n dX7_floatBits_40 rfl ?_
      refine VW.bipush dX7_floatBits_41 rfl ?_
      refine VW.ishl (x := (e * 8388608)) dX7_floatBits_43 (shl23 (by omega)) ?_
      refine VW.fload_n dX7_floatBits_44 rfl ?_
      refine VW.fconst1 dX7_floatBits_45 ?_
      refine VW.fsub (x := (tl32 T)) dX7_floatBits_46 (by rw [sub32E hE hT]; exact (tln32 hT).1) (sub32E hE hT) ?_
      refine VW.ldcwf (a := 1258291200) dX7_floatBits_47 wd_483 ?_
      refine VW.fmul (x := (tw32 T)) dX7_floatBits_50 (by rw [wgt32 hT]; exact (tln32 hT).2) (wgt32 hT) ?_
      refine VW.f2i (x := (T : Int)) dX7_floatBits_51 (whl32 hT) ?_
      refine VW.iadd dX7_floatBits_52 ?_
      refine VW.ireturn dX7_floatBits_53 rfl rfl ?_
      exact fxP.ii ⟨by omega, rfl⟩
  | succ n ih =>
    intro E i e h1 h2
    refine VW.iload_n dX7_floatBits_15 rfl ?_
    refine VW.bipush dX7_floatBits_16 rfl ?_
    refine VW.icmp_ge 40 ⟨by omega, by omega⟩ ⟨by omega, by omega⟩ dX7_floatBits_18 (by decide) (fun c18 => by omega) (fun c18 => ?_)
    refine VW.fload_n dX7_floatBits_21 rfl ?_
    refine VW.fconst1 dX7_floatBits_22 ?_
    refine VW.fcmp (x := (-1)) dX7_floatBits_23 (by rw [cm32_1 (by omega) hT]; rfl) ?_
    refine VW.if_ge 40 ⟨by omega, by omega⟩ dX7_floatBits_24 (by decide) (fun c24 => by omega) (fun c24 => ?_)
    refine VW.fload_n dX7_floatBits_27 rfl ?_
    refine VW.fconst2 dX7_floatBits_28 ?_
    refine VW.fmul (x := (nb32 (E + 1) T)) dX7_floatBits_29 (by rw [dblb32 (by omega) hT]; exact nn32 (by omega) hT) (dblb32 (by omega) hT) ?_
    refine VW.fstore_n (lv' := [(0, _), (1, _), (2, _), (3, _)]) dX7_floatBits_30 (by decide) rfl ?_
    refine VW.iinc (lv' := [(0, _), (1, _), (2, _), (3, _)]) dX7_floatBits_31 rfl (by decide) rfl ?_
    refine VW.iinc (lv' := [(0, _), (1, _), (2, _), (3, _)]) dX7_floatBits_34 rfl (by decide) rfl ?_
    refine VW.goto 15 dX7_floatBits_37 (by decide) ?_
    have q := ih (E + 1) (i + 1) (e + -1) (by omega) (by omega)
    rw [show e + -1 - (n : Int) = e - ((n + 1 : Nat) : Int) by omega] at q
    exact q
theorem s_X7_floatBits0 (hst : l.stackTraces = false) : Zi G l N sh M_X7_floatBits [.float 0] μ (fun r μ' => r = 0 ∧ μ' = μ) := by
  refine Fx.of hst rfl (by decide +kernel) (Nat.le_of_ble_eq_true rfl) rfl ?_
  refine VW.fload_n dX7_floatBits_0 rfl ?_
  refine VW.fconst0 dX7_floatBits_1 ?_
  refine VW.fcmp (x := 0) dX7_floatBits_2 (by decide +kernel) ?_
  refine VW.if_gt 8 ⟨by omega, by omega⟩ dX7_floatBits_3 (by decide) (fun c3 => absurd c3 (by decide)) (fun c3 => ?_)
  refine VW.iconst dX7_floatBits_6 ?_
  refine VW.ireturn dX7_floatBits_7 rfl rfl ?_
  exact fxP.ii ⟨rfl, rfl⟩
theorem s_X7_floatBits (hst : l.stackTraces = false) {E T : Nat} (hE : 1 ≤ E ∧ E ≤ 127) (hT : T < 8388608) : Zi G l N sh M_X7_floatBits [.float (nb32 E T)] μ (fun r μ' => r = (E : Int) * 8388608 + (T : Int) ∧ μ' = μ) := by
  refine Fx.of hst rfl (by decide +kernel) (Nat.le_of_ble_eq_true rfl) rfl ?_
  refine VW.fload_n dX7_floatBits_0 rfl ?_
  refine VW.fconst0 dX7_floatBits_1 ?_
  refine VW.fcmp (x := 1) dX7_floatBits_2 (by rw [cm32_0 (by omega) hT]; rfl) ?_
  refine VW.if_gt 8 ⟨by omega, by omega⟩ dX7_floatBits_3 (by decide) (fun c3 => ?_) (fun c3 => absurd (by decide) c3)
  refine VW.bipush dX7_floatBits_8 rfl ?_
  refine VW.istore_n (lv' := [(0, _), (1, _)]) dX7_floatBits_10 (by decide) rfl ?_
  refine VW.fload_n dX7_floatBits_11 rfl ?_
  refine VW.fstore_n (lv' := [(0, _), (1, _), (2, _)]) dX7_floatBits_12 (by decide) rfl ?_
  refine VW.iconst dX7_floatBits_13 ?_
  refine VW.istore_n (lv' := [(0, _), (1, _), (2, _), (3, _)]) dX7_floatBits_14 (by decide) rfl ?_
  have q := lp_X7_floatBits hst (G := G) (N := N) (sh := sh) (μ := μ) hT (nb32 E T) (127 - E) E 0 127 (by omega) (by omega)
  rw [show (127 : Int) - ((127 - E : Nat) : Int) = (E : Int) by omega] at q
  exact q
theorem lp_X7_doubleBits (hst : l.stackTraces = false) {T : Nat} (hT : T < 4503599627370496) (b0 : UInt64) : ∀ (n E : Nat) (i e : Int), E + n = 1023 ∧ 1 ≤ E → 0 ≤ i ∧ i + (n : Int) ≤ 1022 ∧ 1 ≤ e - (n : Int) ∧ e ≤ 1023 → VW G l none M_X7_doubleBits 18 [(0, .double b0), (2, vL e), (4, .double (nb64 E T)), (6, vI i)] [] (N, sh, μ) 0 0 (fxP N sh (oN (vN_l (fun r μ' => r = (e - (n : Int)) * 4503599627370496 + (T : Int) ∧ μ' = μ)))) := by
  intro n
  induction n with
  | zero =>
    intro E i e h1 h2
    have hE : E = 1023 := by omega
    obtain ⟨x, hx0, hx1, hxe⟩ := cm64_2E hE hT
    refine VW.iload dX7_doubleBits_18 rfl ?_
    refine VW.sipush dX7_doubleBits_20 rfl ?_
    refine VW.icmp_ge 51 ⟨by omega, by omega⟩ ⟨by omega, by omega⟩ dX7_doubleBits_23 (by decide) (fun c23 => ?_) (fun c23 => ?_)
    · refine VW.lload_n dX7_doubleBits_51 rfl ?_
      refine VW.bipush dX7_doubleBits_52 rfl ?_
      refine VW.lshl (x := (e * 4503599627370496)) dX7_doubleBits_54 (shl52 (by omega)) ?_
      refine VW.dload dX7_doubleBits_55 rfl ?_
      refine VW.dconst1 dX7_doubleBits_57 ?_
      refine VW.dsub (x := (tl64 T)) dX7_doubleBits_58 (by rw [sub64E hE hT]; exact (tln64 hT).1) (sub64E hE hT) ?_
      refine VW.ldc2d (a := 4841369599423283200) dX7_doubleBits_59 wd_683 ?_
      refine VW.dmul (x := (tw64 T)) dX7_doubleBits_62 (by rw [wgt64 hT]; exact (tln64 hT).2) (wgt64 hT) ?_
      refine VW.d2l (x := (T : Int)) dX7_doubleBits_63 (whl64 hT) ?_
      refine VW.ladd dX7_doubleBits_64 ?_
      refine VW.lreturn dX7_doubleBits_65 rfl ?_
      exact fxP.ll ⟨by omega, rfl⟩
    · refine VW.dload dX7_doubleBits_26 rfl ?_
      refine VW.dconst1 dX7_doubleBits_28 ?_
      refine VW.dcmp (x := x) dX7_doubleBits_29 (hxe _) ?_
      refine VW.if_ge 51 ⟨by omega, by omega⟩ dX7_doubleBits_30 (by decide) (fun c30 => ?_) (fun c30 => by omega)
      refine VW.lload_n dX7_doubleBits_51 rfl ?_
      refine VW.bipush dX7_doubleBits_52 rfl ?_
      refine VW.lshl (x := (e * 4503599627370496)) dX7_doubleBits_54 (shl52 (by omega)) ?_
      refine VW.dload dX7_doubleBits_55 rfl ?_
      refine VW.dconst1 dX7_doubleBits_57 ?_
      refine VW.dsub (x := (tl64 T)) dX7_doubleBits_58 (by rw [sub64E hE hT]; exact (tln64 hT).1) (sub64E hE hT) ?_
      refine VW.ldc2d (a := 4841369599423283200) dX7_doubleBits_59 wd_683 ?_
      refine VW.dmul (x := (tw64 T)) dX7_doubleBits_62 (by rw [wgt64 hT]; exact (tln64 hT).2) (wgt64 hT) ?_
      refine VW.d2l (x := (T : Int)) dX7_doubleBits_63 (whl64 hT) ?_
      refine VW.ladd dX7_doubleBits_64 ?_
      refine VW.lreturn dX7_doubleBits_65 rfl ?_
      exact fxP.ll ⟨by omega, rfl⟩
  | succ n ih =>
    intro E i e h1 h2
    refine VW.iload dX7_doubleBits_18 rfl ?_
    refine VW.sipush dX7_doubleBits_20 rfl ?_
    refine VW.icmp_ge 51 ⟨by omega, by omega⟩ ⟨by omega, by omega⟩ dX7_doubleBits_23 (by decide) (fun c23 => by omega) (fun c23 => ?_)
    refine VW.dload dX7_doubleBits_26 rfl ?_
    refine VW.dconst1 dX7_doubleBits_28 ?_
    refine VW.dcmp (x := (-1)) dX7_doubleBits_29 (by rw [cm64_1 (by omega) hT]; rfl) ?_
    refine VW.if_ge 51 ⟨by omega, by omega⟩ dX7_doubleBits_30 (by decide) (fun c30 => by omega) (fun c30 => ?_)
    refine VW.dload dX7_doubleBits_33 rfl ?_
    refine VW.ldc2d (a := 4611686018427387904) dX7_doubleBits_35 wd_682 ?_
    refine VW.dmul (x := (nb64 (E + 1) T)) dX7_doubleBits_38 (by rw [dblb64 (by omega) hT]; exact nn64 (by omega) hT) (dblb64 (by omega) hT) ?_
    refine VW.dstore (lv' := [(0, _), (2, _), (4, _), (6, _)]) dX7_doubleBits_39 (by decide) rfl ?_
    refine VW.lload_n dX7_doubleBits_41 rfl ?_
    refine VW.lconst (b := 1) dX7_doubleBits_42 rfl ?_
    refine VW.lsub dX7_doubleBits_43 ?_
    refine VW.lstore_n (lv' := [(0, _), (2, _), (4, _), (6, _)]) dX7_doubleBits_44 (by decide) rfl ?_
    refine VW.iinc (lv' := [(0, _), (2, _), (4, _), (6, _)]) dX7_doubleBits_45 rfl (by decide) rfl ?_
    refine VW.goto 18 dX7_doubleBits_48 (by decide) ?_
    have q := ih (E + 1) (i + 1) (e - 1) (by omega) (by omega)
    rw [show e - 1 - (n : Int) = e - ((n + 1 : Nat) : Int) by omega] at q
    exact q
theorem s_X7_doubleBits0 (hst : l.stackTraces = false) : Zl G l N sh M_X7_doubleBits [.double 0] μ (fun r μ' => r = 0 ∧ μ' = μ) := by
  refine Fx.of hst rfl (by decide +kernel) (Nat.le_of_ble_eq_true rfl) rfl ?_
  refine VW.dload_n dX7_doubleBits_0 rfl ?_
  refine VW.dconst0 dX7_doubleBits_1 ?_
  refine VW.dcmp (x := 0) dX7_doubleBits_2 (by decide +kernel) ?_
  refine VW.if_gt 8 ⟨by omega, by omega⟩ dX7_doubleBits_3 (by decide) (fun c3 => absurd c3 (by decide)) (fun c3 => ?_)
  refine VW.lconst (b := 0) dX7_doubleBits_6 rfl ?_
  refine VW.lreturn dX7_doubleBits_7 rfl ?_
  exact fxP.ll ⟨rfl, rfl⟩
theorem s_X7_doubleBits (hst : l.stackTraces = false) {E T : Nat} (hE : 1 ≤ E ∧ E ≤ 1023) (hT : T < 4503599627370496) : Zl G l N sh M_X7_doubleBits [.double (nb64 E T)] μ (fun r μ' => r = (E : Int) * 4503599627370496 + (T : Int) ∧ μ' = μ) := by
  refine Fx.of hst rfl (by decide +kernel) (Nat.le_of_ble_eq_true rfl) rfl ?_
  refine VW.dload_n dX7_doubleBits_0 rfl ?_
  refine VW.dconst0 dX7_doubleBits_1 ?_
  refine VW.dcmp (x := 1) dX7_doubleBits_2 (by rw [cm64_0 (by omega) hT]; rfl) ?_
  refine VW.if_gt 8 ⟨by omega, by omega⟩ dX7_doubleBits_3 (by decide) (fun c3 => ?_) (fun c3 => absurd (by decide) c3)
  refine VW.ldc2 (a := 1023) dX7_doubleBits_8 wd_681 ?_
  refine VW.lstore_n (lv' := [(0, _), (2, _)]) dX7_doubleBits_11 (by decide) rfl ?_
  refine VW.dload_n dX7_doubleBits_12 rfl ?_
  refine VW.dstore (lv' := [(0, _), (2, _), (4, _)]) dX7_doubleBits_13 (by decide) rfl ?_
  refine VW.iconst dX7_doubleBits_15 ?_
  refine VW.istore (lv' := [(0, _), (2, _), (4, _), (6, _)]) dX7_doubleBits_16 (by decide) rfl ?_
  have q := lp_X7_doubleBits hst (G := G) (N := N) (sh := sh) (μ := μ) hT (nb64 E T) (1023 - E) E 0 1023 (by omega) (by omega)
  rw [show (1023 : Int) - ((1023 - E : Nat) : Int) = (E : Int) by omega] at q
  exact q
theorem z_nan32 (hst : l.stackTraces = false) {b : UInt32} (hb : Jvm.FP.fcmp b b = some .eq) : Zi G l N sh M_Jxf58ca_isNaN_12338 [.float b] μ (fun r μ' => r = 0 ∧ μ' = μ) := by
  refine Fx.ofF hst rfl (by decide +kernel) (Nat.le_of_ble_eq_true rfl) rfl ?_
  refine VW.fload_n dJxf58ca_isNaN_12338_0 rfl ?_
  refine VW.fload_n dJxf58ca_isNaN_12338_1 rfl ?_
  refine VW.fcmp (x := 0) dJxf58ca_isNaN_12338_2 (by rw [hb]; rfl) ?_
  refine VW.if_eq 10 ⟨by omega, by omega⟩ dJxf58ca_isNaN_12338_3 (by decide) (fun c3 => ?_) (fun c3 => absurd rfl c3)
  refine VW.iconst dJxf58ca_isNaN_12338_10 ?_
  refine VW.ireturn dJxf58ca_isNaN_12338_11 rfl rfl ?_
  exact fxP.ii ⟨rfl, rfl⟩
theorem z_bits32 (hst : l.stackTraces = false) {b : UInt32} {x : Int} (hb : Jvm.FP.fcmp b b = some .eq) (hx : b.toInt32 = Int32.ofInt x) : Zi G l N sh M_Jxf58ca_floatToIntBits_5c35a [.float b] μ (fun r μ' => r = x ∧ μ' = μ) := by
  refine Fx.ofF hst rfl (by decide +kernel) (Nat.le_of_ble_eq_true rfl) rfl ?_
  refine VW.fload_n dJxf58ca_floatToIntBits_5c35a_0 rfl ?_
  refine VW.pS1 cs_Jxf58ca_floatToIntBits_5c35a_Jxf58ca_isNaN_12338 dJxf58ca_floatToIntBits_5c35a_1 (Nat.le_of_ble_eq_true rfl) (z_nan32 hst hb) ?_
  refine VW.if_ne 12 ⟨by omega, by omega⟩ dJxf58ca_floatToIntBits_5c35a_4 (by decide) (fun c4 => absurd rfl c4) (fun c4 => ?_)
  refine VW.fload_n dJxf58ca_floatToIntBits_5c35a_7 rfl ?_
  refine VW.rawF (x := x) dJxf58ca_floatToIntBits_5c35a_8 wd_1281 wd_1283 wd_1282 wd_88 (by decide) (by decide) hx ?_
  refine VW.ireturn dJxf58ca_floatToIntBits_5c35a_11 rfl rfl ?_
  exact fxP.ii ⟨rfl, rfl⟩
theorem z_nan64 (hst : l.stackTraces = false) {b : UInt64} (hb : Jvm.FP.dcmp b b = some .eq) : Zi G l N sh M_Jxe99ae_isNaN_b9ae7 [.double b] μ (fun r μ' => r = 0 ∧ μ' = μ) := by
  refine Fx.ofF hst rfl (by decide +kernel) (Nat.le_of_ble_eq_true rfl) rfl ?_
  refine VW.dload_n dJxe99ae_isNaN_b9ae7_0 rfl ?_
  refine VW.dload_n dJxe99ae_isNaN_b9ae7_1 rfl ?_
  refine VW.dcmp (x := 0) dJxe99ae_isNaN_b9ae7_2 (by rw [hb]; rfl) ?_
  refine VW.if_eq 10 ⟨by omega, by omega⟩ dJxe99ae_isNaN_b9ae7_3 (by decide) (fun c3 => ?_) (fun c3 => absurd rfl c3)
  refine VW.iconst dJxe99ae_isNaN_b9ae7_10 ?_
  refine VW.ireturn dJxe99ae_isNaN_b9ae7_11 rfl rfl ?_
  exact fxP.ii ⟨rfl, rfl⟩
theorem z_bits64 (hst : l.stackTraces = false) {b : UInt64} {x : Int} (hb : Jvm.FP.dcmp b b = some .eq) (hx : b.toInt64 = Int64.ofInt x) : Zl G l N sh M_Jxe99ae_doubleToLongBits_ccdee [.double b] μ (fun r μ' => r = x ∧ μ' = μ) := by
  refine Fx.ofF hst rfl (by decide +kernel) (Nat.le_of_ble_eq_true rfl) rfl ?_
  refine VW.dload_n dJxe99ae_doubleToLongBits_ccdee_0 rfl ?_
  refine VW.pS1 cs_Jxe99ae_doubleToLongBits_ccdee_Jxe99ae_isNaN_b9ae7 dJxe99ae_doubleToLongBits_ccdee_1 (Nat.le_of_ble_eq_true rfl) (z_nan64 hst hb) ?_
  refine VW.if_ne 12 ⟨by omega, by omega⟩ dJxe99ae_doubleToLongBits_ccdee_4 (by decide) (fun c4 => absurd rfl c4) (fun c4 => ?_)
  refine VW.dload_n dJxe99ae_doubleToLongBits_ccdee_7 rfl ?_
  refine VW.rawD (x := x) dJxe99ae_doubleToLongBits_ccdee_8 wd_1317 wd_1319 wd_1318 wd_89 (by decide) (by decide) hx ?_
  refine VW.lreturn dJxe99ae_doubleToLongBits_ccdee_11 rfl ?_
  exact fxP.ll ⟨rfl, rfl⟩
theorem cm32_s {E T : Nat} (h : 1 ≤ E ∧ E < 255) (hT : T < 8388608) : Jvm.FP.fcmp (nb32 E T) (nb32 E T) = some .eq := by
  show Jvm.FP.Core.cmp Jvm.FP.Core.b32 _ _ = _
  unfold Jvm.FP.Core.cmp
  rw [nb32_t h.2 hT, dec32 h hT]
  unfold Jvm.FP.Core.order
  show some (compare _ _) = _
  rw [Int.compare_eq_eq.mpr rfl]
theorem bi32 (b : UInt32) : b.toInt32 = Int32.ofInt (b.toNat : Int) := by
  rw [Int32.ofInt_eq_ofNat]
  have : b = UInt32.ofNat b.toNat := (UInt32.ofNat_toNat).symm
  conv => lhs; rw [this]
  rfl
theorem sh32_c {a t : Int} (h0 : 0 ≤ a) (h1 : a ≤ t) (h2 : 1 ≤ t) (h3 : t < 65536) : sh32 a t = 0 ∨ ∃ E T : Nat, sh32 a t = nb32 E T ∧ (1 ≤ E ∧ E ≤ 127) ∧ T < 8388608 := by
  obtain ⟨a, rfl⟩ := Int.eq_ofNat_of_zero_le h0
  obtain ⟨t, rfl⟩ := Int.eq_ofNat_of_zero_le (by omega : 0 ≤ t)
  by_cases ha : a = 0
  · subst ha
    exact Or.inl (sh32_0 (by omega) (by omega))
  · exact Or.inr (sh32_p (by omega) (by omega) (by omega))
theorem sh32_n {a t : Int} (h0 : 0 ≤ a) (h1 : a ≤ t) (h2 : 1 ≤ t) (h3 : t < 65536) : vf_n32 (sh32 a t) ∧ Jvm.FP.fcmp (sh32 a t) (sh32 a t) = some .eq := by
  rcases sh32_c h0 h1 h2 h3 with h | ⟨E, T, h, hE, hT⟩
  · rw [h]
    unfold vf_n32
    exact ⟨by decide +kernel, by decide +kernel⟩
  · rw [h]
    exact ⟨nn32 (by omega) hT, cm32_s (by omega) hT⟩
theorem s_fb32 (hst : l.stackTraces = false) {a t : Int} (h0 : 0 ≤ a) (h1 : a ≤ t) (h2 : 1 ≤ t) (h3 : t < 65536) : Zi G l N sh M_X7_floatBits [.float (sh32 a t)] μ (fun r μ' => r = ((sh32 a t).toNat : Int) ∧ μ' = μ) := by
  rcases sh32_c h0 h1 h2 h3 with h | ⟨E, T, h, hE, hT⟩
  · rw [h]
    exact s_X7_floatBits0 hst
  · rw [h, nb32_t (by omega) hT]
    refine Fx.mono (s_X7_floatBits hst hE hT) ?_
    rintro o μ2 ⟨v, rfl, a1, rfl, e1, e2⟩
    exact ⟨_, rfl, _, rfl, by rw [e1]; omega, e2⟩
theorem z_fb32 (hst : l.stackTraces = false) {a t : Int} (h0 : 0 ≤ a) (h1 : a ≤ t) (h2 : 1 ≤ t) (h3 : t < 65536) : Zi G l N sh M_Jxf58ca_floatToIntBits_5c35a [.float (sh32 a t)] μ (fun r μ' => r = ((sh32 a t).toNat : Int) ∧ μ' = μ) :=
  z_bits32 hst (sh32_n h0 h1 h2 h3).2 (bi32 _)
theorem cm64_s {E T : Nat} (h : 1 ≤ E ∧ E < 2047) (hT : T < 4503599627370496) : Jvm.FP.dcmp (nb64 E T) (nb64 E T) = some .eq := by
  show Jvm.FP.Core.cmp Jvm.FP.Core.b64 _ _ = _
  unfold Jvm.FP.Core.cmp
  rw [nb64_t h.2 hT, dec64 h hT]
  unfold Jvm.FP.Core.order
  show some (compare _ _) = _
  rw [Int.compare_eq_eq.mpr rfl]
theorem bi64 (b : UInt64) : b.toInt64 = Int64.ofInt (b.toNat : Int) := by
  rw [Int64.ofInt_eq_ofNat]
  have : b = UInt64.ofNat b.toNat := (UInt64.ofNat_toNat).symm
  conv => lhs; rw [this]
  rfl
theorem sh64_c {a t : Int} (h0 : 0 ≤ a) (h1 : a ≤ t) (h2 : 1 ≤ t) (h3 : t < 65536) : sh64 a t = 0 ∨ ∃ E T : Nat, sh64 a t = nb64 E T ∧ (1 ≤ E ∧ E ≤ 1023) ∧ T < 4503599627370496 := by
  obtain ⟨a, rfl⟩ := Int.eq_ofNat_of_zero_le h0
  obtain ⟨t, rfl⟩ := Int.eq_ofNat_of_zero_le (by omega : 0 ≤ t)
  by_cases ha : a = 0
  · subst ha
    exact Or.inl (sh64_0 (by omega) (by omega))
  · exact Or.inr (sh64_p (by omega) (by omega) (by omega))
theorem sh64_n {a t : Int} (h0 : 0 ≤ a) (h1 : a ≤ t) (h2 : 1 ≤ t) (h3 : t < 65536) : vf_n64 (sh64 a t) ∧ Jvm.FP.dcmp (sh64 a t) (sh64 a t) = some .eq := by
  rcases sh64_c h0 h1 h2 h3 with h | ⟨E, T, h, hE, hT⟩
  · rw [h]
    unfold vf_n64
    exact ⟨by decide +kernel, by decide +kernel⟩
  · rw [h]
    exact ⟨nn64 (by omega) hT, cm64_s (by omega) hT⟩
theorem s_fb64 (hst : l.stackTraces = false) {a t : Int} (h0 : 0 ≤ a) (h1 : a ≤ t) (h2 : 1 ≤ t) (h3 : t < 65536) : Zl G l N sh M_X7_doubleBits [.double (sh64 a t)] μ (fun r μ' => r = ((sh64 a t).toNat : Int) ∧ μ' = μ) := by
  rcases sh64_c h0 h1 h2 h3 with h | ⟨E, T, h, hE, hT⟩
  · rw [h]
    exact s_X7_doubleBits0 hst
  · rw [h, nb64_t (by omega) hT]
    refine Fx.mono (s_X7_doubleBits hst hE hT) ?_
    rintro o μ2 ⟨v, rfl, a1, rfl, e1, e2⟩
    exact ⟨_, rfl, _, rfl, by rw [e1]; omega, e2⟩
theorem z_fb64 (hst : l.stackTraces = false) {a t : Int} (h0 : 0 ≤ a) (h1 : a ≤ t) (h2 : 1 ≤ t) (h3 : t < 65536) : Zl G l N sh M_Jxe99ae_doubleToLongBits_ccdee [.double (sh64 a t)] μ (fun r μ' => r = ((sh64 a t).toNat : Int) ∧ μ' = μ) :=
  z_bits64 hst (sh64_n h0 h1 h2 h3).2 (bi64 _)
end FPZ
