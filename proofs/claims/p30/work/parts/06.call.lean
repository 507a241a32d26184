/-! ===== ends of methods, calls ===== -/
theorem W.upper {p : Program} {l : Launch} {e : Env} {R : Room} {s : State} {m : MethodId} {args : Array Value} {below : List Frame} {meth : Method} {c : Code} {H : Heap} {locs : List Loc} {k n : Nat} {Q : State → Prop} {g : JFrame}
    (kk : H.size ≤ s.heap.size + k → W p l e R s m args below meth c H locs k n Q g) : W p l e R s m args below meth c H locs k n Q g := by
  intro T hT X
  exact kk (by have h := X.same.2.2.1; rw [← hT]; exact h) T hT X
theorem wld_lo {G : GT} {w : WT} {H : Heap} (h : wld G w H) (hb : gB G ≤ H.size) : gB G + w.1 ≤ H.size := by
  obtain ⟨n, sh, μ⟩ := w
  cases n with
  | zero => exact hb
  | succ k =>
    have h1 := (h k _ (wsO_get (G := G) (w := (k + 1, sh, μ)) (Nat.lt_succ_self k))).lt
    show gB G + (k + 1) ≤ H.size
    have h2 : gB G + k < H.size := h1
    omega
section VE
variable {G : GT} {l : Launch} {z : Option Nat} {M : MD} {pc : Nat} {lv : List (Nat × Value)} {rest : List Value} {w : WT} {k n : Nat} {Φ : RT → Prop}
theorem VW.ireturn {a : Int} {ty : FieldType} (hd : decode (mC M) pc = .ok (.ireturn, 1)) (hr : mR M = some ty) (hn : narrow ty (vI a) = vI a) (hΦ : Φ (.inl (some (vI a)), w, k, n)) : VW G l z M pc lv [vI a] w k n Φ :=
  ⟨_, hΦ, ⟨Nat.le_refl _, Nat.le_refl _⟩, fun p e R s m args below meth c H locs ls C hl hw hS =>
    vx_ret (W.zret C.1.1 C.1.2.1 (C.1.2.2.2.1.trans hr) hn (fun t ht hW => ⟨⟨_, rfl, rfl, by rw [ht]; exact hw⟩, hS.F ht⟩) hS.2.2 hd C.2.2.1.1)⟩
theorem VW.lreturn {a : Int} (hd : decode (mC M) pc = .ok (.lreturn, 1)) (hr : mR M = some .long) (hΦ : Φ (.inl (some (vL a)), w, k, n)) : VW G l z M pc lv [vL a] w k n Φ :=
  ⟨_, hΦ, ⟨Nat.le_refl _, Nat.le_refl _⟩, fun p e R s m args below meth c H locs ls C hl hw hS =>
    vx_ret (W.lret C.1.1 C.1.2.1 (C.1.2.2.2.1.trans hr) (fun t ht hW => ⟨⟨_, rfl, rfl, by rw [ht]; exact hw⟩, hS.F ht⟩) hS.2.2 hd C.2.2.1.1)⟩
theorem VW.dreturn {a : UInt64} (hd : decode (mC M) pc = .ok (.dreturn, 1)) (hr : mR M = some .double) (hΦ : Φ (.inl (some (.double a)), w, k, n)) : VW G l z M pc lv [.double a] w k n Φ :=
  ⟨_, hΦ, ⟨Nat.le_refl _, Nat.le_refl _⟩, fun p e R s m args below meth c H locs ls C hl hw hS =>
    have hlocks : meth.locks = false := C.2.2.1.1
    vx_ret (W.dret C.1.1 C.1.2.1 (C.1.2.2.2.1.trans hr) (fun t ht hW => ⟨⟨_, rfl, rfl, by rw [ht]; exact hw⟩, hS.F ht⟩) hS.2.2 hd hlocks)⟩
theorem VW.vreturn (hd : decode (mC M) pc = .ok (.return_, 1)) (hr : mR M = none) (hΦ : Φ (.inl none, w, k, n)) : VW G l z M pc lv [] w k n Φ :=
  ⟨_, hΦ, ⟨Nat.le_refl _, Nat.le_refl _⟩, fun p e R s m args below meth c H locs ls C hl hw hS =>
    vx_ret (W.vret C.1.1 C.1.2.1 (C.1.2.2.2.1.trans hr) (fun t ht hW => ⟨⟨_, rfl, rfl, by rw [ht]; exact hw⟩, hS.F ht⟩) hS.2.2 hd C.2.2.1.1)⟩
theorem VW.areturn {v : Value} {C0 : String} (hd : decode (mC M) pc = .ok (.areturn, 1)) (hr : mR M = some (.object C0)) (hv : v = .null ∨ ∃ a, v = .ref a) (hΦ : Φ (.inl (some v), w, k, n)) : VW G l z M pc lv [v] w k n Φ :=
  ⟨_, hΦ, ⟨Nat.le_refl _, Nat.le_refl _⟩, fun p e R s m args below meth c H locs ls C hl hw hS =>
    vx_ret (W.aret C.1.1 C.1.2.1 (C.1.2.2.2.1.trans hr) (Or.inl ⟨C0, rfl⟩) hv (fun t ht hW => ⟨⟨_, rfl, rfl, by rw [ht]; exact hw⟩, hS.F ht⟩) hS.2.2 hd C.2.2.1.1)⟩
end VE
/-- a method's contract, out of its body -/
theorem Run.of {G : GT} {l : Launch} (hst : l.stackTraces = false) {t : Bool} {M : MD} {av : List Value} {w : WT} {r : RT} {lv : List (Nat × Value)} (hh : mH M = []) (hp : plainName (mY M).cls = true) (hav : (lg_sl av).length ≤ mL M) (hlv : ∀ q ∈ lv, q ∈ lv_args 0 av)
    (h : V G l (if t then some w.1 else none) M 0 lv [] w 0 0 r) : Run G l t M av w r := by
  refine vx_ofW (cc := mC M) (maxL := mL M) (ret := mR M) (ws' := lw_G) hp (by unfold mW mK; rw [hh]) ?_
  intro p e s m args below meth c s₁ B hml ht hv
  obtain ⟨rfl, hE, hW, htight⟩ := hv
  have hts := atoms_spec (ws := mW M) B.pre
  have hl := lv_entry av (n := mL M) hav
  rw [lg_entry_eq]
  refine h.2 p e _ s m _ below meth c s.heap [] _ ⟨⟨B.exec, B.bytes, hml, B.returns, findClass_of_methodNamed B.named⟩, fun w hw => hts w (List.mem_cons_of_mem _ hw), ⟨B.notSynchronized, Nat.le_refl _, Nat.le_refl _, Nat.le_refl _, Nat.le_refl _⟩, fun hi => by rw [← hi]; exact (name_of_methodNamed B.named B.method).1, ?_, hE, ?_, hst⟩ (hl.mono hlv) hW va_S.rf
  · rw [hh]
    cases hx : c.exceptionTable.toList with
    | nil => rfl
    | cons x xs => exact (ht x (by rw [hx]; exact List.mem_cons_self)).elim
  · intro n0 hn
    cases t with
    | true =>
      cases hn
      exact htight rfl
    | false => cases hn
section VC
variable {G : GT} {l : Launch} {z : Option Nat} {M M' : MD} {pc idx : Nat} {lv : List (Nat × Value)} {st av rest : List Value} {w : WT} {k n : Nat} {Φ : RT → Prop}
theorem Pre0.blind {t : Bool} : FrameBlind (va_Pc av (Pre0 G t w)) := fun a U g mk h => ⟨h.1, eEnv.same h.2.1 rfl rfl, h.2.2.1, h.2.2.2⟩
/-- behind a call that returns v -/
theorem VW.ofRun {r1 : RT} {v : Option Value} {av2 : Array Value} (hv : r1.1 = .inl v) (h : VW G l z M (pc + 3) lv (v.toList ++ rest) r1.2.1 (k + r1.2.2.1) (n + r1.2.2.2) Φ)
    (hrun : ∀ (r : RT) (p : Program) (e : Env) (R : Room) (s : State) (m : MethodId) (args : Array Value) (below : List Frame) (meth : Method) (c : Code) (H : Heap) (locs : List Loc) (ls : Array Slot),
      Ctx G z M r p l R s m args meth c → (k + r1.2.2.1 ≤ R.cells ∧ n + r1.2.2.2 ≤ R.slots) → lv_has ls (mL M) lv → wld G w H → va_S (gA G) s.heap H locs → H.size ≤ s.heap.size + k →
      vx_Run p l e R s m args below meth c H locs k n r1.2.2.1 r1.2.2.2 (F0 m pc ls st) rest (xQc G r1 av2) (xXC G r1) (gA G)) : VW G l z M pc lv st w k n Φ :=
  VW.step ⟨Nat.le_add_right _ _, Nat.le_add_right _ _⟩ h fun r p e R s m args below meth c H locs ls C hR hl hw hS kk => by
    refine W.upper (fun hup => ?_)
    intro T hT X
    rcases hrun r p e R s m args below meth c H locs ls C hR hl hw hS hup T hT X with ⟨v', st₀, t, T', L, h0, X', hL, e1, e2, ⟨⟨v2, hv2, ho, hw2⟩, hF⟩, stp⟩ | ⟨q, st₀, t, T', L, E, ce, h0, X', hL, e1, e2, ⟨⟨hx, hw2⟩, hF⟩, hce, hcv, hcl, stp⟩
    · have e3 : v' = v := by
        have e4 : v' = v2 := by cases ho; rfl
        have e5 : v = v2 := by rw [hv] at hv2; cases hv2; rfl
        rw [e4, e5]
      subst e3
      obtain ⟨k1, k2, k3⟩ := vx_keep h0 e1 hS (fun _ _ h => h) (fun _ h => h) hL hF
      obtain ⟨t2, a1, b1⟩ := kk T'.heap (locs ++ L) ls hl (by rw [e1]; exact hw2) k3 T' rfl X'
      exact ⟨t2, stp t2 a1, b1⟩
    · rw [hv] at hx
      cases hx
/-- what a call of M' in M stands on -/
def CfB (M M' : MD) (n : Nat) : Prop := mK M' ∈ lw_G ∧ Cond.initialized (mY M').cls ∈ lw_G ∧ mH M' = [] ∧
  ((mY M').cls ≠ "java/lang/invoke/MethodHandle" ∧ (mY M').cls ≠ "java/lang/invoke/VarHandle" ∧ (parseMethodDescriptor (mY M').desc).map (fun d => d.parameters.length) = some n) ∧ (mF M' + 1 ≤ mF M ∧ 8 + (mL M' + 11) + mO M' ≤ mO M)
def CfV (M M' : MD) (idx n ci : Nat) : Prop := CfB M M' n ∧ Cond.methodLink (mY M).cls idx (mY M') ∈ lw_G ∧ Cond.instanceMethod (mY M') ∈ lw_G ∧ Cond.selects (mY M').cls (mY M') (mY M') ∈ lw_G ∧ ∃ q : vw_C, vwCl[ci]? = some q ∧ q.1 = (mY M').cls
def CfS (M M' : MD) (idx n : Nat) : Prop := CfB M M' n ∧ Cond.methodLink (mY M).cls idx (mY M') ∈ lw_G ∧ Cond.static (mY M') ∈ lw_G
def CfI (M M' : MD) (idx n : Nat) : Prop := CfB M M' n ∧ Cond.methodLink (mY M).cls idx (mY M') ∈ lw_G ∧ Cond.instanceMethod (mY M') ∈ lw_G ∧ (mY M').name = "<init>" ∧ mR M' = none
def CfN (M M' : MD) (idx n : Nat) : Prop := CfB M M' n ∧ (∃ host : String, ((mY M).cls, idx, mY M', host) ∈ eNM) ∧ Cond.static (mY M') ∈ lw_G
theorem mW_good (h : mK M' ∈ lw_G) : GoodIn lw_G (mW M') := fun w hw => by
  rcases List.mem_cons.mp hw with e | hw
  · subst e; exact ⟨h, inG_g h⟩
  · exact ⟨hw, inG_g hw⟩
theorem CfB.callB {r1 : RT} {R : Room} {s : State} {args : Array Value} {n : Nat} (cf : CfB M M' n) (hts : ∀ w ∈ lw_G, w.before args s = true) (hlk : Cond.methodLink (mY M).cls idx (mY M') ∈ lw_G) (hF : mF M ≤ R.frames) (hO : mO M ≤ R.locals) :
    CallB R s args (mY M).cls idx (mY M') (mC M') (mL M') (mR M') (mW M') (mRm M' r1) r1.2.2.1 r1.2.2.2 n :=
  callB_of n hts (mW_good cf.1) (ws' := lw_G) (by unfold mW mK; rw [cf.2.2.1]) rfl rfl (hts _ cf.2.1) (hts _ hlk) cf.2.2.2.1 ⟨Nat.le_trans cf.2.2.2.2.1 hF, Nat.le_trans cf.2.2.2.2.2 hO⟩
/-- the world's size at a call, exactly -/
theorem tight_of {s : State} {H : Heap} {locs : List Loc} {t : Bool} (ht : t = true → ∃ n0, z = some n0 ∧ n0 + k = w.1) (hz : ∀ n0, z = some n0 → s.heap.size = gB G + n0) (hw : wld G w H) (hS : va_S (gA G) s.heap H locs) (hE : eEnv G s) (hup : H.size ≤ s.heap.size + k) : t = true → H.size = gB G + w.1 := by
  intro h
  obtain ⟨n0, h1, h2⟩ := ht h
  have h3 := hz n0 h1
  have h4 := wld_lo hw (Nat.le_trans hE.1 hS.1)
  omega
theorem VW.callV {ci b : Nat} {fks : List FK} {t : Bool} (cf : CfV M M' idx av.length ci) (hd : decode (mC M) pc = .ok (.invokevirtual idx, 3)) (hst : st = av.reverse ++ .ref (gB G + b) :: rest) (hrest : (rest.map fun v => v.category).sum ≤ 8)
    (hb : b < w.1) (hs : w.2.1 b = sO ci fks) (ht : t = true → ∃ n0, z = some n0 ∧ n0 + k = w.1)
    (hc : ∃ r1 : RT, Run G l t M' (.ref (gB G + b) :: av) w r1 ∧ ∃ v, r1.1 = .inl v ∧ VW G l z M (pc + 3) lv (v.toList ++ rest) r1.2.1 (k + r1.2.2.1) (n + r1.2.2.2) Φ) : VW G l z M pc lv st w k n Φ := by
  obtain ⟨r1, hM, v, hv, hk⟩ := hc
  refine VW.ofRun hv hk (av2 := (Value.ref (gB G + b) :: av).toArray) fun r p e R s m args below meth c H locs ls C hR hl hw hS hup => ?_
  obtain ⟨q, hq, hqn⟩ := cf.2.2.2.2
  have he : (wsO G w)[b]? = some (gB G + b, .inr (ci, flds (gB G) (w.2.2 b) 0 fks)) := by rw [wsO_get hb, hs]; rfl
  have hrec := va_recv C.2.2.2.2.2.1.2.1 hw hq he
  rw [hqn] at hrec
  exact vx_runV (As := av) (Ts := lw_G) ⟨C.1.1, C.1.2.1, C.1.2.2.1, C.1.2.2.2.2, C.2.1⟩ hM ⟨cf.1.callB C.2.1 cf.2.1 C.2.2.1.2.1 C.2.2.1.2.2.1, C.2.1 _ cf.2.2.1, C.2.1 _ cf.2.2.2.1⟩
    ⟨Pre0.blind, hrec, fun U hU hW => ⟨rfl, C.2.2.2.2.2.1.move hS hW hU, by rw [hU]; exact hw, fun h => by rw [hU]; exact tight_of ht C.2.2.2.2.2.2.1 hw hS C.2.2.2.2.2.1 hup h⟩⟩ rfl rfl hl.1 hst (lv_room hrest) hd hR
theorem VW.callS {t : Bool} (cf : CfS M M' idx av.length) (hd : decode (mC M) pc = .ok (.invokestatic idx, 3)) (hst : st = av.reverse ++ rest) (hrest : (rest.map fun v => v.category).sum ≤ 8)
    (ht : t = true → ∃ n0, z = some n0 ∧ n0 + k = w.1)
    (hc : ∃ r1 : RT, Run G l t M' av w r1 ∧ ∃ v, r1.1 = .inl v ∧ VW G l z M (pc + 3) lv (v.toList ++ rest) r1.2.1 (k + r1.2.2.1) (n + r1.2.2.2) Φ) : VW G l z M pc lv st w k n Φ := by
  obtain ⟨r1, hM, v, hv, hk⟩ := hc
  refine VW.ofRun hv hk (av2 := av.toArray) fun r p e R s m args below meth c H locs ls C hR hl hw hS hup => ?_
  exact vx_runS (As := av) (Ts := lw_G) ⟨C.1.1, C.1.2.1, C.1.2.2.1, C.1.2.2.2.2, C.2.1⟩ hM ⟨cf.1.callB C.2.1 cf.2.1 C.2.2.1.2.1 C.2.2.1.2.2.1, C.2.1 _ cf.2.2⟩
    ⟨Pre0.blind, fun U hU hW => ⟨rfl, C.2.2.2.2.2.1.move hS hW hU, by rw [hU]; exact hw, fun h => by rw [hU]; exact tight_of ht C.2.2.2.2.2.2.1 hw hS C.2.2.2.2.2.1 hup h⟩⟩ rfl rfl hl.1 hst (lv_room hrest) hd hR
theorem VW.callN {t : Bool} (cf : CfN M M' idx av.length) (hd : decode (mC M) pc = .ok (.invokestatic idx, 3)) (hst : st = av.reverse ++ rest) (hrest : (rest.map fun v => v.category).sum ≤ 8)
    (ht : t = true → ∃ n0, z = some n0 ∧ n0 + k = w.1)
    (hc : ∃ r1 : RT, Run G l t M' av w r1 ∧ ∃ v, r1.1 = .inl v ∧ VW G l z M (pc + 3) lv (v.toList ++ rest) r1.2.1 (k + r1.2.2.1) (n + r1.2.2.2) Φ) : VW G l z M pc lv st w k n Φ := by
  obtain ⟨r1, hM, v, hv, hk⟩ := hc
  refine VW.ofRun hv hk (av2 := av.toArray) fun r p e R s m args below meth c H locs ls C hR hl hw hS hup => ?_
  obtain ⟨cb, ⟨host, hlk⟩, hstat⟩ := cf
  exact vx_runSN (As := av) (Ts := lw_G) (host := host) ⟨C.1.1, C.1.2.1, C.1.2.2.1, C.1.2.2.2.2, C.2.1⟩ hM
    ⟨va_cnB av.length C.2.1 (mW_good cb.1) (ws' := lw_G) (by unfold mW mK; rw [cb.2.2.1]) rfl rfl (C.2.2.2.2.2.1.2.2.2.2.2.2.2.1 _ hlk) (C.2.1 _ cb.2.1) cb.2.2.2.1 ⟨Nat.le_trans cb.2.2.2.2.1 C.2.2.1.2.1, Nat.le_trans cb.2.2.2.2.2 C.2.2.1.2.2.1⟩, C.2.1 _ hstat, trivial⟩
    ⟨Pre0.blind, fun U hU hW => ⟨rfl, C.2.2.2.2.2.1.move hS hW hU, by rw [hU]; exact hw, fun h => by rw [hU]; exact tight_of ht C.2.2.2.2.2.2.1 hw hS C.2.2.2.2.2.1 hup h⟩⟩ rfl rfl hl.1 hst (lv_room hrest) hd hR
theorem VW.callI {b : Nat} {t : Bool} (cf : CfI M M' idx av.length) (hd : decode (mC M) pc = .ok (.invokespecial idx, 3)) (hst : st = av.reverse ++ .ref (gB G + b) :: rest) (hrest : (rest.map fun v => v.category).sum ≤ 8)
    (ht : t = true → ∃ n0, z = some n0 ∧ n0 + k = w.1)
    (hc : ∃ r1 : RT, Run G l t M' (.ref (gB G + b) :: av) w r1 ∧ ∃ v, r1.1 = .inl v ∧ VW G l z M (pc + 3) lv (v.toList ++ rest) r1.2.1 (k + r1.2.2.1) (n + r1.2.2.2) Φ) : VW G l z M pc lv st w k n Φ := by
  obtain ⟨r1, hM, v, hv, hk⟩ := hc
  refine VW.ofRun hv hk (av2 := (Value.ref (gB G + b) :: av).toArray) fun r p e R s m args below meth c H locs ls C hR hl hw hS hup => ?_
  obtain ⟨cb, hlk, hin, hn1, hret⟩ := cf
  have cB := cb.callB (r1 := r1) (R := R) C.2.1 hlk C.2.2.1.2.1 C.2.2.1.2.2.1
  rw [hret] at cB
  exact vx_runI (As := av) (Ts := lw_G) ⟨C.1.1, C.1.2.1, C.1.2.2.1, C.1.2.2.2.2, C.2.1⟩ hM ⟨cB, hn1, C.2.1 _ hin⟩
    ⟨Pre0.blind, fun U hU hW => ⟨rfl, C.2.2.2.2.2.1.move hS hW hU, by rw [hU]; exact hw, fun h => by rw [hU]; exact tight_of ht C.2.2.2.2.2.2.1 hw hS C.2.2.2.2.2.1 hup h⟩⟩ rfl rfl hl.1 hst (lv_room hrest) hd hR
end VC
