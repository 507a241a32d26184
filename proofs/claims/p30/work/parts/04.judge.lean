/-! ===== the judgement V: a method's frame over a world, with the result r ===== -/
def lw_G : List Cond := lw_tbl.filter goodWord
theorem inG {w : Cond} (h : w ∈ lw_tbl) (g : goodWord w = true) : w ∈ lw_G := List.mem_filter.mpr ⟨h, g⟩
theorem inG_g {w : Cond} (h : w ∈ lw_G) : (w.onTables && w.keeps) = true ∨ ∃ ty, w = .arrayClass ty := good_of_word (List.mem_filter.mp h).2
/-- name, code, locals, return type, frames, words of locals, handlers -/
abbrev MD : Type := MethodName × ByteArray × Nat × Option FieldType × Nat × Nat × List (Nat × Nat × Nat × Nat)
def mY (M : MD) : MethodName := M.1
def mC (M : MD) : ByteArray := M.2.1
def mL (M : MD) : Nat := M.2.2.1
def mR (M : MD) : Option FieldType := M.2.2.2.1
def mF (M : MD) : Nat := M.2.2.2.2.1
def mO (M : MD) : Nat := M.2.2.2.2.2.1
def mH (M : MD) : List (Nat × Nat × Nat × Nat) := M.2.2.2.2.2.2
def mK (M : MD) : Cond := match mH M with
  | [] => .code (mY M) (mC M) (mL M) (mR M)
  | h :: t => .codeWith (mY M) (mC M) (mL M) (mR M) (h :: t)
def mW (M : MD) : List Cond := mK M :: lw_G
/-- a result: the outcome, the world, cells, slots -/
abbrev RT : Type := (Option Value ⊕ String) × WT × Nat × Nat
def xQc (G : GT) (r : RT) : Array Value → State → Outcome → State → Prop := fun _ st o t => (∃ v : Option Value, r.1 = .inl v ∧ o = .returned v ∧ wld G r.2.1 t.heap) ∧ va_F (gA G) st t
def xXC (G : GT) (r : RT) : String → State → State → Prop := fun E st t => (r.1 = .inr E ∧ wld G r.2.1 t.heap) ∧ va_F (gA G) st t
def mRm (M : MD) (r : RT) : Room := { frames := mF M, cells := r.2.2.1, slots := r.2.2.2, locals := mO M }
def Pre0 (G : GT) (t : Bool) (w : WT) (U : State) : Prop := eEnv G U ∧ wld G w U.heap ∧ (t = true → U.heap.size = gB G + w.1)
def Run (G : GT) (l : Launch) (t : Bool) (M : MD) (av : List Value) (w : WT) (r : RT) : Prop :=
  vx_Met l (mY M) (mW M) (mRm M r) (va_Pc av (Pre0 G t w)) (xQc G r) (xXC G r) r.2.2.1 r.2.2.2 (gA G)
def Ctx (G : GT) (z : Option Nat) (M : MD) (r : RT) (p : Program) (l : Launch) (R : Room) (s : State) (m : MethodId) (args : Array Value) (meth : Method) (c : Code) : Prop :=
  (p.tables.exec = Jvm.exec ∧ c.code = mC M ∧ c.maxLocals = mL M ∧ meth.sig.returnType = mR M ∧ s.vm.findClass (mY M).cls = some m.cls) ∧ (∀ w ∈ lw_G, w.before args s = true) ∧
  (meth.locks = false ∧ mF M ≤ R.frames ∧ mO M ≤ R.locals ∧ r.2.2.1 ≤ R.cells ∧ r.2.2.2 ≤ R.slots) ∧ ((mY M).name = "<init>" → meth.name = "<init>") ∧
  c.exceptionTable.toList = tableOf (mH M) ∧ eEnv G s ∧ (∀ n0, z = some n0 → s.heap.size = gB G + n0) ∧ l.stackTraces = false
def V (G : GT) (l : Launch) (z : Option Nat) (M : MD) (pc : Nat) (lv : List (Nat × Value)) (st : List Value) (w : WT) (k n : Nat) (r : RT) : Prop :=
  (k ≤ r.2.2.1 ∧ n ≤ r.2.2.2) ∧ ∀ (p : Program) (e : Env) (R : Room) (s : State) (m : MethodId) (args : Array Value) (below : List Frame) (meth : Method) (c : Code) (H : Heap) (locs : List Loc) (ls : Array Slot),
    Ctx G z M r p l R s m args meth c → lv_has ls (mL M) lv → wld G w H → va_S (gA G) s.heap H locs →
    W p l e R s m args below meth c H locs k n (vx_MQ below (xQc G r) (xXC G r) args s r.2.2.1 r.2.2.2 (gA G)) (F0 m pc ls st)
def VW (G : GT) (l : Launch) (z : Option Nat) (M : MD) (pc : Nat) (lv : List (Nat × Value)) (st : List Value) (w : WT) (k n : Nat) (Φ : RT → Prop) : Prop :=
  ∃ r : RT, Φ r ∧ V G l z M pc lv st w k n r
/-- one step: from what comes behind it -/
theorem VW.step {G : GT} {l : Launch} {z : Option Nat} {M : MD} {pc pc' : Nat} {lv lv' : List (Nat × Value)} {st st' : List Value} {w w' : WT} {k n k' n' : Nat} {Φ : RT → Prop}
    (hk : k ≤ k' ∧ n ≤ n') (h : VW G l z M pc' lv' st' w' k' n' Φ)
    (f : ∀ (r : RT) (p : Program) (e : Env) (R : Room) (s : State) (m : MethodId) (args : Array Value) (below : List Frame) (meth : Method) (c : Code) (H : Heap) (locs : List Loc) (ls : Array Slot),
      Ctx G z M r p l R s m args meth c → (k' ≤ R.cells ∧ n' ≤ R.slots) → lv_has ls (mL M) lv → wld G w H → va_S (gA G) s.heap H locs →
      (∀ (H' : Heap) (locs' : List Loc) (ls' : Array Slot), lv_has ls' (mL M) lv' → wld G w' H' → va_S (gA G) s.heap H' locs' →
        W p l e R s m args below meth c H' locs' k' n' (vx_MQ below (xQc G r) (xXC G r) args s r.2.2.1 r.2.2.2 (gA G)) (F0 m pc' ls' st')) →
      W p l e R s m args below meth c H locs k n (vx_MQ below (xQc G r) (xXC G r) args s r.2.2.1 r.2.2.2 (gA G)) (F0 m pc ls st)) : VW G l z M pc lv st w k n Φ := by
  obtain ⟨r, hΦ, ⟨h1, h2⟩, h3⟩ := h
  refine ⟨r, hΦ, ⟨Nat.le_trans hk.1 h1, Nat.le_trans hk.2 h2⟩, fun p e R s m args below meth c H locs ls C hl hw hS => ?_⟩
  exact f r p e R s m args below meth c H locs ls C ⟨Nat.le_trans h1 C.2.2.1.2.2.2.1, Nat.le_trans h2 C.2.2.1.2.2.2.2⟩ hl hw hS (fun H' locs' ls' a b d => h3 p e R s m args below meth c H' locs' ls' C a b d)
/-- locals by name -/
def lk : List (Nat × Value) → Nat → Option Value
  | [], _ => none
  | q :: t, i => if q.1 = i then some q.2 else lk t i
theorem lk_mem : ∀ {lv : List (Nat × Value)} {i : Nat} {v : Value}, lk lv i = some v → (i, v) ∈ lv
  | q :: t, i, v, h => by
    unfold lk at h
    by_cases hq : q.1 = i
    · rw [if_pos hq] at h
      cases h
      subst hq
      exact List.mem_cons_self
    · rw [if_neg hq] at h
      exact List.mem_cons_of_mem _ (lk_mem h)
theorem lk_at {ls : Array Slot} {nL : Nat} {lv : List (Nat × Value)} {i : Nat} {v : Value} (h : lv_has ls nL lv) (hk : lk lv i = some v) : ls[i]? = some (.val v) := h.2.2 (i, v) (lk_mem hk)
theorem lv_has.mono {ls : Array Slot} {nL : Nat} {l l' : List (Nat × Value)} (h : lv_has ls nL l) (hs : ∀ q ∈ l', q ∈ l) : lv_has ls nL l' := ⟨h.1, h.2.1, fun q hq => h.2.2 q (hs q hq)⟩
/-- a local is set in its place -/
def ups1 : List (Nat × Value) → Nat → Value → List (Nat × Value)
  | [], i, v => [(i, v)]
  | q :: t, i, v => if q.1 = i then (i, v) :: t.filter (fun q => !(q.1 == i) && !(q.1 + 1 == i && q.2.category == 2)) else if q.1 + 1 = i ∧ q.2.category = 2 then ups1 t i v else q :: ups1 t i v
def ups2 : List (Nat × Value) → Nat → Value → List (Nat × Value)
  | [], i, v => [(i, v)]
  | q :: t, i, v => if q.1 = i then (i, v) :: t.filter (fun q => !(q.1 == i) && (!(q.1 == i + 1) && !(q.1 + 1 == i && q.2.category == 2))) else if q.1 = i + 1 ∨ (q.1 + 1 = i ∧ q.2.category = 2) then ups2 t i v else q :: ups2 t i v
theorem ups1_mem : ∀ {lv : List (Nat × Value)} {i : Nat} {v : Value} {q : Nat × Value}, q ∈ ups1 lv i v → q ∈ (i, v) :: lv.filter (fun q => !(q.1 == i) && !(q.1 + 1 == i && q.2.category == 2))
  | [], i, v, q, h => by simpa [ups1] using h
  | x :: t, i, v, q, h => by
    unfold ups1 at h
    by_cases h1 : x.1 = i
    · rw [if_pos h1] at h
      rcases List.mem_cons.mp h with h | h
      · exact List.mem_cons.mpr (Or.inl h)
      · refine List.mem_cons.mpr (Or.inr ?_)
        obtain ⟨a, b⟩ := List.mem_filter.mp h
        exact List.mem_filter.mpr ⟨List.mem_cons_of_mem _ a, b⟩
    · rw [if_neg h1] at h
      have lift : ∀ {q : Nat × Value}, q ∈ (i, v) :: t.filter (fun q => !(q.1 == i) && !(q.1 + 1 == i && q.2.category == 2)) → q ∈ (i, v) :: (x :: t).filter (fun q => !(q.1 == i) && !(q.1 + 1 == i && q.2.category == 2)) := by
        intro q h
        rcases List.mem_cons.mp h with h | h
        · exact List.mem_cons.mpr (Or.inl h)
        · refine List.mem_cons.mpr (Or.inr ?_)
          obtain ⟨a, b⟩ := List.mem_filter.mp h
          exact List.mem_filter.mpr ⟨List.mem_cons_of_mem _ a, b⟩
      by_cases h2 : x.1 + 1 = i ∧ x.2.category = 2
      · rw [if_pos h2] at h
        exact lift (ups1_mem h)
      · rw [if_neg h2] at h
        rcases List.mem_cons.mp h with h | h
        · subst h
          refine List.mem_cons.mpr (Or.inr (List.mem_filter.mpr ⟨List.mem_cons_self, ?_⟩))
          simp only [Bool.and_eq_true, Bool.not_eq_true', beq_eq_false_iff_ne, ne_eq, Bool.and_eq_false_iff]
          refine ⟨h1, ?_⟩
          by_cases h3 : q.1 + 1 = i
          · exact Or.inr (fun e => h2 ⟨h3, e⟩)
          · exact Or.inl h3
        · exact lift (ups1_mem h)
theorem ups2_mem : ∀ {lv : List (Nat × Value)} {i : Nat} {v : Value} {q : Nat × Value}, q ∈ ups2 lv i v → q ∈ (i, v) :: lv.filter (fun q => !(q.1 == i) && (!(q.1 == i + 1) && !(q.1 + 1 == i && q.2.category == 2)))
  | [], i, v, q, h => by simpa [ups2] using h
  | x :: t, i, v, q, h => by
    unfold ups2 at h
    have lift : ∀ {q : Nat × Value}, q ∈ (i, v) :: t.filter (fun q => !(q.1 == i) && (!(q.1 == i + 1) && !(q.1 + 1 == i && q.2.category == 2))) → q ∈ (i, v) :: (x :: t).filter (fun q => !(q.1 == i) && (!(q.1 == i + 1) && !(q.1 + 1 == i && q.2.category == 2))) := by
      intro q h
      rcases List.mem_cons.mp h with h | h
      · exact List.mem_cons.mpr (Or.inl h)
      · refine List.mem_cons.mpr (Or.inr ?_)
        obtain ⟨a, b⟩ := List.mem_filter.mp h
        exact List.mem_filter.mpr ⟨List.mem_cons_of_mem _ a, b⟩
    by_cases h1 : x.1 = i
    · rw [if_pos h1] at h
      exact lift h
    · rw [if_neg h1] at h
      by_cases h2 : x.1 = i + 1 ∨ (x.1 + 1 = i ∧ x.2.category = 2)
      · rw [if_pos h2] at h
        exact lift (ups2_mem h)
      · rw [if_neg h2] at h
        rcases List.mem_cons.mp h with h | h
        · subst h
          refine List.mem_cons.mpr (Or.inr (List.mem_filter.mpr ⟨List.mem_cons_self, ?_⟩))
          simp only [Bool.and_eq_true, Bool.not_eq_true', beq_eq_false_iff_ne, ne_eq, Bool.and_eq_false_iff]
          refine ⟨h1, fun e => h2 (Or.inl e), ?_⟩
          by_cases h3 : q.1 + 1 = i
          · exact Or.inr (fun e => h2 (Or.inr ⟨h3, e⟩))
          · exact Or.inl h3
        · exact lift (ups2_mem h)
/-- fewer locals are known -/
theorem VW.sub {G : GT} {l : Launch} {z : Option Nat} {M : MD} {pc : Nat} {lv lv' : List (Nat × Value)} {st : List Value} {w : WT} {k n : Nat} {Φ : RT → Prop}
    (h : VW G l z M pc lv' st w k n Φ) (ks : List Nat) (hl : lv_pick lv ks = lv') : VW G l z M pc lv st w k n Φ :=
  VW.step ⟨Nat.le_refl _, Nat.le_refl _⟩ h fun r p e R s m args below meth c H locs ls C hR hl2 hw hS kk => kk H locs ls (lv_sub hl2 ks hl) hw hS
theorem VW.mono {G : GT} {l : Launch} {z : Option Nat} {M : MD} {pc : Nat} {lv : List (Nat × Value)} {st : List Value} {w : WT} {k n : Nat} {Φ Ψ : RT → Prop}
    (h : VW G l z M pc lv st w k n Φ) (f : ∀ r, Φ r → Ψ r) : VW G l z M pc lv st w k n Ψ := by
  obtain ⟨r, a, b⟩ := h
  exact ⟨r, f r a, b⟩
theorem VW.cs {G : GT} {l : Launch} {z : Option Nat} {M : MD} {pc : Nat} {lv : List (Nat × Value)} {st : List Value} {w : WT} {k n k' n' : Nat} {Φ : RT → Prop}
    (h : VW G l z M pc lv st w k' n' Φ) (hk : k ≤ k') (hn : n ≤ n') : VW G l z M pc lv st w k n Φ :=
  VW.step ⟨hk, hn⟩ h fun r p e R s m args below meth c H locs ls C hR hl2 hw hS kk => W.widen hk hn (kk H locs ls hl2 hw hS)
/-! ===== rows of V: an instruction each ===== -/
section VR
variable {G : GT} {l : Launch} {z : Option Nat} {M : MD} {pc : Nat} {lv : List (Nat × Value)} {rest : List Value} {w : WT} {k n : Nat} {Φ : RT → Prop}
theorem VW.iconst {a : Int} (hd : decode (mC M) pc = .ok (.iconst a, 1)) (kk : VW G l z M (pc + 1) lv (vI a :: rest) w k n Φ) : VW G l z M pc lv rest w k n Φ :=
  VW.step ⟨Nat.le_refl _, Nat.le_refl _⟩ kk fun r p e R s m args below meth c H locs ls C hR hl hw hS kk => lv_iconst (v := Int32.ofInt a) C.1.1 C.1.2.1 hd rfl (kk H locs ls hl hw hS)
theorem VW.bipush {a : Int} (hd : decode (mC M) pc = .ok (.bipush a, 2)) (hv : (Int8.ofInt a).toInt32 = Int32.ofInt a) (kk : VW G l z M (pc + 2) lv (vI a :: rest) w k n Φ) : VW G l z M pc lv rest w k n Φ :=
  VW.step ⟨Nat.le_refl _, Nat.le_refl _⟩ kk fun r p e R s m args below meth c H locs ls C hR hl hw hS kk => lv_bipush (v := Int32.ofInt a) C.1.1 C.1.2.1 hd hv (kk H locs ls hl hw hS)
theorem VW.sipush {a : Int} (hd : decode (mC M) pc = .ok (.sipush a, 3)) (hv : (Int16.ofInt a).toInt32 = Int32.ofInt a) (kk : VW G l z M (pc + 3) lv (vI a :: rest) w k n Φ) : VW G l z M pc lv rest w k n Φ :=
  VW.step ⟨Nat.le_refl _, Nat.le_refl _⟩ kk fun r p e R s m args below meth c H locs ls C hR hl hw hS kk => lv_sipush (v := Int32.ofInt a) C.1.1 C.1.2.1 hd hv (kk H locs ls hl hw hS)
theorem VW.lconst {a : Fin 2} {b : Int} (hd : decode (mC M) pc = .ok (.lconst a, 1)) (hv : Int64.ofNat (a : Nat) = Int64.ofInt b) (kk : VW G l z M (pc + 1) lv (vL b :: rest) w k n Φ) : VW G l z M pc lv rest w k n Φ :=
  VW.step ⟨Nat.le_refl _, Nat.le_refl _⟩ kk fun r p e R s m args below meth c H locs ls C hR hl hw hS kk => lv_lconst (v := Int64.ofInt b) C.1.1 C.1.2.1 hd hv (kk H locs ls hl hw hS)
theorem VW.fconst0 (hd : decode (mC M) pc = .ok (.fconst 0, 1)) (kk : VW G l z M (pc + 1) lv (.float FP.fconst0 :: rest) w k n Φ) : VW G l z M pc lv rest w k n Φ :=
  VW.step ⟨Nat.le_refl _, Nat.le_refl _⟩ kk fun r p e R s m args below meth c H locs ls C hR hl hw hS kk => lv_fconst0 C.1.1 C.1.2.1 hd (kk H locs ls hl hw hS)
theorem VW.fconst1 (hd : decode (mC M) pc = .ok (.fconst 1, 1)) (kk : VW G l z M (pc + 1) lv (.float FP.fconst1 :: rest) w k n Φ) : VW G l z M pc lv rest w k n Φ :=
  VW.step ⟨Nat.le_refl _, Nat.le_refl _⟩ kk fun r p e R s m args below meth c H locs ls C hR hl hw hS kk => lv_fconst1 C.1.1 C.1.2.1 hd (kk H locs ls hl hw hS)
theorem VW.fconst2 (hd : decode (mC M) pc = .ok (.fconst 2, 1)) (kk : VW G l z M (pc + 1) lv (.float FP.fconst2 :: rest) w k n Φ) : VW G l z M pc lv rest w k n Φ :=
  VW.step ⟨Nat.le_refl _, Nat.le_refl _⟩ kk fun r p e R s m args below meth c H locs ls C hR hl hw hS kk => lv_fconst2 C.1.1 C.1.2.1 hd (kk H locs ls hl hw hS)
theorem VW.dconst0 (hd : decode (mC M) pc = .ok (.dconst 0, 1)) (kk : VW G l z M (pc + 1) lv (.double FP.dconst0 :: rest) w k n Φ) : VW G l z M pc lv rest w k n Φ :=
  VW.step ⟨Nat.le_refl _, Nat.le_refl _⟩ kk fun r p e R s m args below meth c H locs ls C hR hl hw hS kk => lv_dconst0 C.1.1 C.1.2.1 hd (kk H locs ls hl hw hS)
theorem VW.dconst1 (hd : decode (mC M) pc = .ok (.dconst 1, 1)) (kk : VW G l z M (pc + 1) lv (.double FP.dconst1 :: rest) w k n Φ) : VW G l z M pc lv rest w k n Φ :=
  VW.step ⟨Nat.le_refl _, Nat.le_refl _⟩ kk fun r p e R s m args below meth c H locs ls C hR hl hw hS kk => lv_dconst1 C.1.1 C.1.2.1 hd (kk H locs ls hl hw hS)
theorem VW.null (hd : decode (mC M) pc = .ok (.aconst_null, 1)) (kk : VW G l z M (pc + 1) lv (.null :: rest) w k n Φ) : VW G l z M pc lv rest w k n Φ :=
  VW.step ⟨Nat.le_refl _, Nat.le_refl _⟩ kk fun r p e R s m args below meth c H locs ls C hR hl hw hS kk => lv_null C.1.1 C.1.2.1 hd (kk H locs ls hl hw hS)
theorem VW.ldc {i : Nat} {a : Int} (hd : decode (mC M) pc = .ok (.ldc i, 2)) (hq : Cond.constant (mY M).cls i (Int32.ofInt a) ∈ lw_G) (kk : VW G l z M (pc + 2) lv (vI a :: rest) w k n Φ) : VW G l z M pc lv rest w k n Φ :=
  VW.step ⟨Nat.le_refl _, Nat.le_refl _⟩ kk fun r p e R s m args below meth c H locs ls C hR hl hw hS kk => lv_ldc (v := Int32.ofInt a) C.1.1 C.1.2.1 C.1.2.2.2.2 (C.2.1 _ hq) hd (kk H locs ls hl hw hS)
theorem VW.ldcf {i : Nat} {a : UInt32} (hd : decode (mC M) pc = .ok (.ldc i, 2)) (hq : Cond.constantFloat (mY M).cls i a ∈ lw_G) (kk : VW G l z M (pc + 2) lv (.float a :: rest) w k n Φ) : VW G l z M pc lv rest w k n Φ :=
  VW.step ⟨Nat.le_refl _, Nat.le_refl _⟩ kk fun r p e R s m args below meth c H locs ls C hR hl hw hS kk => lv_ldcf C.1.1 C.1.2.1 C.1.2.2.2.2 (C.2.1 _ hq) hd (kk H locs ls hl hw hS)
theorem VW.ldc2 {i : Nat} {a : Int} (hd : decode (mC M) pc = .ok (.ldc2_w i, 3)) (hq : Cond.constantLong (mY M).cls i (Int64.ofInt a) ∈ lw_G) (kk : VW G l z M (pc + 3) lv (vL a :: rest) w k n Φ) : VW G l z M pc lv rest w k n Φ :=
  VW.step ⟨Nat.le_refl _, Nat.le_refl _⟩ kk fun r p e R s m args below meth c H locs ls C hR hl hw hS kk => lv_ldc2 (v := Int64.ofInt a) C.1.1 C.1.2.1 C.1.2.2.2.2 (C.2.1 _ hq) hd (kk H locs ls hl hw hS)
theorem VW.ldc2d {i : Nat} {a : UInt64} (hd : decode (mC M) pc = .ok (.ldc2_w i, 3)) (hq : Cond.constantDouble (mY M).cls i a ∈ lw_G) (kk : VW G l z M (pc + 3) lv (.double a :: rest) w k n Φ) : VW G l z M pc lv rest w k n Φ :=
  VW.step ⟨Nat.le_refl _, Nat.le_refl _⟩ kk fun r p e R s m args below meth c H locs ls C hR hl hw hS kk => lv_ldc2d C.1.1 C.1.2.1 C.1.2.2.2.2 (C.2.1 _ hq) hd (kk H locs ls hl hw hS)
theorem VW.iload_n {q : Fin 4} {x : Int} (hd : decode (mC M) pc = .ok (.iload_n q, 1)) (hx : lk lv q = some (vI x)) (kk : VW G l z M (pc + 1) lv (vI x :: rest) w k n Φ) : VW G l z M pc lv rest w k n Φ :=
  VW.step ⟨Nat.le_refl _, Nat.le_refl _⟩ kk fun r p e R s m args below meth c H locs ls C hR hl hw hS kk => lv_iload_n C.1.1 C.1.2.1 hd rfl (lk_at hl hx) (kk H locs ls hl hw hS)
theorem VW.iload {q : Nat} {x : Int} (hd : decode (mC M) pc = .ok (.iload q, 2)) (hx : lk lv q = some (vI x)) (kk : VW G l z M (pc + 2) lv (vI x :: rest) w k n Φ) : VW G l z M pc lv rest w k n Φ :=
  VW.step ⟨Nat.le_refl _, Nat.le_refl _⟩ kk fun r p e R s m args below meth c H locs ls C hR hl hw hS kk => lv_iload C.1.1 C.1.2.1 hd (lk_at hl hx) (kk H locs ls hl hw hS)
theorem VW.lload_n {q : Fin 4} {x : Int} (hd : decode (mC M) pc = .ok (.lload_n q, 1)) (hx : lk lv q = some (vL x)) (kk : VW G l z M (pc + 1) lv (vL x :: rest) w k n Φ) : VW G l z M pc lv rest w k n Φ :=
  VW.step ⟨Nat.le_refl _, Nat.le_refl _⟩ kk fun r p e R s m args below meth c H locs ls C hR hl hw hS kk => lv_lload_n C.1.1 C.1.2.1 hd rfl (lk_at hl hx) (kk H locs ls hl hw hS)
theorem VW.lload {q : Nat} {x : Int} (hd : decode (mC M) pc = .ok (.lload q, 2)) (hx : lk lv q = some (vL x)) (kk : VW G l z M (pc + 2) lv (vL x :: rest) w k n Φ) : VW G l z M pc lv rest w k n Φ :=
  VW.step ⟨Nat.le_refl _, Nat.le_refl _⟩ kk fun r p e R s m args below meth c H locs ls C hR hl hw hS kk => lv_lload C.1.1 C.1.2.1 hd (lk_at hl hx) (kk H locs ls hl hw hS)
theorem VW.aload_n {q : Fin 4} {x : Nat} (hd : decode (mC M) pc = .ok (.aload_n q, 1)) (hx : lk lv q = some (.ref x)) (kk : VW G l z M (pc + 1) lv (.ref x :: rest) w k n Φ) : VW G l z M pc lv rest w k n Φ :=
  VW.step ⟨Nat.le_refl _, Nat.le_refl _⟩ kk fun r p e R s m args below meth c H locs ls C hR hl hw hS kk => lv_aload_n C.1.1 C.1.2.1 hd rfl (lk_at hl hx) (kk H locs ls hl hw hS)
theorem VW.aload {q : Nat} {x : Nat} (hd : decode (mC M) pc = .ok (.aload q, 2)) (hx : lk lv q = some (.ref x)) (kk : VW G l z M (pc + 2) lv (.ref x :: rest) w k n Φ) : VW G l z M pc lv rest w k n Φ :=
  VW.step ⟨Nat.le_refl _, Nat.le_refl _⟩ kk fun r p e R s m args below meth c H locs ls C hR hl hw hS kk => lv_aload C.1.1 C.1.2.1 hd (lk_at hl hx) (kk H locs ls hl hw hS)
theorem VW.fload_n {q : Fin 4} {x : UInt32} (hd : decode (mC M) pc = .ok (.fload_n q, 1)) (hx : lk lv q = some (.float x)) (kk : VW G l z M (pc + 1) lv (.float x :: rest) w k n Φ) : VW G l z M pc lv rest w k n Φ :=
  VW.step ⟨Nat.le_refl _, Nat.le_refl _⟩ kk fun r p e R s m args below meth c H locs ls C hR hl hw hS kk => lv_fload_n C.1.1 C.1.2.1 hd rfl (lk_at hl hx) (kk H locs ls hl hw hS)
theorem VW.fload {q : Nat} {x : UInt32} (hd : decode (mC M) pc = .ok (.fload q, 2)) (hx : lk lv q = some (.float x)) (kk : VW G l z M (pc + 2) lv (.float x :: rest) w k n Φ) : VW G l z M pc lv rest w k n Φ :=
  VW.step ⟨Nat.le_refl _, Nat.le_refl _⟩ kk fun r p e R s m args below meth c H locs ls C hR hl hw hS kk => lv_fload C.1.1 C.1.2.1 hd (lk_at hl hx) (kk H locs ls hl hw hS)
theorem VW.dload_n {q : Fin 4} {x : UInt64} (hd : decode (mC M) pc = .ok (.dload_n q, 1)) (hx : lk lv q = some (.double x)) (kk : VW G l z M (pc + 1) lv (.double x :: rest) w k n Φ) : VW G l z M pc lv rest w k n Φ :=
  VW.step ⟨Nat.le_refl _, Nat.le_refl _⟩ kk fun r p e R s m args below meth c H locs ls C hR hl hw hS kk => lv_dload_n C.1.1 C.1.2.1 hd rfl (lk_at hl hx) (kk H locs ls hl hw hS)
theorem VW.dload {q : Nat} {x : UInt64} (hd : decode (mC M) pc = .ok (.dload q, 2)) (hx : lk lv q = some (.double x)) (kk : VW G l z M (pc + 2) lv (.double x :: rest) w k n Φ) : VW G l z M pc lv rest w k n Φ :=
  VW.step ⟨Nat.le_refl _, Nat.le_refl _⟩ kk fun r p e R s m args below meth c H locs ls C hR hl hw hS kk => lv_dload C.1.1 C.1.2.1 hd (lk_at hl hx) (kk H locs ls hl hw hS)
theorem VW.aload_nN {q : Fin 4} (hd : decode (mC M) pc = .ok (.aload_n q, 1)) (hx : lk lv q = some .null) (kk : VW G l z M (pc + 1) lv (.null :: rest) w k n Φ) : VW G l z M pc lv rest w k n Φ :=
  VW.step ⟨Nat.le_refl _, Nat.le_refl _⟩ kk fun r p e R s m args below meth c H locs ls C hR hl hw hS kk => lv_aload_nN C.1.1 C.1.2.1 hd rfl (lk_at hl hx) (kk H locs ls hl hw hS)
theorem VW.istore_n {q : Fin 4} {x : Int} {lv' : List (Nat × Value)} (hd : decode (mC M) pc = .ok (.istore_n q, 1)) (hn : (q : Nat) < mL M) (hv : ups1 lv q (vI x) = lv') (kk : VW G l z M (pc + 1) lv' rest w k n Φ) : VW G l z M pc lv (vI x :: rest) w k n Φ :=
  VW.step ⟨Nat.le_refl _, Nat.le_refl _⟩ kk fun r p e R s m args below meth c H locs ls C hR hl hw hS kk => lv_istore_n (i := (q : Nat)) C.1.1 C.1.2.1 hd rfl hl hn rfl (fun ls' hl' => kk H locs ls' (hl'.mono (fun q hq => by subst hv; exact ups1_mem hq)) hw hS)
theorem VW.istore {q : Nat} {x : Int} {lv' : List (Nat × Value)} (hd : decode (mC M) pc = .ok (.istore q, 2)) (hn : (q : Nat) < mL M) (hv : ups1 lv q (vI x) = lv') (kk : VW G l z M (pc + 2) lv' rest w k n Φ) : VW G l z M pc lv (vI x :: rest) w k n Φ :=
  VW.step ⟨Nat.le_refl _, Nat.le_refl _⟩ kk fun r p e R s m args below meth c H locs ls C hR hl hw hS kk => lv_istore C.1.1 C.1.2.1 hd hl hn rfl (fun ls' hl' => kk H locs ls' (hl'.mono (fun q hq => by subst hv; exact ups1_mem hq)) hw hS)
theorem VW.lstore_n {q : Fin 4} {x : Int} {lv' : List (Nat × Value)} (hd : decode (mC M) pc = .ok (.lstore_n q, 1)) (hn : (q : Nat) + 1 < mL M) (hv : ups2 lv q (vL x) = lv') (kk : VW G l z M (pc + 1) lv' rest w k n Φ) : VW G l z M pc lv (vL x :: rest) w k n Φ :=
  VW.step ⟨Nat.le_refl _, Nat.le_refl _⟩ kk fun r p e R s m args below meth c H locs ls C hR hl hw hS kk => lv_lstore_n (i := (q : Nat)) C.1.1 C.1.2.1 hd rfl hl hn rfl (fun ls' hl' => kk H locs ls' (hl'.mono (fun q hq => by subst hv; exact ups2_mem hq)) hw hS)
theorem VW.lstore {q : Nat} {x : Int} {lv' : List (Nat × Value)} (hd : decode (mC M) pc = .ok (.lstore q, 2)) (hn : (q : Nat) + 1 < mL M) (hv : ups2 lv q (vL x) = lv') (kk : VW G l z M (pc + 2) lv' rest w k n Φ) : VW G l z M pc lv (vL x :: rest) w k n Φ :=
  VW.step ⟨Nat.le_refl _, Nat.le_refl _⟩ kk fun r p e R s m args below meth c H locs ls C hR hl hw hS kk => lv_lstore C.1.1 C.1.2.1 hd hl hn rfl (fun ls' hl' => kk H locs ls' (hl'.mono (fun q hq => by subst hv; exact ups2_mem hq)) hw hS)
theorem VW.astore_n {q : Fin 4} {x : Nat} {lv' : List (Nat × Value)} (hd : decode (mC M) pc = .ok (.astore_n q, 1)) (hn : (q : Nat) < mL M) (hv : ups1 lv q (.ref x) = lv') (kk : VW G l z M (pc + 1) lv' rest w k n Φ) : VW G l z M pc lv (.ref x :: rest) w k n Φ :=
  VW.step ⟨Nat.le_refl _, Nat.le_refl _⟩ kk fun r p e R s m args below meth c H locs ls C hR hl hw hS kk => lv_astore_n (i := (q : Nat)) C.1.1 C.1.2.1 hd rfl hl hn rfl (fun ls' hl' => kk H locs ls' (hl'.mono (fun q hq => by subst hv; exact ups1_mem hq)) hw hS)
theorem VW.astore {q : Nat} {x : Nat} {lv' : List (Nat × Value)} (hd : decode (mC M) pc = .ok (.astore q, 2)) (hn : (q : Nat) < mL M) (hv : ups1 lv q (.ref x) = lv') (kk : VW G l z M (pc + 2) lv' rest w k n Φ) : VW G l z M pc lv (.ref x :: rest) w k n Φ :=
  VW.step ⟨Nat.le_refl _, Nat.le_refl _⟩ kk fun r p e R s m args below meth c H locs ls C hR hl hw hS kk => lv_astore C.1.1 C.1.2.1 hd hl hn rfl (fun ls' hl' => kk H locs ls' (hl'.mono (fun q hq => by subst hv; exact ups1_mem hq)) hw hS)
theorem VW.fstore_n {q : Fin 4} {x : UInt32} {lv' : List (Nat × Value)} (hd : decode (mC M) pc = .ok (.fstore_n q, 1)) (hn : (q : Nat) < mL M) (hv : ups1 lv q (.float x) = lv') (kk : VW G l z M (pc + 1) lv' rest w k n Φ) : VW G l z M pc lv (.float x :: rest) w k n Φ :=
  VW.step ⟨Nat.le_refl _, Nat.le_refl _⟩ kk fun r p e R s m args below meth c H locs ls C hR hl hw hS kk => lv_fstore_n (i := (q : Nat)) C.1.1 C.1.2.1 hd rfl hl hn rfl (fun ls' hl' => kk H locs ls' (hl'.mono (fun q hq => by subst hv; exact ups1_mem hq)) hw hS)
theorem VW.fstore {q : Nat} {x : UInt32} {lv' : List (Nat × Value)} (hd : decode (mC M) pc = .ok (.fstore q, 2)) (hn : (q : Nat) < mL M) (hv : ups1 lv q (.float x) = lv') (kk : VW G l z M (pc + 2) lv' rest w k n Φ) : VW G l z M pc lv (.float x :: rest) w k n Φ :=
  VW.step ⟨Nat.le_refl _, Nat.le_refl _⟩ kk fun r p e R s m args below meth c H locs ls C hR hl hw hS kk => lv_fstore C.1.1 C.1.2.1 hd hl hn rfl (fun ls' hl' => kk H locs ls' (hl'.mono (fun q hq => by subst hv; exact ups1_mem hq)) hw hS)
theorem VW.dstore_n {q : Fin 4} {x : UInt64} {lv' : List (Nat × Value)} (hd : decode (mC M) pc = .ok (.dstore_n q, 1)) (hn : (q : Nat) + 1 < mL M) (hv : ups2 lv q (.double x) = lv') (kk : VW G l z M (pc + 1) lv' rest w k n Φ) : VW G l z M pc lv (.double x :: rest) w k n Φ :=
  VW.step ⟨Nat.le_refl _, Nat.le_refl _⟩ kk fun r p e R s m args below meth c H locs ls C hR hl hw hS kk => lv_dstore_n (i := (q : Nat)) C.1.1 C.1.2.1 hd rfl hl hn rfl (fun ls' hl' => kk H locs ls' (hl'.mono (fun q hq => by subst hv; exact ups2_mem hq)) hw hS)
theorem VW.dstore {q : Nat} {x : UInt64} {lv' : List (Nat × Value)} (hd : decode (mC M) pc = .ok (.dstore q, 2)) (hn : (q : Nat) + 1 < mL M) (hv : ups2 lv q (.double x) = lv') (kk : VW G l z M (pc + 2) lv' rest w k n Φ) : VW G l z M pc lv (.double x :: rest) w k n Φ :=
  VW.step ⟨Nat.le_refl _, Nat.le_refl _⟩ kk fun r p e R s m args below meth c H locs ls C hR hl hw hS kk => lv_dstore C.1.1 C.1.2.1 hd hl hn rfl (fun ls' hl' => kk H locs ls' (hl'.mono (fun q hq => by subst hv; exact ups2_mem hq)) hw hS)
theorem VW.astore_nN {q : Fin 4} {lv' : List (Nat × Value)} (hd : decode (mC M) pc = .ok (.astore_n q, 1)) (hn : (q : Nat) < mL M) (hv : ups1 lv q (.null) = lv') (kk : VW G l z M (pc + 1) lv' rest w k n Φ) : VW G l z M pc lv (.null :: rest) w k n Φ :=
  VW.step ⟨Nat.le_refl _, Nat.le_refl _⟩ kk fun r p e R s m args below meth c H locs ls C hR hl hw hS kk => lv_astore_nN (i := (q : Nat)) C.1.1 C.1.2.1 hd rfl hl hn rfl (fun ls' hl' => kk H locs ls' (hl'.mono (fun q hq => by subst hv; exact ups1_mem hq)) hw hS)
theorem VW.iinc {q : Nat} {x a : Int} {lv' : List (Nat × Value)} (hd : decode (mC M) pc = .ok (.iinc q a, 3)) (hx : lk lv q = some (vI x)) (hn : q < mL M) (hv : ups1 lv q (vI (x + a)) = lv') (kk : VW G l z M (pc + 3) lv' rest w k n Φ) : VW G l z M pc lv rest w k n Φ :=
  VW.step ⟨Nat.le_refl _, Nat.le_refl _⟩ kk fun r p e R s m args below meth c H locs ls C hR hl hw hS kk => by
    obtain ⟨j, hj⟩ := List.getElem?_of_mem (lk_mem hx)
    exact lv_iinc (k := j) (v := Int32.ofInt (x + a)) C.1.1 C.1.2.1 hd hl hj (Int32.ofInt_add x a).symm hn rfl (fun ls' hl' => kk H locs ls' (hl'.mono (fun q hq => by subst hv; exact ups1_mem hq)) hw hS)
theorem VW.iadd {a b : Int} (hd : decode (mC M) pc = .ok (.iadd, 1)) (kk : VW G l z M (pc + 1) lv (vI (a + b) :: rest) w k n Φ) : VW G l z M pc lv (vI b :: vI a :: rest) w k n Φ :=
  VW.step ⟨Nat.le_refl _, Nat.le_refl _⟩ kk fun r p e R s m args below meth c H locs ls C hR hl hw hS kk => lv_iadd C.1.1 C.1.2.1 hd (by rw [← Int32.ofInt_add]; exact kk H locs ls hl hw hS)
theorem VW.isub {a b : Int} (hd : decode (mC M) pc = .ok (.isub, 1)) (kk : VW G l z M (pc + 1) lv (vI (a - b) :: rest) w k n Φ) : VW G l z M pc lv (vI b :: vI a :: rest) w k n Φ :=
  VW.step ⟨Nat.le_refl _, Nat.le_refl _⟩ kk fun r p e R s m args below meth c H locs ls C hR hl hw hS kk => lv_isub C.1.1 C.1.2.1 hd (by rw [← Int32.ofInt_sub]; exact kk H locs ls hl hw hS)
theorem VW.imul {a b : Int} (hd : decode (mC M) pc = .ok (.imul, 1)) (kk : VW G l z M (pc + 1) lv (vI (a * b) :: rest) w k n Φ) : VW G l z M pc lv (vI b :: vI a :: rest) w k n Φ :=
  VW.step ⟨Nat.le_refl _, Nat.le_refl _⟩ kk fun r p e R s m args below meth c H locs ls C hR hl hw hS kk => lv_imul C.1.1 C.1.2.1 hd (by rw [← Int32.ofInt_mul]; exact kk H locs ls hl hw hS)
theorem VW.ladd {a b : Int} (hd : decode (mC M) pc = .ok (.ladd, 1)) (kk : VW G l z M (pc + 1) lv (vL (a + b) :: rest) w k n Φ) : VW G l z M pc lv (vL b :: vL a :: rest) w k n Φ :=
  VW.step ⟨Nat.le_refl _, Nat.le_refl _⟩ kk fun r p e R s m args below meth c H locs ls C hR hl hw hS kk => lv_ladd C.1.1 C.1.2.1 hd (by rw [← Int64.ofInt_add]; exact kk H locs ls hl hw hS)
theorem VW.lmul {a b : Int} (hd : decode (mC M) pc = .ok (.lmul, 1)) (kk : VW G l z M (pc + 1) lv (vL (a * b) :: rest) w k n Φ) : VW G l z M pc lv (vL b :: vL a :: rest) w k n Φ :=
  VW.step ⟨Nat.le_refl _, Nat.le_refl _⟩ kk fun r p e R s m args below meth c H locs ls C hR hl hw hS kk => lv_lmul C.1.1 C.1.2.1 hd (by rw [← Int64.ofInt_mul]; exact kk H locs ls hl hw hS)
theorem VW.ineg {a : Int} (hd : decode (mC M) pc = .ok (.ineg, 1)) (kk : VW G l z M (pc + 1) lv (vI (-a) :: rest) w k n Φ) : VW G l z M pc lv (vI a :: rest) w k n Φ :=
  VW.step ⟨Nat.le_refl _, Nat.le_refl _⟩ kk fun r p e R s m args below meth c H locs ls C hR hl hw hS kk => lv_ineg C.1.1 C.1.2.1 hd (by rw [← Int32.ofInt_neg]; exact kk H locs ls hl hw hS)
theorem VW.i2l {a : Int} (hd : decode (mC M) pc = .ok (.i2l, 1)) (ha : R32 a) (kk : VW G l z M (pc + 1) lv (vL a :: rest) w k n Φ) : VW G l z M pc lv (vI a :: rest) w k n Φ :=
  VW.step ⟨Nat.le_refl _, Nat.le_refl _⟩ kk fun r p e R s m args below meth c H locs ls C hR hl hw hS kk => lv_i2l (v := Int64.ofInt a) C.1.1 C.1.2.1 hd (Int32.toInt64_ofInt (by rw [show Int32.minValue.toInt = -2147483648 from rfl]; exact ha.1) (by rw [show Int32.maxValue.toInt = 2147483647 from rfl]; have := ha.2; omega)) (kk H locs ls hl hw hS)
theorem VW.dup {v : Value} (hd : decode (mC M) pc = .ok (.dup, 1)) (hc : v.category = 1) (kk : VW G l z M (pc + 1) lv (v :: v :: rest) w k n Φ) : VW G l z M pc lv (v :: rest) w k n Φ :=
  VW.step ⟨Nat.le_refl _, Nat.le_refl _⟩ kk fun r p e R s m args below meth c H locs ls C hR hl hw hS kk => lv_dup C.1.1 C.1.2.1 hd hc (kk H locs ls hl hw hS)
theorem VW.dup2 {v u : Value} (hd : decode (mC M) pc = .ok (.dup2, 1)) (hc : v.category = 1) (hc2 : u.category = 1) (kk : VW G l z M (pc + 1) lv (v :: u :: v :: u :: rest) w k n Φ) : VW G l z M pc lv (v :: u :: rest) w k n Φ :=
  VW.step ⟨Nat.le_refl _, Nat.le_refl _⟩ kk fun r p e R s m args below meth c H locs ls C hR hl hw hS kk => lv_dup2_11 C.1.1 C.1.2.1 hd hc hc2 (kk H locs ls hl hw hS)
theorem VW.idiv {a b : Int} {x : Int} (hd : decode (mC M) pc = .ok (.idiv, 1)) (hb : ¬ Int32.ofInt b = 0) (hv : Int32.ofInt a / Int32.ofInt b = Int32.ofInt x) (kk : VW G l z M (pc + 1) lv (vI x :: rest) w k n Φ) : VW G l z M pc lv (vI b :: vI a :: rest) w k n Φ :=
  VW.step ⟨Nat.le_refl _, Nat.le_refl _⟩ kk fun r p e R s m args below meth c H locs ls C hR hl hw hS kk => lv_idiv C.1.1 C.1.2.1 hd hb (by rw [hv]; exact kk H locs ls hl hw hS)
theorem VW.irem {a b : Int} {x : Int} (hd : decode (mC M) pc = .ok (.irem, 1)) (hb : ¬ Int32.ofInt b = 0) (hv : Int32.ofInt a - Int32.ofInt a / Int32.ofInt b * Int32.ofInt b = Int32.ofInt x) (kk : VW G l z M (pc + 1) lv (vI x :: rest) w k n Φ) : VW G l z M pc lv (vI b :: vI a :: rest) w k n Φ :=
  VW.step ⟨Nat.le_refl _, Nat.le_refl _⟩ kk fun r p e R s m args below meth c H locs ls C hR hl hw hS kk => lv_irem C.1.1 C.1.2.1 hd hb (by rw [hv]; exact kk H locs ls hl hw hS)
theorem VW.iand {a b : Int} {x : Int} (hd : decode (mC M) pc = .ok (.iand, 1)) (hv : Int32.ofInt a &&& Int32.ofInt b = Int32.ofInt x) (kk : VW G l z M (pc + 1) lv (vI x :: rest) w k n Φ) : VW G l z M pc lv (vI b :: vI a :: rest) w k n Φ :=
  VW.step ⟨Nat.le_refl _, Nat.le_refl _⟩ kk fun r p e R s m args below meth c H locs ls C hR hl hw hS kk => lv_iand C.1.1 C.1.2.1 hd (by rw [hv]; exact kk H locs ls hl hw hS)
theorem VW.ior {a b : Int} {x : Int} (hd : decode (mC M) pc = .ok (.ior, 1)) (hv : Int32.ofInt a ||| Int32.ofInt b = Int32.ofInt x) (kk : VW G l z M (pc + 1) lv (vI x :: rest) w k n Φ) : VW G l z M pc lv (vI b :: vI a :: rest) w k n Φ :=
  VW.step ⟨Nat.le_refl _, Nat.le_refl _⟩ kk fun r p e R s m args below meth c H locs ls C hR hl hw hS kk => lv_ior C.1.1 C.1.2.1 hd (by rw [hv]; exact kk H locs ls hl hw hS)
theorem VW.ishl {a b : Int} {x : Int} (hd : decode (mC M) pc = .ok (.ishl, 1)) (hv : Int32.ofInt a <<< (Int32.ofInt b &&& 31) = Int32.ofInt x) (kk : VW G l z M (pc + 1) lv (vI x :: rest) w k n Φ) : VW G l z M pc lv (vI b :: vI a :: rest) w k n Φ :=
  VW.step ⟨Nat.le_refl _, Nat.le_refl _⟩ kk fun r p e R s m args below meth c H locs ls C hR hl hw hS kk => lv_ishl C.1.1 C.1.2.1 hd (by rw [hv]; exact kk H locs ls hl hw hS)
theorem VW.fcmp {a b : UInt32} {op : CmpOp} {x : Int} (hd : decode (mC M) pc = .ok (.fcmp op, 1)) (hv : Op.cmpValue (FP.fcmp a b) op = Int32.ofInt x) (kk : VW G l z M (pc + 1) lv (vI x :: rest) w k n Φ) : VW G l z M pc lv (.float b :: .float a :: rest) w k n Φ :=
  VW.step ⟨Nat.le_refl _, Nat.le_refl _⟩ kk fun r p e R s m args below meth c H locs ls C hR hl hw hS kk => lv_fcmp C.1.1 C.1.2.1 hd (by rw [hv]; exact kk H locs ls hl hw hS)
theorem VW.dcmp {a b : UInt64} {op : CmpOp} {x : Int} (hd : decode (mC M) pc = .ok (.dcmp op, 1)) (hv : Op.cmpValue (FP.dcmp a b) op = Int32.ofInt x) (kk : VW G l z M (pc + 1) lv (vI x :: rest) w k n Φ) : VW G l z M pc lv (.double b :: .double a :: rest) w k n Φ :=
  VW.step ⟨Nat.le_refl _, Nat.le_refl _⟩ kk fun r p e R s m args below meth c H locs ls C hR hl hw hS kk => lv_dcmp C.1.1 C.1.2.1 hd (by rw [hv]; exact kk H locs ls hl hw hS)
theorem VW.f2i {a : UInt32} {x : Int} (hd : decode (mC M) pc = .ok (.f2i, 1)) (hv : FP.f2i a = Int32.ofInt x) (kk : VW G l z M (pc + 1) lv (vI x :: rest) w k n Φ) : VW G l z M pc lv (.float a :: rest) w k n Φ :=
  VW.step ⟨Nat.le_refl _, Nat.le_refl _⟩ kk fun r p e R s m args below meth c H locs ls C hR hl hw hS kk => lv_f2i C.1.1 C.1.2.1 hd (by rw [hv]; exact kk H locs ls hl hw hS)
theorem VW.d2l {a : UInt64} {x : Int} (hd : decode (mC M) pc = .ok (.d2l, 1)) (hv : FP.d2l a = Int64.ofInt x) (kk : VW G l z M (pc + 1) lv (vL x :: rest) w k n Φ) : VW G l z M pc lv (.double a :: rest) w k n Φ :=
  VW.step ⟨Nat.le_refl _, Nat.le_refl _⟩ kk fun r p e R s m args below meth c H locs ls C hR hl hw hS kk => lv_d2l C.1.1 C.1.2.1 hd (by rw [hv]; exact kk H locs ls hl hw hS)
theorem VW.i2f {a : Int} {x : UInt32} (hd : decode (mC M) pc = .ok (.i2f, 1)) (hv : FP.i2f (Int32.ofInt a) = x) (kk : VW G l z M (pc + 1) lv (.float x :: rest) w k n Φ) : VW G l z M pc lv (vI a :: rest) w k n Φ :=
  VW.step ⟨Nat.le_refl _, Nat.le_refl _⟩ kk fun r p e R s m args below meth c H locs ls C hR hl hw hS kk => lv_i2f C.1.1 C.1.2.1 hd (by rw [hv]; exact kk H locs ls hl hw hS)
theorem VW.i2d {a : Int} {x : UInt64} (hd : decode (mC M) pc = .ok (.i2d, 1)) (hv : FP.i2d (Int32.ofInt a) = x) (kk : VW G l z M (pc + 1) lv (.double x :: rest) w k n Φ) : VW G l z M pc lv (vI a :: rest) w k n Φ :=
  VW.step ⟨Nat.le_refl _, Nat.le_refl _⟩ kk fun r p e R s m args below meth c H locs ls C hR hl hw hS kk => lv_i2d C.1.1 C.1.2.1 hd (by rw [hv]; exact kk H locs ls hl hw hS)
theorem VW.fdiv {a b : UInt32} {x : UInt32} (hd : decode (mC M) pc = .ok (.fdiv, 1)) (hn : vf_n32 (FP.fdiv a b)) (hv : FP.fdiv a b = x) (kk : VW G l z M (pc + 1) lv (.float x :: rest) w k n Φ) : VW G l z M pc lv (.float b :: .float a :: rest) w k n Φ :=
  VW.step ⟨Nat.le_refl _, Nat.le_refl _⟩ kk fun r p e R s m args below meth c H locs ls C hR hl hw hS kk => lv_fdiv C.1.1 C.1.2.1 hd hn (by rw [hv]; exact kk H locs ls hl hw hS)
theorem VW.fmul {a b : UInt32} {x : UInt32} (hd : decode (mC M) pc = .ok (.fmul, 1)) (hn : vf_n32 (FP.fmul a b)) (hv : FP.fmul a b = x) (kk : VW G l z M (pc + 1) lv (.float x :: rest) w k n Φ) : VW G l z M pc lv (.float b :: .float a :: rest) w k n Φ :=
  VW.step ⟨Nat.le_refl _, Nat.le_refl _⟩ kk fun r p e R s m args below meth c H locs ls C hR hl hw hS kk => lv_fmul C.1.1 C.1.2.1 hd hn (by rw [hv]; exact kk H locs ls hl hw hS)
theorem VW.fsub {a b : UInt32} {x : UInt32} (hd : decode (mC M) pc = .ok (.fsub, 1)) (hn : vf_n32 (FP.fsub a b)) (hv : FP.fsub a b = x) (kk : VW G l z M (pc + 1) lv (.float x :: rest) w k n Φ) : VW G l z M pc lv (.float b :: .float a :: rest) w k n Φ :=
  VW.step ⟨Nat.le_refl _, Nat.le_refl _⟩ kk fun r p e R s m args below meth c H locs ls C hR hl hw hS kk => lv_fsub C.1.1 C.1.2.1 hd hn (by rw [hv]; exact kk H locs ls hl hw hS)
theorem VW.ddiv {a b : UInt64} {x : UInt64} (hd : decode (mC M) pc = .ok (.ddiv, 1)) (hn : vf_n64 (FP.ddiv a b)) (hv : FP.ddiv a b = x) (kk : VW G l z M (pc + 1) lv (.double x :: rest) w k n Φ) : VW G l z M pc lv (.double b :: .double a :: rest) w k n Φ :=
  VW.step ⟨Nat.le_refl _, Nat.le_refl _⟩ kk fun r p e R s m args below meth c H locs ls C hR hl hw hS kk => lv_ddiv C.1.1 C.1.2.1 hd hn (by rw [hv]; exact kk H locs ls hl hw hS)
theorem VW.dmul {a b : UInt64} {x : UInt64} (hd : decode (mC M) pc = .ok (.dmul, 1)) (hn : vf_n64 (FP.dmul a b)) (hv : FP.dmul a b = x) (kk : VW G l z M (pc + 1) lv (.double x :: rest) w k n Φ) : VW G l z M pc lv (.double b :: .double a :: rest) w k n Φ :=
  VW.step ⟨Nat.le_refl _, Nat.le_refl _⟩ kk fun r p e R s m args below meth c H locs ls C hR hl hw hS kk => lv_dmul C.1.1 C.1.2.1 hd hn (by rw [hv]; exact kk H locs ls hl hw hS)
theorem VW.dsub {a b : UInt64} {x : UInt64} (hd : decode (mC M) pc = .ok (.dsub, 1)) (hn : vf_n64 (FP.dsub a b)) (hv : FP.dsub a b = x) (kk : VW G l z M (pc + 1) lv (.double x :: rest) w k n Φ) : VW G l z M pc lv (.double b :: .double a :: rest) w k n Φ :=
  VW.step ⟨Nat.le_refl _, Nat.le_refl _⟩ kk fun r p e R s m args below meth c H locs ls C hR hl hw hS kk => lv_dsub C.1.1 C.1.2.1 hd hn (by rw [hv]; exact kk H locs ls hl hw hS)
theorem VW.lshl {a b x : Int} (hd : decode (mC M) pc = .ok (.lshl, 1)) (hv : Int64.ofInt a <<< ((Int32.ofInt b).toInt64 &&& 63) = Int64.ofInt x) (kk : VW G l z M (pc + 1) lv (vL x :: rest) w k n Φ) : VW G l z M pc lv (vI b :: vL a :: rest) w k n Φ :=
  VW.step ⟨Nat.le_refl _, Nat.le_refl _⟩ kk fun r p e R s m args below meth c H locs ls C hR hl hw hS kk => lv_lshl C.1.1 C.1.2.1 hd hv (kk H locs ls hl hw hS)
theorem VW.lsub {a b : Int} (hd : decode (mC M) pc = .ok (.lsub, 1)) (kk : VW G l z M (pc + 1) lv (vL (a - b) :: rest) w k n Φ) : VW G l z M pc lv (vL b :: vL a :: rest) w k n Φ :=
  VW.step ⟨Nat.le_refl _, Nat.le_refl _⟩ kk fun r p e R s m args below meth c H locs ls C hR hl hw hS kk => lv_lsub C.1.1 C.1.2.1 hd (by rw [← Int64.ofInt_sub]; exact kk H locs ls hl hw hS)
theorem VW.lcmp {a b x : Int} (hd : decode (mC M) pc = .ok (.lcmp, 1)) (hv : lg_cmp (Int64.ofInt a) (Int64.ofInt b) = Int32.ofInt x) (kk : VW G l z M (pc + 1) lv (vI x :: rest) w k n Φ) : VW G l z M pc lv (vL b :: vL a :: rest) w k n Φ :=
  VW.step ⟨Nat.le_refl _, Nat.le_refl _⟩ kk fun r p e R s m args below meth c H locs ls C hR hl hw hS kk => W.lcmp C.1.1 C.1.2.1 hd (by rw [hv]; exact kk H locs ls hl hw hS)
theorem VW.icmp_eq {a b : Int} {off : Int} (tgt : Nat) (ha : R32 a) (hb : R32 b) (hd : decode (mC M) pc = .ok (.if_icmp .eq off, 3)) (ht : (pc : Int) + off = (tgt : Int)) (kt : a = b → VW G l z M tgt lv rest w k n Φ) (kf : ¬ (a = b) → VW G l z M (pc + 3) lv rest w k n Φ) : VW G l z M pc lv (vI b :: vI a :: rest) w k n Φ := by
  by_cases hP : a = b
  · exact VW.step ⟨Nat.le_refl _, Nat.le_refl _⟩ (kt hP) fun r p e R s m args below meth c H locs ls C hR hl hw hS kk => lv_icmp_eq C.1.1 C.1.2.1 hd ht (fun _ => kk H locs ls hl hw hS) (fun q => absurd ((i32_eq ha hb).mpr hP) q)
  · exact VW.step ⟨Nat.le_refl _, Nat.le_refl _⟩ (kf hP) fun r p e R s m args below meth c H locs ls C hR hl hw hS kk => lv_icmp_eq C.1.1 C.1.2.1 hd ht (fun q => absurd ((i32_eq ha hb).mp q) hP) (fun _ => kk H locs ls hl hw hS)
theorem VW.if_eq {a : Int} {off : Int} (tgt : Nat) (ha : R32 a) (hd : decode (mC M) pc = .ok (.ifCond .eq off, 3)) (ht : (pc : Int) + off = (tgt : Int)) (kt : a = 0 → VW G l z M tgt lv rest w k n Φ) (kf : ¬ (a = 0) → VW G l z M (pc + 3) lv rest w k n Φ) : VW G l z M pc lv (vI a :: rest) w k n Φ := by
  have hb : R32 0 := R32_0
  by_cases hP : a = 0
  · exact VW.step ⟨Nat.le_refl _, Nat.le_refl _⟩ (kt hP) fun r p e R s m args below meth c H locs ls C hR hl hw hS kk => lv_if_eq C.1.1 C.1.2.1 hd ht (fun _ => kk H locs ls hl hw hS) (fun q => absurd ((i32_eq ha hb).mpr hP) q)
  · exact VW.step ⟨Nat.le_refl _, Nat.le_refl _⟩ (kf hP) fun r p e R s m args below meth c H locs ls C hR hl hw hS kk => lv_if_eq C.1.1 C.1.2.1 hd ht (fun q => absurd ((i32_eq ha hb).mp q) hP) (fun _ => kk H locs ls hl hw hS)
theorem VW.icmp_ne {a b : Int} {off : Int} (tgt : Nat) (ha : R32 a) (hb : R32 b) (hd : decode (mC M) pc = .ok (.if_icmp .ne off, 3)) (ht : (pc : Int) + off = (tgt : Int)) (kt : ¬ a = b → VW G l z M tgt lv rest w k n Φ) (kf : a = b → VW G l z M (pc + 3) lv rest w k n Φ) : VW G l z M pc lv (vI b :: vI a :: rest) w k n Φ := by
  by_cases hP : a = b
  · exact VW.step ⟨Nat.le_refl _, Nat.le_refl _⟩ (kf hP) fun r p e R s m args below meth c H locs ls C hR hl hw hS kk => lv_icmp_ne C.1.1 C.1.2.1 hd ht (fun q => absurd ((i32_eq ha hb).mpr hP) q) (fun _ => kk H locs ls hl hw hS)
  · exact VW.step ⟨Nat.le_refl _, Nat.le_refl _⟩ (kt hP) fun r p e R s m args below meth c H locs ls C hR hl hw hS kk => lv_icmp_ne C.1.1 C.1.2.1 hd ht (fun _ => kk H locs ls hl hw hS) (fun q => absurd ((i32_eq ha hb).mp q) hP)
theorem VW.if_ne {a : Int} {off : Int} (tgt : Nat) (ha : R32 a) (hd : decode (mC M) pc = .ok (.ifCond .ne off, 3)) (ht : (pc : Int) + off = (tgt : Int)) (kt : ¬ a = 0 → VW G l z M tgt lv rest w k n Φ) (kf : a = 0 → VW G l z M (pc + 3) lv rest w k n Φ) : VW G l z M pc lv (vI a :: rest) w k n Φ := by
  have hb : R32 0 := R32_0
  by_cases hP : a = 0
  · exact VW.step ⟨Nat.le_refl _, Nat.le_refl _⟩ (kf hP) fun r p e R s m args below meth c H locs ls C hR hl hw hS kk => lv_if_ne C.1.1 C.1.2.1 hd ht (fun q => absurd ((i32_eq ha hb).mpr hP) q) (fun _ => kk H locs ls hl hw hS)
  · exact VW.step ⟨Nat.le_refl _, Nat.le_refl _⟩ (kt hP) fun r p e R s m args below meth c H locs ls C hR hl hw hS kk => lv_if_ne C.1.1 C.1.2.1 hd ht (fun _ => kk H locs ls hl hw hS) (fun q => absurd ((i32_eq ha hb).mp q) hP)
theorem VW.icmp_lt {a b : Int} {off : Int} (tgt : Nat) (ha : R32 a) (hb : R32 b) (hd : decode (mC M) pc = .ok (.if_icmp .lt off, 3)) (ht : (pc : Int) + off = (tgt : Int)) (kt : a < b → VW G l z M tgt lv rest w k n Φ) (kf : ¬ (a < b) → VW G l z M (pc + 3) lv rest w k n Φ) : VW G l z M pc lv (vI b :: vI a :: rest) w k n Φ := by
  by_cases hP : a < b
  · exact VW.step ⟨Nat.le_refl _, Nat.le_refl _⟩ (kt hP) fun r p e R s m args below meth c H locs ls C hR hl hw hS kk => lv_icmp_lt C.1.1 C.1.2.1 hd ht (fun _ => kk H locs ls hl hw hS) (fun q => absurd ((i32_lt ha hb).mpr hP) q)
  · exact VW.step ⟨Nat.le_refl _, Nat.le_refl _⟩ (kf hP) fun r p e R s m args below meth c H locs ls C hR hl hw hS kk => lv_icmp_lt C.1.1 C.1.2.1 hd ht (fun q => absurd ((i32_lt ha hb).mp q) hP) (fun _ => kk H locs ls hl hw hS)
theorem VW.if_lt {a : Int} {off : Int} (tgt : Nat) (ha : R32 a) (hd : decode (mC M) pc = .ok (.ifCond .lt off, 3)) (ht : (pc : Int) + off = (tgt : Int)) (kt : a < 0 → VW G l z M tgt lv rest w k n Φ) (kf : ¬ (a < 0) → VW G l z M (pc + 3) lv rest w k n Φ) : VW G l z M pc lv (vI a :: rest) w k n Φ := by
  have hb : R32 0 := R32_0
  by_cases hP : a < 0
  · exact VW.step ⟨Nat.le_refl _, Nat.le_refl _⟩ (kt hP) fun r p e R s m args below meth c H locs ls C hR hl hw hS kk => lv_if_lt C.1.1 C.1.2.1 hd ht (fun _ => kk H locs ls hl hw hS) (fun q => absurd ((i32_lt ha hb).mpr hP) q)
  · exact VW.step ⟨Nat.le_refl _, Nat.le_refl _⟩ (kf hP) fun r p e R s m args below meth c H locs ls C hR hl hw hS kk => lv_if_lt C.1.1 C.1.2.1 hd ht (fun q => absurd ((i32_lt ha hb).mp q) hP) (fun _ => kk H locs ls hl hw hS)
theorem VW.icmp_ge {a b : Int} {off : Int} (tgt : Nat) (ha : R32 a) (hb : R32 b) (hd : decode (mC M) pc = .ok (.if_icmp .ge off, 3)) (ht : (pc : Int) + off = (tgt : Int)) (kt : b ≤ a → VW G l z M tgt lv rest w k n Φ) (kf : ¬ (b ≤ a) → VW G l z M (pc + 3) lv rest w k n Φ) : VW G l z M pc lv (vI b :: vI a :: rest) w k n Φ := by
  by_cases hP : b ≤ a
  · exact VW.step ⟨Nat.le_refl _, Nat.le_refl _⟩ (kt hP) fun r p e R s m args below meth c H locs ls C hR hl hw hS kk => lv_icmp_ge C.1.1 C.1.2.1 hd ht (fun _ => kk H locs ls hl hw hS) (fun q => absurd ((i32_le hb ha).mpr hP) q)
  · exact VW.step ⟨Nat.le_refl _, Nat.le_refl _⟩ (kf hP) fun r p e R s m args below meth c H locs ls C hR hl hw hS kk => lv_icmp_ge C.1.1 C.1.2.1 hd ht (fun q => absurd ((i32_le hb ha).mp q) hP) (fun _ => kk H locs ls hl hw hS)
theorem VW.if_ge {a : Int} {off : Int} (tgt : Nat) (ha : R32 a) (hd : decode (mC M) pc = .ok (.ifCond .ge off, 3)) (ht : (pc : Int) + off = (tgt : Int)) (kt : 0 ≤ a → VW G l z M tgt lv rest w k n Φ) (kf : ¬ (0 ≤ a) → VW G l z M (pc + 3) lv rest w k n Φ) : VW G l z M pc lv (vI a :: rest) w k n Φ := by
  have hb : R32 0 := R32_0
  by_cases hP : 0 ≤ a
  · exact VW.step ⟨Nat.le_refl _, Nat.le_refl _⟩ (kt hP) fun r p e R s m args below meth c H locs ls C hR hl hw hS kk => lv_if_ge C.1.1 C.1.2.1 hd ht (fun _ => kk H locs ls hl hw hS) (fun q => absurd ((i32_le hb ha).mpr hP) q)
  · exact VW.step ⟨Nat.le_refl _, Nat.le_refl _⟩ (kf hP) fun r p e R s m args below meth c H locs ls C hR hl hw hS kk => lv_if_ge C.1.1 C.1.2.1 hd ht (fun q => absurd ((i32_le hb ha).mp q) hP) (fun _ => kk H locs ls hl hw hS)
theorem VW.icmp_gt {a b : Int} {off : Int} (tgt : Nat) (ha : R32 a) (hb : R32 b) (hd : decode (mC M) pc = .ok (.if_icmp .gt off, 3)) (ht : (pc : Int) + off = (tgt : Int)) (kt : b < a → VW G l z M tgt lv rest w k n Φ) (kf : ¬ (b < a) → VW G l z M (pc + 3) lv rest w k n Φ) : VW G l z M pc lv (vI b :: vI a :: rest) w k n Φ := by
  by_cases hP : b < a
  · exact VW.step ⟨Nat.le_refl _, Nat.le_refl _⟩ (kt hP) fun r p e R s m args below meth c H locs ls C hR hl hw hS kk => lv_icmp_gt C.1.1 C.1.2.1 hd ht (fun _ => kk H locs ls hl hw hS) (fun q => absurd ((i32_lt hb ha).mpr hP) q)
  · exact VW.step ⟨Nat.le_refl _, Nat.le_refl _⟩ (kf hP) fun r p e R s m args below meth c H locs ls C hR hl hw hS kk => lv_icmp_gt C.1.1 C.1.2.1 hd ht (fun q => absurd ((i32_lt hb ha).mp q) hP) (fun _ => kk H locs ls hl hw hS)
theorem VW.if_gt {a : Int} {off : Int} (tgt : Nat) (ha : R32 a) (hd : decode (mC M) pc = .ok (.ifCond .gt off, 3)) (ht : (pc : Int) + off = (tgt : Int)) (kt : 0 < a → VW G l z M tgt lv rest w k n Φ) (kf : ¬ (0 < a) → VW G l z M (pc + 3) lv rest w k n Φ) : VW G l z M pc lv (vI a :: rest) w k n Φ := by
  have hb : R32 0 := R32_0
  by_cases hP : 0 < a
  · exact VW.step ⟨Nat.le_refl _, Nat.le_refl _⟩ (kt hP) fun r p e R s m args below meth c H locs ls C hR hl hw hS kk => lv_if_gt C.1.1 C.1.2.1 hd ht (fun _ => kk H locs ls hl hw hS) (fun q => absurd ((i32_lt hb ha).mpr hP) q)
  · exact VW.step ⟨Nat.le_refl _, Nat.le_refl _⟩ (kf hP) fun r p e R s m args below meth c H locs ls C hR hl hw hS kk => lv_if_gt C.1.1 C.1.2.1 hd ht (fun q => absurd ((i32_lt hb ha).mp q) hP) (fun _ => kk H locs ls hl hw hS)
theorem VW.icmp_le {a b : Int} {off : Int} (tgt : Nat) (ha : R32 a) (hb : R32 b) (hd : decode (mC M) pc = .ok (.if_icmp .le off, 3)) (ht : (pc : Int) + off = (tgt : Int)) (kt : a ≤ b → VW G l z M tgt lv rest w k n Φ) (kf : ¬ (a ≤ b) → VW G l z M (pc + 3) lv rest w k n Φ) : VW G l z M pc lv (vI b :: vI a :: rest) w k n Φ := by
  by_cases hP : a ≤ b
  · exact VW.step ⟨Nat.le_refl _, Nat.le_refl _⟩ (kt hP) fun r p e R s m args below meth c H locs ls C hR hl hw hS kk => lv_icmp_le C.1.1 C.1.2.1 hd ht (fun _ => kk H locs ls hl hw hS) (fun q => absurd ((i32_le ha hb).mpr hP) q)
  · exact VW.step ⟨Nat.le_refl _, Nat.le_refl _⟩ (kf hP) fun r p e R s m args below meth c H locs ls C hR hl hw hS kk => lv_icmp_le C.1.1 C.1.2.1 hd ht (fun q => absurd ((i32_le ha hb).mp q) hP) (fun _ => kk H locs ls hl hw hS)
theorem VW.if_le {a : Int} {off : Int} (tgt : Nat) (ha : R32 a) (hd : decode (mC M) pc = .ok (.ifCond .le off, 3)) (ht : (pc : Int) + off = (tgt : Int)) (kt : a ≤ 0 → VW G l z M tgt lv rest w k n Φ) (kf : ¬ (a ≤ 0) → VW G l z M (pc + 3) lv rest w k n Φ) : VW G l z M pc lv (vI a :: rest) w k n Φ := by
  have hb : R32 0 := R32_0
  by_cases hP : a ≤ 0
  · exact VW.step ⟨Nat.le_refl _, Nat.le_refl _⟩ (kt hP) fun r p e R s m args below meth c H locs ls C hR hl hw hS kk => lv_if_le C.1.1 C.1.2.1 hd ht (fun _ => kk H locs ls hl hw hS) (fun q => absurd ((i32_le ha hb).mpr hP) q)
  · exact VW.step ⟨Nat.le_refl _, Nat.le_refl _⟩ (kf hP) fun r p e R s m args below meth c H locs ls C hR hl hw hS kk => lv_if_le C.1.1 C.1.2.1 hd ht (fun q => absurd ((i32_le ha hb).mp q) hP) (fun _ => kk H locs ls hl hw hS)
theorem VW.goto {off : Int} (tgt : Nat) (hd : decode (mC M) pc = .ok (.goto off, 3)) (ht : (pc : Int) + off = (tgt : Int)) (kk : VW G l z M tgt lv rest w k n Φ) : VW G l z M pc lv rest w k n Φ :=
  VW.step ⟨Nat.le_refl _, Nat.le_refl _⟩ kk fun r p e R s m args below meth c H locs ls C hR hl hw hS kk => lv_goto C.1.1 C.1.2.1 hd ht (kk H locs ls hl hw hS)
theorem VW.ifnull {x : Nat} {off : Int} (hd : decode (mC M) pc = .ok (.ifnull off, 3)) (kk : VW G l z M (pc + 3) lv rest w k n Φ) : VW G l z M pc lv (.ref x :: rest) w k n Φ :=
  VW.step ⟨Nat.le_refl _, Nat.le_refl _⟩ kk fun r p e R s m args below meth c H locs ls C hR hl hw hS kk => lv_ifnull C.1.1 C.1.2.1 hd (kk H locs ls hl hw hS)
theorem VW.ifnonnull {x : Nat} {off : Int} (tgt : Nat) (hd : decode (mC M) pc = .ok (.ifnonnull off, 3)) (ht : (pc : Int) + off = (tgt : Int)) (kk : VW G l z M tgt lv rest w k n Φ) : VW G l z M pc lv (.ref x :: rest) w k n Φ :=
  VW.step ⟨Nat.le_refl _, Nat.le_refl _⟩ kk fun r p e R s m args below meth c H locs ls C hR hl hw hS kk => lv_ifnonnull C.1.1 C.1.2.1 hd ht (kk H locs ls hl hw hS)
theorem VW.ifnullN {off : Int} (tgt : Nat) (hd : decode (mC M) pc = .ok (.ifnull off, 3)) (ht : (pc : Int) + off = (tgt : Int)) (kk : VW G l z M tgt lv rest w k n Φ) : VW G l z M pc lv (.null :: rest) w k n Φ :=
  VW.step ⟨Nat.le_refl _, Nat.le_refl _⟩ kk fun r p e R s m args below meth c H locs ls C hR hl hw hS kk => lv_ifnullN C.1.1 C.1.2.1 hd ht (kk H locs ls hl hw hS)
theorem VW.ifnonnullN {off : Int} (hd : decode (mC M) pc = .ok (.ifnonnull off, 3)) (kk : VW G l z M (pc + 3) lv rest w k n Φ) : VW G l z M pc lv (.null :: rest) w k n Φ :=
  VW.step ⟨Nat.le_refl _, Nat.le_refl _⟩ kk fun r p e R s m args below meth c H locs ls C hR hl hw hS kk => lv_ifnonnullN C.1.1 C.1.2.1 hd (kk H locs ls hl hw hS)
theorem VW.tswOut {dflt lo hi : Int} {offs : Array Int} {len : Nat} {a : Int} (tgt : Nat) (ha : R32 a) (hd : decode (mC M) pc = .ok (.tableswitch dflt lo hi offs, len)) (h : a < lo ∨ hi < a) (ht : (pc : Int) + dflt = (tgt : Int)) (kk : VW G l z M tgt lv rest w k n Φ) : VW G l z M pc lv (vI a :: rest) w k n Φ :=
  VW.step ⟨Nat.le_refl _, Nat.le_refl _⟩ kk fun r p e R s m args below meth c H locs ls C hR hl hw hS kk => lv_tableOut C.1.1 C.1.2.1 hd (by rw [i32_t ha]; exact h) ht (kk H locs ls hl hw hS)
theorem VW.tswIn {dflt lo hi : Int} {offs : Array Int} {len : Nat} {a off : Int} (tgt : Nat) (ha : R32 a) (hd : decode (mC M) pc = .ok (.tableswitch dflt lo hi offs, len)) (h1 : lo ≤ a) (h2 : a ≤ hi) (ho : offs[(a - lo).toNat]? = some off) (ht : (pc : Int) + off = (tgt : Int)) (kk : VW G l z M tgt lv rest w k n Φ) : VW G l z M pc lv (vI a :: rest) w k n Φ :=
  VW.step ⟨Nat.le_refl _, Nat.le_refl _⟩ kk fun r p e R s m args below meth c H locs ls C hR hl hw hS kk => lv_tableIn C.1.1 C.1.2.1 hd (by rw [i32_t ha]; omega) (by rw [i32_t ha]; omega) (by rw [i32_t ha]; exact ho) ht (kk H locs ls hl hw hS)
end VR
