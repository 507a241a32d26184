/-! ===== what is carried beside the tables: texts, links to nest mates, casts ===== -/
def eStr : List (String × Nat × String) := [("LatticeGestures", 294, "what is not 0 to 8"), ("LatticeGestures", 100, "a direction is not 0 to 7, or many is not 1 to 31"), ("LatticeGestures", 129, "there would be more than 40 points"), ("LatticeGestures", 68, "a coordinate is not 0 to 31"), ("LatticeGestures", 82, "there are 40 points"), ("LatticeGestures", 158, "there are 10 commands, or the stroke has not 1 to 8 directions"), ("LatticeGestures", 164, "a command is too near"), ("LatticeGestures", 190, "there is no such command"), ("LatticeGestures", 199, "there is no such setting"), ("LatticeGestures", 207, "the value is out of range"), ("LatticeGestures", 221, "two commands would be too near"), ("LatticeGestures", 243, "run is below 0, or what is not 0 to 3"), ("LatticeGestures", 255, "place is below 0"), ("LatticeGestures", 282, "what is not 0 to 4")]
def eNF : List (String × Nat × String × String × String × String) := [("LatticeGestures$State", 34, "LatticeGestures", "FIRST_VALUE", "[I", "LatticeGestures"), ("LatticeGestures", 73, "LatticeGestures$State", "path", "LLatticeGestures$Path;", "LatticeGestures"), ("LatticeGestures$View", 62, "LatticeGestures$State", "commands", "LLatticeGestures$Commands;", "LatticeGestures"), ("LatticeGestures", 151, "LatticeGestures$State", "commands", "LLatticeGestures$Commands;", "LatticeGestures"), ("LatticeGestures$View", 50, "LatticeGestures$State", "settings", "LLatticeGestures$Row;", "LatticeGestures"), ("LatticeGestures", 209, "LatticeGestures$State", "settings", "LLatticeGestures$Row;", "LatticeGestures"), ("LatticeGestures", 245, "LatticeGestures$View", "directions", "LLatticeGestures$Row;", "LatticeGestures"), ("LatticeGestures", 248, "LatticeGestures$View", "lengths", "LLatticeGestures$Row;", "LatticeGestures"), ("LatticeGestures", 147, "LatticeGestures$View", "kept", "LLatticeGestures$Row;", "LatticeGestures"), ("LatticeGestures", 260, "LatticeGestures$View", "distances", "LLatticeGestures$Row;", "LatticeGestures"), ("LatticeGestures", 287, "LatticeGestures$View", "dropped", "I", "LatticeGestures"), ("LatticeGestures$Path", 50, "LatticeGestures", "STEP_X", "[I", "LatticeGestures"), ("LatticeGestures$Path", 58, "LatticeGestures", "STEP_Y", "[I", "LatticeGestures")]
def eNM : List (String × Nat × MethodName × String) := [("LatticeGestures$State", 38, ⟨"LatticeGestures", "of", "([II)I"⟩, "LatticeGestures"), ("LatticeGestures$Meter", 42, ⟨"LatticeGestures", "eighthsBetween", "(II)I"⟩, "LatticeGestures"), ("LatticeGestures$Path", 54, ⟨"LatticeGestures", "of", "([II)I"⟩, "LatticeGestures"), ("LatticeGestures$View", 116, ⟨"LatticeGestures", "isCutCorner", "(LLatticeGestures$Row;LLatticeGestures$Row;II)Z"⟩, "LatticeGestures")]
def eNC : List (String × String) := [("java/lang/IllegalArgumentException", "java/lang/IllegalArgumentException"), ("java/lang/IllegalStateException", "java/lang/IllegalStateException"), ("java/lang/IndexOutOfBoundsException", "java/lang/IndexOutOfBoundsException")]
def eND : List MethodName := [⟨"java/lang/RuntimeException", "<init>", "(Ljava/lang/String;)V"⟩, ⟨"java/lang/Exception", "<init>", "(Ljava/lang/String;)V"⟩, ⟨"java/lang/Throwable", "<init>", "(Ljava/lang/String;)V"⟩]
def eNN : List (String × String) := []
/-! ===== the numbers, the run's fixed things, the world by ids ===== -/
def vI (z : Int) : Value := .int (Int32.ofInt z)
def vL (z : Int) : Value := .long (Int64.ofInt z)
abbrev R32 (z : Int) : Prop := -2147483648 ≤ z ∧ z < 2147483648
abbrev R64 (z : Int) : Prop := -9223372036854775808 ≤ z ∧ z < 9223372036854775808
theorem i32_t {z : Int} (h : R32 z) : (Int32.ofInt z).toInt = z := Int32.toInt_ofInt_of_le (by have := h.1; omega) (by have := h.2; omega)
theorem i64_t {z : Int} (h : R64 z) : (Int64.ofInt z).toInt = z := Int64.toInt_ofInt_of_le (by have := h.1; omega) (by have := h.2; omega)
theorem i32_eq {a b : Int} (ha : R32 a) (hb : R32 b) : Int32.ofInt a = Int32.ofInt b ↔ a = b := by
  rw [← Int32.toInt_inj, i32_t ha, i32_t hb]
theorem i32_lt {a b : Int} (ha : R32 a) (hb : R32 b) : Int32.ofInt a < Int32.ofInt b ↔ a < b := by
  rw [Int32.lt_iff_toInt_lt, i32_t ha, i32_t hb]
theorem i32_le {a b : Int} (ha : R32 a) (hb : R32 b) : Int32.ofInt a ≤ Int32.ofInt b ↔ a ≤ b := by
  rw [Int32.le_iff_toInt_le, i32_t ha, i32_t hb]
theorem i32_0 : (0 : Int32) = Int32.ofInt 0 := rfl
theorem R32_0 : R32 0 := ⟨by decide, by decide⟩
theorem i32_clamp {z : Int} {j : Nat} (h : z = (j : Int)) (hj : j < 2147483648) : (Int32.ofInt z).toNatClampNeg = j := by
  subst h
  rw [Int32.ofInt_eq_ofNat]
  exact Int32.toNatClampNeg_ofNat_of_lt (by omega)
theorem i32_in {z : Int} {n : Nat} (h : R32 z) (h0 : 0 ≤ z) (hn : z < n) : vp_in (Int32.ofInt z) n := by
  obtain ⟨j, rfl⟩ : ∃ j : Nat, z = j := ⟨z.toNat, by omega⟩
  have hj : j < 2147483648 := by have := h.2; omega
  rintro (q | q)
  · rw [i32_0, i32_lt h R32_0] at q
    omega
  · rw [i32_clamp rfl hj] at q
    omega
-- the run's fixed things: base, the static tables' places, the classes' numbers, the array classes
abbrev GT : Type := Nat × (Nat → Nat) × va_G × ClassId × ClassId × ClassId × ClassId × (Nat × Nat × (Nat → Int))
def gB (G : GT) : Nat := G.1
def gT (G : GT) : Nat → Nat := G.2.1
def gD (G : GT) : va_G := G.2.2.1
def gI (G : GT) : ClassId := G.2.2.2.1
def gL (G : GT) : ClassId := G.2.2.2.2.1
def gR (G : GT) : ClassId := G.2.2.2.2.2.1
def gS (G : GT) : ClassId := G.2.2.2.2.2.2.1
-- the script: its cell, its length, its numbers
def gXb (G : GT) : Nat := G.2.2.2.2.2.2.2.1
def gXn (G : GT) : Nat := G.2.2.2.2.2.2.2.2.1
def gXv (G : GT) : Nat → Int := G.2.2.2.2.2.2.2.2.2
def gA (G : GT) : Nat → Prop := fun q => gB G ≤ q
def gTys (G : GT) : List (ClassId × FieldType) := [(gI G, .int), (gR G, .object "LatticeGestures$Row"), (gS G, .object "LatticeGestures$State")]
-- the static tables
def tbN : Nat → String := fun k => match k with
  | 0 => "FIRST_VALUE"
  | 1 => "LEAST_VALUE"
  | 2 => "GREATEST_VALUE"
  | 3 => "STEP_X"
  | _ => "STEP_Y"
def tbV : Nat → List Int := fun k => match k with
  | 0 => [2, 2, 2, 3, 2]
  | 1 => [1, 0, 1, 1, 0]
  | 2 => [9, 9, 9, 9, 20]
  | 3 => [1, 1, 0, -1, -1, -1, 0, 1]
  | _ => [0, 1, 1, 1, 0, -1, -1, -1]
def tbF (k : Nat) : Nat → Value := fun j => vI ((tbV k).getD j 0)
def eEnv (G : GT) (s : State) : Prop :=
  gB G ≤ s.heap.size ∧ va_K (gD G) vwCl (gTys G) s ∧
  (∀ k, k < 5 → va_Z "LatticeGestures" (tbN k) "[I" (.ref (gT G k)) (gA G) s s.heap ∧ va_T .int (gT G k) (tbV k).length (tbF k) (gA G) s s.heap) ∧
  vx_Zq Bundle.tN "UNASSIGNED_STACK" Bundle.steD (gA G) s s.heap ∧ vx_Zq Bundle.tN "SUPPRESSED_SENTINEL" Bundle.listD (gA G) s s.heap ∧
  (∀ q ∈ eStr, ∃ a : Nat, vk_R q.1 q.2.1 q.2.2 a s) ∧
  (∀ q ∈ eNF, va_Nw (.fieldLinkNest q.1 q.2.1 q.2.2.1 q.2.2.2.1 q.2.2.2.2.1 q.2.2.2.2.2) s) ∧ (∀ q ∈ eNM, va_Nw (.methodLinkNest q.1 q.2.1 q.2.2.1 q.2.2.2) s) ∧
  ((∀ q ∈ eNC, va_Nw (.castable q.1 q.2) s) ∧ ∀ y ∈ eND, va_Nw (.declares y) s) ∧ (∀ q ∈ eNN, va_Nc q.1 q.2 s) ∧ va_AO "LatticeGestures$Row" s ∧ va_AO "LatticeGestures$State" s ∧ va_X (gXb G) (gXn G) (fun j => Int32.ofInt (gXv G j)) s s.heap ∧ gXb G < gB G
theorem eEnv.move {G : GT} {s U : State} {H : Heap} {locs : List Loc} (h : eEnv G s) (hS : va_S (gA G) s.heap H locs) (hW : s.WarmedH U.vm) (hU : U.heap = H) : eEnv G U := by
  obtain ⟨h1, h2, h3, h4, h5, h6, h7, h8, h9, h10, h11, h12, h13, h14⟩ := h
  have hk : ∀ a : Nat, a < s.heap.size → ¬ gA G a → U.heap[a]? = s.heap[a]? := by rw [hU]; exact hS.2.1
  refine ⟨Nat.le_trans h1 (by rw [hU]; exact hS.1), va_K.moved hW.alike h2, fun k hk5 => ⟨((h3 k hk5).1.kept hk).moved hW.alike, ((h3 k hk5).2.kept hk).moved hW.alike⟩, (h4.kept hk).moved hW.alike, (h5.kept hk).moved hW.alike, fun q hq => ?_, fun q hq => va_Nw.warmF hW (h7 q hq), fun q hq => va_Nw.warmM hW (h8 q hq), ⟨fun q hq => va_Nw.warmC hW (h9.1 q hq), fun y hy => va_Nw.warmD hW (h9.2 y hy)⟩, fun q hq => ?_, ?_, ?_, ?_, h14⟩
  · obtain ⟨a, ha⟩ := h6 q hq
    exact ⟨a, ha.warm hW⟩
  · obtain ⟨c, t, e1, e2, e3⟩ := h10 q hq
    exact ⟨c, t, by rw [hW.alike.findClass]; exact e1, by rw [hW.alike.findClass]; exact e2, by rw [hW.alike.assignable]; exact e3⟩
  · exact va_AO.moved hW.alike h11
  · exact va_AO.moved hW.alike h12
  · exact (h13.kept (hk _ (by omega) (by show ¬ gB G ≤ gXb G; omega))).moved hW.alike
theorem eEnv.same {G : GT} {s U : State} (h : eEnv G s) (hv : U.vm = s.vm) (hh : U.heap = s.heap) : eEnv G U := by
  obtain ⟨h1, h2, h3, h4, h5, h6, h7, h8, h9, h10, h11, h12, h13, h14⟩ := h
  have hal : s.vm.Alike U.vm := by rw [hv]; exact Vm.Alike.refl _
  refine ⟨by rw [hh]; exact h1, va_K.moved hal h2, fun k hk5 => ⟨by rw [hh]; exact (h3 k hk5).1.moved hal, by rw [hh]; exact (h3 k hk5).2.moved hal⟩, by rw [hh]; exact h4.moved hal, by rw [hh]; exact h5.moved hal, fun q hq => ?_, fun q hq => va_Nw.same rfl hv.symm (h7 q hq), fun q hq => va_Nw.same rfl hv.symm (h8 q hq), ⟨fun q hq => va_Nw.same rfl hv.symm (h9.1 q hq), fun y hy => va_Nw.same rfl hv.symm (h9.2 y hy)⟩, fun q hq => ?_, ?_, ?_, ?_, h14⟩
  · obtain ⟨a, ha⟩ := h6 q hq
    exact ⟨a, vk_R.same hv ha⟩
  · obtain ⟨c, t, e1, e2, e3⟩ := h10 q hq
    exact ⟨c, t, by rw [hal.findClass]; exact e1, by rw [hal.findClass]; exact e2, by rw [hal.assignable]; exact e3⟩
  · exact va_AO.moved hal h11
  · exact va_AO.moved hal h12
  · rw [hh]; exact h13.moved hal
/-! ===== the world by ids: shapes and numbers ===== -/
abbrev FK : Type := Option (Option (Option Nat))
abbrev ShT : Type := Nat ⊕ Nat ⊕ (Bool × List (Option Nat)) ⊕ (Nat × List FK)
abbrev Mem : Type := Nat → Nat → Int
abbrev WT : Type := Nat × (Nat → ShT) × Mem
def sI (n : Nat) : ShT := .inl n
def sL (n : Nat) : ShT := .inr (.inl n)
def sQ (b : Bool) (ids : List (Option Nat)) : ShT := .inr (.inr (.inl (b, ids)))
def sO (ci : Nat) (fks : List FK) : ShT := .inr (.inr (.inr (ci, fks)))
def fI : FK := none
def fL : FK := some none
def fN : FK := some (some none)
def fR (id : Nat) : FK := some (some (some id))
def fval (B : Nat) (m : Nat → Int) (k : Nat) (x : FK) : Value := match x with
  | none => vI (m k)
  | some none => vL (m k)
  | some (some none) => .null
  | some (some (some id)) => .ref (B + id)
def flds (B : Nat) (m : Nat → Int) : Nat → List FK → List Value
  | _, [] => []
  | k, x :: t => fval B m k x :: flds B m (k + 1) t
def qel (B : Nat) (ids : List (Option Nat)) (j : Nat) : Option Nat := match ids[j]? with
  | some (some id) => some (B + id)
  | _ => none
def cel (G : GT) (sh : ShT) (m : Nat → Int) : va_E := match sh with
  | .inl n => .inl (gI G, n, .inl (fun j => Int32.ofInt (m j)))
  | .inr (.inl n) => .inl (gL G, n, .inr (.inl (fun j => Int64.ofInt (m j))))
  | .inr (.inr (.inl q)) => .inl (if q.1 then gR G else gS G, q.2.length, .inr (.inr (.inr (.inr (qel (gB G) q.2)))))
  | .inr (.inr (.inr q)) => .inr (q.1, flds (gB G) m 0 q.2)
def fup {α : Type} (f : Nat → α) (k : Nat) (x : α) : Nat → α := fun j => if j = k then x else f j
def mup (μ : Mem) (a k : Nat) (z : Int) : Mem := fup μ a (fup (μ a) k z)
theorem fup_s {α : Type} (f : Nat → α) (k : Nat) (x : α) : fup f k x k = x := by simp [fup]
theorem fup_n {α : Type} {f : Nat → α} {k j : Nat} {x : α} (h : j ≠ k) : fup f k x j = f j := by simp [fup, h]
def wsO (G : GT) (w : WT) : va_W := (List.range w.1).map (fun k => (gB G + k, cel G (w.2.1 k) (w.2.2 k)))
def wld (G : GT) (w : WT) (H : Heap) : Prop := va_P (gD G) vwCl (wsO G w) H
theorem flds_get (B : Nat) (m : Nat → Int) : ∀ (fks : List FK) (s j : Nat), (flds B m s fks)[j]? = fks[j]?.map (fval B m (s + j))
  | [], s, j => by simp [flds]
  | x :: t, s, 0 => by simp [flds]
  | x :: t, s, j + 1 => by
    simp only [flds, List.getElem?_cons_succ]
    rw [flds_get B m t (s + 1) j, show s + 1 + j = s + (j + 1) by omega]
theorem flds_len (B : Nat) (m : Nat → Int) : ∀ (fks : List FK) (s : Nat), (flds B m s fks).length = fks.length
  | [], s => rfl
  | x :: t, s => by simp [flds, flds_len B m t (s + 1)]
theorem fval_up {B : Nat} {m : Nat → Int} {k j : Nat} {z : Int} {x : FK} (h : j ≠ k) : fval B (fup m k z) j x = fval B m j x := by
  cases x with
  | none => simp [fval, fup_n h]
  | some y =>
    cases y with
    | none => simp [fval, fup_n h]
    | some v => cases v <;> rfl
/-- a number's field is written: the cell's fields -/
theorem flds_up {B : Nat} {m : Nat → Int} {k : Nat} {z : Int} {fks : List FK} {x : FK} (hk : fks[k]? = some x) : flds B (fup m k z) 0 fks = (flds B m 0 fks).set k (fval B (fup m k z) k x) := by
  apply List.ext_getElem?
  intro j
  rw [flds_get, List.getElem?_set]
  simp only [flds_len, flds_get, Nat.zero_add]
  by_cases hj : k = j
  · subst hj
    obtain ⟨hl, hx⟩ := List.getElem?_eq_some_iff.mp hk
    simp [hl, hx]
  · simp only [hj, if_false]
    congr 1
    funext y
    exact fval_up (fun e => hj e.symm)
theorem flds_set {B : Nat} {m : Nat → Int} {k : Nat} {fks : List FK} (x : FK) : flds B m 0 (fks.set k x) = (flds B m 0 fks).set k (fval B m k x) := by
  apply List.ext_getElem?
  intro j
  rw [flds_get, List.getElem?_set, List.getElem?_set]
  simp only [flds_len, flds_get, Nat.zero_add]
  by_cases hj : k = j
  · subst hj
    by_cases hl : k < fks.length <;> simp [hl]
  · simp [hj]
theorem wsO_get {G : GT} {w : WT} {k : Nat} (h : k < w.1) : (wsO G w)[k]? = some (gB G + k, cel G (w.2.1 k) (w.2.2 k)) := by
  simp [wsO, h]
theorem wsO_inv {G : GT} {w : WT} {k : Nat} {q : Nat × va_E} (h : (wsO G w)[k]? = some q) : k < w.1 ∧ q = (gB G + k, cel G (w.2.1 k) (w.2.2 k)) := by
  have hk : k < w.1 := by
    have := (List.getElem?_eq_some_iff.mp h).1
    simpa [wsO] using this
  rw [wsO_get hk] at h
  exact ⟨hk, (Option.some.inj h).symm⟩
theorem wsO_D (G : GT) (w : WT) : va_D (gA G) (wsO G w) := by
  refine ⟨fun i j p q hi hj hpq => ?_, fun k q hk => ?_⟩
  · obtain ⟨-, rfl⟩ := wsO_inv hi
    obtain ⟨-, rfl⟩ := wsO_inv hj
    have : gB G + i = gB G + j := hpq
    omega
  · obtain ⟨-, rfl⟩ := wsO_inv hk
    exact Nat.le_add_right _ _
theorem wsO_set {G : GT} {n : Nat} {sh sh' : Nat → ShT} {μ μ' : Mem} {a : Nat} {e : va_E} (he : cel G (sh' a) (μ' a) = e) (hn : ∀ k, k ≠ a → sh' k = sh k ∧ μ' k = μ k) : (wsO G (n, sh, μ)).set a (gB G + a, e) = wsO G (n, sh', μ') := by
  apply List.ext_getElem?
  intro j
  rw [List.getElem?_set]
  by_cases hj : a = j
  · subst hj
    by_cases hl : a < n <;> simp [wsO, hl, he]
  · have h2 := hn j (fun q => hj q.symm)
    by_cases hl : j < n <;> simp [wsO, hj, hl, h2.1, h2.2]
theorem wsO_push {G : GT} {n : Nat} {sh : Nat → ShT} {μ : Mem} {s : ShT} {m : Nat → Int} : wsO G (n, sh, μ) ++ [(gB G + n, cel G s m)] = wsO G (n + 1, fup sh n s, fup μ n m) := by
  apply List.ext_getElem?
  intro j
  by_cases hj : j < n
  · rw [List.getElem?_append_left (by simp [wsO, hj])]
    have : j ≠ n := by omega
    simp [wsO, hj, fup_n this, Nat.lt_succ_of_lt hj]
  · rw [List.getElem?_append_right (by simp [wsO]; omega)]
    by_cases he : j = n
    · subst he
      simp [wsO, fup_s]
    · have h1 : ¬ j < n + 1 := by omega
      have h2 : j - n ≠ 0 := by omega
      simp [wsO, h1]
      omega
