/-! ===== ends, fields, arrays, new cells ===== -/
theorem lay_D (G : GT) (w : WT) : va_D (gA G) (wsO G w) := wsO_D G w
theorem inC : ∀ (ci : Nat) (q : vw_C), vwCl[ci]? = some q → (∀ w ∈ u_ws q.1 q.2.1 q.2.2, w ∈ lw_G) ∧ (∃ ty : Nat → FieldType, ∀ k, k < q.2.2 → parseFieldDescriptor (q.2.1 k).2.2.1 = some (ty k)) ∧ (∀ a, a < q.2.2 → ∀ b, b < q.2.2 → a ≠ b → (q.2.1 a).2.1 ≠ (q.2.1 b).2.1) := by
  intro ci q h
  match ci, h with
  | 0, h =>
    cases h
    refine ⟨fun w hw => ?_, ⟨tyX0, tyX0_ok⟩, nmX0⟩
    obtain ⟨i, hi⟩ := List.getElem?_of_mem hw
    have hl := (List.getElem?_eq_some_iff.mp hi).1
    replace hl : i < 3 := hl
    match i, hi, hl with
    | 0, hi, _ => exact inG (List.mem_of_getElem? (i := 82) (Eq.trans (by decide +kernel) hi)) (by cases hi; rfl)
    | 1, hi, _ => exact inG (List.mem_of_getElem? (i := 84) (Eq.trans (by decide +kernel) hi)) (by cases hi; rfl)
    | 2, hi, _ => exact inG (List.mem_of_getElem? (i := 86) (Eq.trans (by decide +kernel) hi)) (by cases hi; rfl)
    | j + 3, _, hl => omega
  | 1, h =>
    cases h
    refine ⟨fun w hw => ?_, ⟨tyX1, tyX1_ok⟩, nmX1⟩
    obtain ⟨i, hi⟩ := List.getElem?_of_mem hw
    have hl := (List.getElem?_eq_some_iff.mp hi).1
    replace hl : i < 3 := hl
    match i, hi, hl with
    | 0, hi, _ => exact inG (List.mem_of_getElem? (i := 127) (Eq.trans (by decide +kernel) hi)) (by cases hi; rfl)
    | 1, hi, _ => exact inG (List.mem_of_getElem? (i := 129) (Eq.trans (by decide +kernel) hi)) (by cases hi; rfl)
    | 2, hi, _ => exact inG (List.mem_of_getElem? (i := 131) (Eq.trans (by decide +kernel) hi)) (by cases hi; rfl)
    | j + 3, _, hl => omega
  | 2, h =>
    cases h
    refine ⟨fun w hw => ?_, ⟨tyX2, tyX2_ok⟩, nmX2⟩
    obtain ⟨i, hi⟩ := List.getElem?_of_mem hw
    have hl := (List.getElem?_eq_some_iff.mp hi).1
    replace hl : i < 1 := hl
    match i, hi, hl with
    | 0, hi, _ => exact inG (List.mem_of_getElem? (i := 151) (Eq.trans (by decide +kernel) hi)) (by cases hi; rfl)
    | j + 1, _, hl => omega
  | 3, h =>
    cases h
    refine ⟨fun w hw => ?_, ⟨tyX3, tyX3_ok⟩, nmX3⟩
    obtain ⟨i, hi⟩ := List.getElem?_of_mem hw
    have hl := (List.getElem?_eq_some_iff.mp hi).1
    replace hl : i < 2 := hl
    match i, hi, hl with
    | 0, hi, _ => exact inG (List.mem_of_getElem? (i := 65) (Eq.trans (by decide +kernel) hi)) (by cases hi; rfl)
    | 1, hi, _ => exact inG (List.mem_of_getElem? (i := 67) (Eq.trans (by decide +kernel) hi)) (by cases hi; rfl)
    | j + 2, _, hl => omega
  | 4, h =>
    cases h
    refine ⟨fun w hw => ?_, ⟨tyX4, tyX4_ok⟩, nmX4⟩
    obtain ⟨i, hi⟩ := List.getElem?_of_mem hw
    have hl := (List.getElem?_eq_some_iff.mp hi).1
    replace hl : i < 2 := hl
    match i, hi, hl with
    | 0, hi, _ => exact inG (List.mem_of_getElem? (i := 57) (Eq.trans (by decide +kernel) hi)) (by cases hi; rfl)
    | 1, hi, _ => exact inG (List.mem_of_getElem? (i := 59) (Eq.trans (by decide +kernel) hi)) (by cases hi; rfl)
    | j + 2, _, hl => omega
  | 5, h =>
    cases h
    refine ⟨fun w hw => ?_, ⟨tyX5, tyX5_ok⟩, nmX5⟩
    obtain ⟨i, hi⟩ := List.getElem?_of_mem hw
    have hl := (List.getElem?_eq_some_iff.mp hi).1
    replace hl : i < 3 := hl
    match i, hi, hl with
    | 0, hi, _ => exact inG (List.mem_of_getElem? (i := 108) (Eq.trans (by decide +kernel) hi)) (by cases hi; rfl)
    | 1, hi, _ => exact inG (List.mem_of_getElem? (i := 110) (Eq.trans (by decide +kernel) hi)) (by cases hi; rfl)
    | 2, hi, _ => exact inG (List.mem_of_getElem? (i := 112) (Eq.trans (by decide +kernel) hi)) (by cases hi; rfl)
    | j + 3, _, hl => omega
  | 6, h =>
    cases h
    refine ⟨fun w hw => ?_, ⟨tyX6, tyX6_ok⟩, nmX6⟩
    obtain ⟨i, hi⟩ := List.getElem?_of_mem hw
    have hl := (List.getElem?_eq_some_iff.mp hi).1
    replace hl : i < 8 := hl
    match i, hi, hl with
    | 0, hi, _ => exact inG (List.mem_of_getElem? (i := 169) (Eq.trans (by decide +kernel) hi)) (by cases hi; rfl)
    | 1, hi, _ => exact inG (List.mem_of_getElem? (i := 171) (Eq.trans (by decide +kernel) hi)) (by cases hi; rfl)
    | 2, hi, _ => exact inG (List.mem_of_getElem? (i := 173) (Eq.trans (by decide +kernel) hi)) (by cases hi; rfl)
    | 3, hi, _ => exact inG (List.mem_of_getElem? (i := 175) (Eq.trans (by decide +kernel) hi)) (by cases hi; rfl)
    | 4, hi, _ => exact inG (List.mem_of_getElem? (i := 177) (Eq.trans (by decide +kernel) hi)) (by cases hi; rfl)
    | 5, hi, _ => exact inG (List.mem_of_getElem? (i := 179) (Eq.trans (by decide +kernel) hi)) (by cases hi; rfl)
    | 6, hi, _ => exact inG (List.mem_of_getElem? (i := 181) (Eq.trans (by decide +kernel) hi)) (by cases hi; rfl)
    | 7, hi, _ => exact inG (List.mem_of_getElem? (i := 183) (Eq.trans (by decide +kernel) hi)) (by cases hi; rfl)
    | j + 8, _, hl => omega
  | 7, h =>
    cases h
    refine ⟨fun w hw => ?_, ⟨tyX7, tyX7_ok⟩, nmX7⟩
    obtain ⟨i, hi⟩ := List.getElem?_of_mem hw
    have hl := (List.getElem?_eq_some_iff.mp hi).1
    replace hl : i < 9 := hl
    match i, hi, hl with
    | 0, hi, _ => exact inG (List.mem_of_getElem? (i := 199) (Eq.trans (by decide +kernel) hi)) (by cases hi; rfl)
    | 1, hi, _ => exact inG (List.mem_of_getElem? (i := 201) (Eq.trans (by decide +kernel) hi)) (by cases hi; rfl)
    | 2, hi, _ => exact inG (List.mem_of_getElem? (i := 203) (Eq.trans (by decide +kernel) hi)) (by cases hi; rfl)
    | 3, hi, _ => exact inG (List.mem_of_getElem? (i := 205) (Eq.trans (by decide +kernel) hi)) (by cases hi; rfl)
    | 4, hi, _ => exact inG (List.mem_of_getElem? (i := 207) (Eq.trans (by decide +kernel) hi)) (by cases hi; rfl)
    | 5, hi, _ => exact inG (List.mem_of_getElem? (i := 209) (Eq.trans (by decide +kernel) hi)) (by cases hi; rfl)
    | 6, hi, _ => exact inG (List.mem_of_getElem? (i := 211) (Eq.trans (by decide +kernel) hi)) (by cases hi; rfl)
    | 7, hi, _ => exact inG (List.mem_of_getElem? (i := 213) (Eq.trans (by decide +kernel) hi)) (by cases hi; rfl)
    | 8, hi, _ => exact inG (List.mem_of_getElem? (i := 215) (Eq.trans (by decide +kernel) hi)) (by cases hi; rfl)
    | j + 9, _, hl => omega
  | c + 8, h => simp [vwCl] at h
/-- a field's link: own class, constant, class, place -/
def FA (own : String) (idx ci j : Nat) : Prop := ∃ q : vw_C, vwCl[ci]? = some q ∧ j < q.2.2 ∧ (Cond.fieldLink own idx (q.2.1 j).1 (q.2.1 j).2.1 (q.2.1 j).2.2.1 ∈ lw_G ∨ ∃ host : String, (own, idx, (q.2.1 j).1, (q.2.1 j).2.1, (q.2.1 j).2.2.1, host) ∈ eNF)
/-- one that may be written, of that type -/
def FP (own : String) (idx ci j : Nat) (ty : FieldType) : Prop := ∃ q : vw_C, vwCl[ci]? = some q ∧ j < q.2.2 ∧ Cond.fieldLink own idx (q.2.1 j).1 (q.2.1 j).2.1 (q.2.1 j).2.2.1 ∈ lw_G ∧ (q.2.1 j).2.2.2 = false ∧ parseFieldDescriptor (q.2.1 j).2.2.1 = some ty
def FF (own : String) (idx ci j : Nat) (ty : FieldType) : Prop := ∃ q : vw_C, vwCl[ci]? = some q ∧ j < q.2.2 ∧ Cond.fieldLink own idx (q.2.1 j).1 (q.2.1 j).2.1 (q.2.1 j).2.2.1 ∈ lw_G ∧ (q.2.1 j).2.2.2 = true ∧ (q.2.1 j).1 = own ∧ parseFieldDescriptor (q.2.1 j).2.2.1 = some ty
theorem cel_o {G : GT} {ci : Nat} {fks : List FK} {m : Nat → Int} : cel G (sO ci fks) m = .inr (ci, flds (gB G) m 0 fks) := rfl
section VH
variable {G : GT} {l : Launch} {z : Option Nat} {M : MD} {pc : Nat} {lv : List (Nat × Value)} {rest : List Value} {w : WT} {k n : Nat} {Φ : RT → Prop} {N : Nat} {sh : Nat → ShT} {μ : Mem}
theorem VW.get {idx ci j a : Nat} {fks : List FK} {x : FK} (hd : decode (mC M) pc = .ok (.getfield idx, 3)) (fa : FA (mY M).cls idx ci j) (ha : a < N) (hs : sh a = sO ci fks) (hj : fks[j]? = some x)
    (kk : VW G l z M (pc + 3) lv (fval (gB G) (μ a) j x :: rest) (N, sh, μ) k n Φ) : VW G l z M pc lv (.ref (gB G + a) :: rest) (N, sh, μ) k n Φ :=
  VW.step ⟨Nat.le_refl _, Nat.le_refl _⟩ kk fun r p e R s m args below meth c H locs ls C hR hl hw hS kk => by
    obtain ⟨q, hc, hjn, hlk⟩ := fa
    have he : (wsO G (N, sh, μ))[a]? = some (gB G + a, .inr (ci, flds (gB G) (μ a) 0 fks)) := by rw [wsO_get ha]; show some (_, cel G (sh a) (μ a)) = _; rw [hs]; rfl
    have hv : (flds (gB G) (μ a) 0 fks)[j]? = some (fval (gB G) (μ a) j x) := by rw [flds_get, hj, Nat.zero_add]; rfl
    rcases hlk with h | ⟨host, h⟩
    · exact va_get (C := q.1) (T := q.2.1) (N := q.2.2) C.1.1 C.1.2.1 C.2.1 (inC ci q hc).1 C.1.2.2.2.2 C.2.2.2.2.2.1.2.1 hw a he hc j hjn (C.2.1 _ h) (fun _ h9 => h9) hv hd (kk H locs ls hl hw hS)
    · exact va_getN (C := q.1) (T := q.2.1) (N := q.2.2) C.1.1 C.1.2.1 C.2.1 (inC ci q hc).1 C.1.2.2.2.2 C.2.2.2.2.2.1.2.1 hw a he hc j hjn (va_Nw.use rfl (C.2.2.2.2.2.1.2.2.2.2.2.2.1 _ h)) (fun _ h9 => h9) hv hd (kk H locs ls hl hw hS)
theorem VW.getI {idx ci j a : Nat} {fks : List FK} (hd : decode (mC M) pc = .ok (.getfield idx, 3)) (fa : FA (mY M).cls idx ci j) (ha : a < N) (hs : sh a = sO ci fks) (hj : fks[j]? = some fI)
    (kk : VW G l z M (pc + 3) lv (vI (μ a j) :: rest) (N, sh, μ) k n Φ) : VW G l z M pc lv (.ref (gB G + a) :: rest) (N, sh, μ) k n Φ := VW.get hd fa ha hs hj kk
theorem VW.getL {idx ci j a : Nat} {fks : List FK} (hd : decode (mC M) pc = .ok (.getfield idx, 3)) (fa : FA (mY M).cls idx ci j) (ha : a < N) (hs : sh a = sO ci fks) (hj : fks[j]? = some fL)
    (kk : VW G l z M (pc + 3) lv (vL (μ a j) :: rest) (N, sh, μ) k n Φ) : VW G l z M pc lv (.ref (gB G + a) :: rest) (N, sh, μ) k n Φ := VW.get hd fa ha hs hj kk
theorem VW.getR {idx ci j a b : Nat} {fks : List FK} (hd : decode (mC M) pc = .ok (.getfield idx, 3)) (fa : FA (mY M).cls idx ci j) (ha : a < N) (hs : sh a = sO ci fks) (hj : fks[j]? = some (fR b))
    (kk : VW G l z M (pc + 3) lv (.ref (gB G + b) :: rest) (N, sh, μ) k n Φ) : VW G l z M pc lv (.ref (gB G + a) :: rest) (N, sh, μ) k n Φ := VW.get hd fa ha hs hj kk
theorem VW.putI {idx ci j a : Nat} {fks : List FK} {x : Int} (hd : decode (mC M) pc = .ok (.putfield idx, 3)) (fa : FP (mY M).cls idx ci j .int) (ha : a < N) (hs : sh a = sO ci fks) (hj : fks[j]? = some fI)
    (kk : VW G l z M (pc + 3) lv rest (N, sh, mup μ a j x) k n Φ) : VW G l z M pc lv (vI x :: .ref (gB G + a) :: rest) (N, sh, μ) k n Φ :=
  VW.step ⟨Nat.le_refl _, Nat.le_refl _⟩ kk fun r p e R s m args below meth c H locs ls C hR hl hw hS kk => by
    obtain ⟨q, hc, hjn, hlk, hfin, hty⟩ := fa
    obtain ⟨hin, ⟨ty0, hty0⟩, hnm⟩ := inC ci q hc
    have he : (wsO G (N, sh, μ))[a]? = some (gB G + a, .inr (ci, flds (gB G) (μ a) 0 fks)) := by rw [wsO_get ha]; show some (_, cel G (sh a) (μ a)) = _; rw [hs]; rfl
    refine va_put (C := q.1) (T := q.2.1) (N := q.2.2) (ty := .int) (v := vI x) C.1.1 C.1.2.1 C.2.1 hin ty0 hty0 hnm C.1.2.2.2.2 C.2.2.2.2.2.1.2.1 hw (wsO_D G _) hS a he hc j hjn (C.2.1 _ hlk) (fun _ h9 => h9) hfin hty rfl (show fits .int (.int _) = true from rfl) (by rw [flds_len]; exact (List.getElem?_eq_some_iff.mp hj).1) hd (fun H1 locs1 hP hD hS1 => kk H1 locs1 ls hl ?_ hS1)
    unfold wld
    rw [← wsO_set (e := .inr (ci, (flds (gB G) (μ a) 0 fks).set j (vI x)))]
    · exact hP
    · rw [hs, cel_o]
      show Sum.inr (ci, flds (gB G) (fup μ a (fup (μ a) j x) a) 0 fks) = _
      rw [fup_s, flds_up hj]
      show Sum.inr (ci, (flds (gB G) (μ a) 0 fks).set j (vI (fup (μ a) j x j))) = _
      rw [fup_s]
    · intro i hi
      exact ⟨rfl, fup_n hi⟩
theorem VW.putL {idx ci j a : Nat} {fks : List FK} {x : Int} (hd : decode (mC M) pc = .ok (.putfield idx, 3)) (fa : FP (mY M).cls idx ci j .long) (ha : a < N) (hs : sh a = sO ci fks) (hj : fks[j]? = some fL)
    (kk : VW G l z M (pc + 3) lv rest (N, sh, mup μ a j x) k n Φ) : VW G l z M pc lv (vL x :: .ref (gB G + a) :: rest) (N, sh, μ) k n Φ :=
  VW.step ⟨Nat.le_refl _, Nat.le_refl _⟩ kk fun r p e R s m args below meth c H locs ls C hR hl hw hS kk => by
    obtain ⟨q, hc, hjn, hlk, hfin, hty⟩ := fa
    obtain ⟨hin, ⟨ty0, hty0⟩, hnm⟩ := inC ci q hc
    have he : (wsO G (N, sh, μ))[a]? = some (gB G + a, .inr (ci, flds (gB G) (μ a) 0 fks)) := by rw [wsO_get ha]; show some (_, cel G (sh a) (μ a)) = _; rw [hs]; rfl
    refine va_put (C := q.1) (T := q.2.1) (N := q.2.2) (ty := .long) (v := vL x) C.1.1 C.1.2.1 C.2.1 hin ty0 hty0 hnm C.1.2.2.2.2 C.2.2.2.2.2.1.2.1 hw (wsO_D G _) hS a he hc j hjn (C.2.1 _ hlk) (fun _ h9 => h9) hfin hty rfl (show fits .long (.long _) = true from rfl) (by rw [flds_len]; exact (List.getElem?_eq_some_iff.mp hj).1) hd (fun H1 locs1 hP hD hS1 => kk H1 locs1 ls hl ?_ hS1)
    unfold wld
    rw [← wsO_set (e := .inr (ci, (flds (gB G) (μ a) 0 fks).set j (vL x)))]
    · exact hP
    · rw [hs, cel_o]
      show Sum.inr (ci, flds (gB G) (fup μ a (fup (μ a) j x) a) 0 fks) = _
      rw [fup_s, flds_up hj]
      show Sum.inr (ci, (flds (gB G) (μ a) 0 fks).set j (vL (fup (μ a) j x j))) = _
      rw [fup_s]
    · intro i hi
      exact ⟨rfl, fup_n hi⟩
/-- a final field gets its object, in a constructor -/
theorem VW.putR {idx ci j a b : Nat} {fks : List FK} {ty : FieldType} (hd : decode (mC M) pc = .ok (.putfield idx, 3)) (hin2 : (mY M).name = "<init>") (fa : FF (mY M).cls idx ci j ty) (hfit : ∀ q : Nat, narrow ty (.ref q) = .ref q ∧ fits ty (.ref q) = true) (ha : a < N) (hs : sh a = sO ci fks) (hj : j < fks.length)
    (kk : VW G l z M (pc + 3) lv rest (N, fup sh a (sO ci (fks.set j (fR b))), μ) k n Φ) : VW G l z M pc lv (.ref (gB G + b) :: .ref (gB G + a) :: rest) (N, sh, μ) k n Φ :=
  VW.step ⟨Nat.le_refl _, Nat.le_refl _⟩ kk fun r p e R s m args below meth c H locs ls C hR hl hw hS kk => by
    obtain ⟨q, hc, hjn, hlk, hfin, hdecl, hty⟩ := fa
    obtain ⟨hin, ⟨ty0, hty0⟩, hnm⟩ := inC ci q hc
    have he : (wsO G (N, sh, μ))[a]? = some (gB G + a, .inr (ci, flds (gB G) (μ a) 0 fks)) := by rw [wsO_get ha]; show some (_, cel G (sh a) (μ a)) = _; rw [hs]; rfl
    refine va_putF (C := q.1) (T := q.2.1) (N := q.2.2) (ty := ty) (v := .ref (gB G + b)) C.1.1 C.1.2.1 C.2.1 hin ty0 hty0 hnm C.1.2.2.2.2 C.2.2.2.2.2.1.2.1 hw (wsO_D G _) hS a he hc j hjn (C.2.1 _ hlk) (fun _ h9 => h9) hfin (C.2.2.2.1 hin2) hdecl hty (hfit _).1 (hfit _).2 (by rw [flds_len]; exact hj) hd (fun H1 locs1 hP hD hS1 => kk H1 locs1 ls hl ?_ hS1)
    unfold wld
    rw [← wsO_set (sh := sh) (μ := μ) (e := .inr (ci, (flds (gB G) (μ a) 0 fks).set j (.ref (gB G + b))))]
    · exact hP
    · rw [fup_s, cel_o, flds_set]
      rfl
    · intro i hi
      exact ⟨fup_n hi, rfl⟩
theorem VW.iaload {a len : Nat} {i : Int} (hd : decode (mC M) pc = .ok (.iaload, 1)) (ha : a < N) (hs : sh a = sI len) (h0 : 0 ≤ i) (h1 : i < len) (h2 : len < 2147483648)
    (kk : VW G l z M (pc + 1) lv (vI (μ a i.toNat) :: rest) (N, sh, μ) k n Φ) : VW G l z M pc lv (vI i :: .ref (gB G + a) :: rest) (N, sh, μ) k n Φ :=
  VW.step ⟨Nat.le_refl _, Nat.le_refl _⟩ kk fun r p e R s m args below meth c H locs ls C hR hl hw hS kk => by
    have he : (wsO G (N, sh, μ))[a]? = some (gB G + a, .inl (gI G, len, .inl (fun j => Int32.ofInt (μ a j)))) := by rw [wsO_get ha]; show some (_, cel G (sh a) (μ a)) = _; rw [hs]; rfl
    have hR3 : R32 i := ⟨by omega, by omega⟩
    refine va_iald C.1.1 C.1.2.1 C.2.2.2.2.2.1.2.1 hw a 0 he rfl (i32_in hR3 h0 h1) hd ?_
    rw [i32_clamp (j := i.toNat) (by omega) (by omega)]
    exact kk H locs ls hl hw hS
theorem VW.iastore {a len : Nat} {i x : Int} (hd : decode (mC M) pc = .ok (.iastore, 1)) (ha : a < N) (hs : sh a = sI len) (h0 : 0 ≤ i) (h1 : i < len) (h2 : len < 2147483648)
    (kk : VW G l z M (pc + 1) lv rest (N, sh, mup μ a i.toNat x) k n Φ) : VW G l z M pc lv (vI x :: vI i :: .ref (gB G + a) :: rest) (N, sh, μ) k n Φ :=
  VW.step ⟨Nat.le_refl _, Nat.le_refl _⟩ kk fun r p e R s m args below meth c H locs ls C hR hl hw hS kk => by
    have he : (wsO G (N, sh, μ))[a]? = some (gB G + a, .inl (gI G, len, .inl (fun j => Int32.ofInt (μ a j)))) := by rw [wsO_get ha]; show some (_, cel G (sh a) (μ a)) = _; rw [hs]; rfl
    have hR3 : R32 i := ⟨by omega, by omega⟩
    refine va_iast C.1.1 C.1.2.1 C.2.2.2.2.2.1.2.1 hw (wsO_D G _) hS a 0 he rfl (i32_in hR3 h0 h1) hd (fun H1 locs1 hP hD hS1 => kk H1 locs1 ls hl ?_ hS1)
    unfold wld
    rw [← wsO_set (e := .inl (gI G, len, .inl (upd (fun j => Int32.ofInt (μ a j)) (Int32.ofInt i).toNatClampNeg (Int32.ofInt x))))]
    · exact hP
    · rw [hs, i32_clamp (j := i.toNat) (by omega) (by omega)]
      show Sum.inl (gI G, len, Sum.inl (fun j => Int32.ofInt (fup μ a (fup (μ a) i.toNat x) a j))) = _
      rw [fup_s]
      congr 4
      funext j
      by_cases hj : j = i.toNat <;> simp [fup, upd, hj]
    · intro i hi
      exact ⟨rfl, fup_n hi⟩
theorem VW.aaload {a b : Nat} {c0 : Bool} {ids : List (Option Nat)} {i : Int} (hd : decode (mC M) pc = .ok (.aaload, 1)) (ha : a < N) (hs : sh a = sQ c0 ids) (h0 : 0 ≤ i) (h2 : ids.length < 2147483648) (hb : ids[i.toNat]? = some (some b))
    (kk : VW G l z M (pc + 1) lv (.ref (gB G + b) :: rest) (N, sh, μ) k n Φ) : VW G l z M pc lv (vI i :: .ref (gB G + a) :: rest) (N, sh, μ) k n Φ :=
  VW.step ⟨Nat.le_refl _, Nat.le_refl _⟩ kk fun r p e R s m args below meth c H locs ls C hR hl hw hS kk => by
    have he : (wsO G (N, sh, μ))[a]? = some (gB G + a, .inl ((if c0 then gR G else gS G), ids.length, .inr (.inr (.inr (.inr (qel (gB G) ids)))))) := by rw [wsO_get ha]; show some (_, cel G (sh a) (μ a)) = _; rw [hs]; rfl
    have h1 : i < ids.length := by have := (List.getElem?_eq_some_iff.mp hb).1; omega
    have hR3 : R32 i := ⟨by omega, by omega⟩
    have hv : qel (gB G) ids (Int32.ofInt i).toNatClampNeg = some (gB G + b) := by rw [i32_clamp (j := i.toNat) (by omega) (by omega)]; unfold qel; rw [hb]
    have kk' : W p l e R s m args below meth c H locs k n (vx_MQ below (xQc G r) (xXC G r) args s r.2.2.1 r.2.2.2 (gA G)) (F0 m (pc + 1) ls (va_rf (qel (gB G) ids (Int32.ofInt i).toNatClampNeg) :: rest)) := by rw [hv]; exact kk H locs ls hl hw hS
    cases c0 with
    | true => exact va_aldq (C := "LatticeGestures$Row") C.1.1 C.1.2.1 C.2.2.2.2.2.1.2.1 hw a 1 he rfl (i32_in hR3 h0 h1) hd kk'
    | false => exact va_aldq (C := "LatticeGestures$State") C.1.1 C.1.2.1 C.2.2.2.2.2.1.2.1 hw a 2 he rfl (i32_in hR3 h0 h1) hd kk'
theorem VW.alenI {a len : Nat} (hd : decode (mC M) pc = .ok (.arraylength, 1)) (ha : a < N) (hs : sh a = sI len)
    (kk : VW G l z M (pc + 1) lv (vI len :: rest) (N, sh, μ) k n Φ) : VW G l z M pc lv (.ref (gB G + a) :: rest) (N, sh, μ) k n Φ :=
  VW.step ⟨Nat.le_refl _, Nat.le_refl _⟩ kk fun r p e R s m args below meth c H locs ls C hR hl hw hS kk => by
    have he : (wsO G (N, sh, μ))[a]? = some (gB G + a, .inl (gI G, len, .inl (fun j => Int32.ofInt (μ a j)))) := by rw [wsO_get ha]; show some (_, cel G (sh a) (μ a)) = _; rw [hs]; rfl
    exact va_alen C.1.1 C.1.2.1 C.2.2.2.2.2.1.2.1 hw a 0 he rfl (v := Int32.ofInt len) Int32.ofInt_eq_ofNat.symm hd (kk H locs ls hl hw hS)
theorem VW.alenQ {a : Nat} {c0 : Bool} {ids : List (Option Nat)} (hd : decode (mC M) pc = .ok (.arraylength, 1)) (ha : a < N) (hs : sh a = sQ c0 ids)
    (kk : VW G l z M (pc + 1) lv (vI ids.length :: rest) (N, sh, μ) k n Φ) : VW G l z M pc lv (.ref (gB G + a) :: rest) (N, sh, μ) k n Φ :=
  VW.step ⟨Nat.le_refl _, Nat.le_refl _⟩ kk fun r p e R s m args below meth c H locs ls C hR hl hw hS kk => by
    have he : (wsO G (N, sh, μ))[a]? = some (gB G + a, .inl ((if c0 then gR G else gS G), ids.length, .inr (.inr (.inr (.inr (qel (gB G) ids)))))) := by rw [wsO_get ha]; show some (_, cel G (sh a) (μ a)) = _; rw [hs]; rfl
    cases c0 with
    | true => exact va_alen C.1.1 C.1.2.1 C.2.2.2.2.2.1.2.1 hw a 1 he rfl (v := Int32.ofInt ids.length) Int32.ofInt_eq_ofNat.symm hd (kk H locs ls hl hw hS)
    | false => exact va_alen C.1.1 C.1.2.1 C.2.2.2.2.2.1.2.1 hw a 2 he rfl (v := Int32.ofInt ids.length) Int32.ofInt_eq_ofNat.symm hd (kk H locs ls hl hw hS)
-- the static tables
def TA (own : String) (idx t : Nat) : Prop := t < 5 ∧ (Cond.fieldLink own idx "LatticeGestures" (tbN t) "[I" ∈ lw_G ∨ ∃ host : String, (own, idx, "LatticeGestures", tbN t, "[I", host) ∈ eNF)
theorem VW.gets {idx t : Nat} (hd : decode (mC M) pc = .ok (.getstatic idx, 3)) (ta : TA (mY M).cls idx t)
    (kk : VW G l z M (pc + 3) lv (.ref (gT G t) :: rest) w k n Φ) : VW G l z M pc lv rest w k n Φ :=
  VW.step ⟨Nat.le_refl _, Nat.le_refl _⟩ kk fun r p e R s m args below meth c H locs ls C hR hl hw hS kk => by
    obtain ⟨ht, h⟩ := ta
    rcases h with h | ⟨host, h⟩
    · exact va_gets C.1.1 C.1.2.1 (C.2.2.2.2.2.1.2.2.1 t ht).1 hS C.1.2.2.2.2 (C.2.1 _ h) (fun _ h9 => h9) hd (kk H locs ls hl hw hS)
    · exact va_getsN C.1.1 C.1.2.1 (C.2.2.2.2.2.1.2.2.1 t ht).1 hS C.1.2.2.2.2 (va_Nw.use rfl (C.2.2.2.2.2.1.2.2.2.2.2.2.1 _ h)) (fun _ h9 => h9) hd (kk H locs ls hl hw hS)
theorem tb_len : ∀ t : Nat, (tbV t).length < 100 := fun t => match t with
  | 0 => by decide
  | 1 => by decide
  | 2 => by decide
  | 3 => by decide
  | t + 4 => by show 8 < 100; decide
theorem VW.tlen {t : Nat} (ht : t < 5) (hd : decode (mC M) pc = .ok (.arraylength, 1))
    (kk : VW G l z M (pc + 1) lv (vI (tbV t).length :: rest) w k n Φ) : VW G l z M pc lv (.ref (gT G t) :: rest) w k n Φ :=
  VW.step ⟨Nat.le_refl _, Nat.le_refl _⟩ kk fun r p e R s m args below meth c H locs ls C hR hl hw hS kk =>
    va_tlen C.1.1 C.1.2.1 (C.2.2.2.2.2.1.2.2.1 t ht).2 hS (v := Int32.ofInt (tbV t).length) Int32.ofInt_eq_ofNat.symm hd (kk H locs ls hl hw hS)
theorem VW.taload {t : Nat} {i : Int} (ht : t < 5) (hd : decode (mC M) pc = .ok (.iaload, 1)) (h0 : 0 ≤ i) (h1 : i < (tbV t).length)
    (kk : VW G l z M (pc + 1) lv (vI ((tbV t).getD i.toNat 0) :: rest) w k n Φ) : VW G l z M pc lv (vI i :: .ref (gT G t) :: rest) w k n Φ :=
  VW.step ⟨Nat.le_refl _, Nat.le_refl _⟩ kk fun r p e R s m args below meth c H locs ls C hR hl hw hS kk => by
    have h9 := tb_len t
    have hR3 : R32 i := ⟨by omega, by omega⟩
    exact va_ti C.1.1 C.1.2.1 (C.2.2.2.2.2.1.2.2.1 t ht).2 hS (i32_in hR3 h0 h1) (v := vI ((tbV t).getD i.toNat 0)) (by rw [i32_clamp (j := i.toNat) (by omega) (by omega)]; rfl) hd (kk H locs ls hl hw hS)
end VH
