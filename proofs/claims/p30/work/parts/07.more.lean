/-! ===== new cells, throws, catches, methods with handlers ===== -/
def xN : List String := ["java/lang/RuntimeException", "java/lang/Exception"]
/-- what a 'throw new E(text)' in own stands on -/
def XT (own : String) (ik ic : Nat) (E : String) : Prop := Bundle.fit E = true ∧ (∀ n ∈ xN, Bundle.fit n = true) ∧ Cond.classLink own ik E ∈ lw_G ∧ Cond.initialized E ∈ lw_G ∧
  (∀ w ∈ (vx_atS own ic E xN).filter goodWord, w ∈ lw_G) ∧ (∀ w ∈ (vx_atS own ic E xN).filter (fun w => !goodWord w), w ∈ Cond.castable E E :: eND.map Cond.declares) ∧
  (∀ w ∈ Cond.classLink own ik E :: Cond.initialized E :: vx_atS own ic E xN, vx_ot w = true) ∧ (E, E) ∈ eNC
/-- what a 'new' stands on: the class, its slots, its fields at first -/
def NA (own : String) (idx ci ns : Nat) (fks : List FK) : Prop := ∃ (q : vw_C) (ty : Nat → FieldType), vwCl[ci]? = some q ∧ q.2.2 = ns ∧ (∀ k, k < q.2.2 → parseFieldDescriptor (q.2.1 k).2.2.1 = some (ty k)) ∧ Cond.classLink own idx q.1 ∈ lw_G ∧ Cond.instantiable q.1 q.2.2 ∈ lw_G ∧ Cond.initialized q.1 ∈ lw_G ∧
  (∀ (B j : Nat), j < q.2.2 → defaultValue (ty j) = vp_V (flds B (fun _ => 0) 0 fks) j)
theorem q_new {G : GT} {w : WT} {q k n0 : Nat} {e : va_E} {s : State} {H1 : Heap} (hP : va_P (gD G) vwCl (wsO G w ++ [(q, e)]) H1) (hD : va_D (gA G) (wsO G w ++ [(q, e)])) (hup : H1.size ≤ s.heap.size + (k + 1)) (hs : s.heap.size = gB G + n0) (hk : n0 + k = w.1) : q = gB G + w.1 := by
  have hlen : (wsO G w).length = w.1 := by simp [wsO]
  have hq : (wsO G w ++ [(q, e)])[w.1]? = some (q, e) := by rw [List.getElem?_append_right (by omega), hlen, Nat.sub_self]; rfl
  have h1 : q < H1.size := (hP _ _ hq).lt
  have h2 : gB G ≤ q := hD.2 _ _ hq
  by_cases hlt : q < gB G + w.1
  · have hj : q - gB G < w.1 := by omega
    have hj2 : (wsO G w ++ [(q, e)])[q - gB G]? = some (gB G + (q - gB G), cel G (w.2.1 (q - gB G)) (w.2.2 (q - gB G))) := by
      rw [List.getElem?_append_left (by omega)]
      exact wsO_get hj
    have h3 := hD.1 _ _ _ _ hq hj2 (by show q = gB G + (q - gB G); omega)
    omega
  · omega
section VN
variable {G : GT} {l : Launch} {z : Option Nat} {M M' : MD} {pc idx : Nat} {lv : List (Nat × Value)} {rest : List Value} {w : WT} {k n : Nat} {Φ : RT → Prop} {N : Nat} {sh : Nat → ShT} {μ : Mem}
theorem VW.objInit {a : Nat} (hd : decode (mC M) pc = .ok (.invokespecial idx, 3)) (h1 : Cond.methodLink (mY M).cls idx Lib.objectInit ∈ lw_G) (h2 : Cond.instanceMethod Lib.objectInit ∈ lw_G) (h3 : Cond.code Lib.objectInit ⟨#[0xb1]⟩ 1 none ∈ lw_G) (hf : 1 ≤ mF M) (ho : (rest.map fun v => v.category).sum + 12 ≤ mO M)
    (kk : VW G l z M (pc + 3) lv rest w k n Φ) : VW G l z M pc lv (.ref a :: rest) w k n Φ :=
  VW.step ⟨Nat.le_refl _, Nat.le_refl _⟩ kk fun r p e R s m args below meth c H locs ls C hR hl hw hS kk =>
    W.objInit (g := F0 m pc ls (.ref a :: rest)) C.1.1 C.1.2.1 C.1.2.2.2.2 (C.2.1 _ h1) (C.2.1 _ h2) (C.2.1 _ h3) rfl (hl.1.trans C.1.2.2.1.symm) rfl hd (Nat.le_trans hf C.2.2.1.2.1) (by show 2 * 0 + _ + 12 ≤ _; have := C.2.2.1.2.2.1; omega) (kk H locs ls hl hw hS)
theorem VW.new {ci ns n0 : Nat} {fks : List FK} (hd : decode (mC M) pc = .ok (.new idx, 3)) (na : NA (mY M).cls idx ci ns fks) (hz : z = some n0) (hk : n0 + k = N)
    (kk : VW G l z M (pc + 3) lv (.ref (gB G + N) :: rest) (N + 1, fup sh N (sO ci fks), fup μ N (fun _ => 0)) (k + 1) (n + ns) Φ) : VW G l z M pc lv rest (N, sh, μ) k n Φ :=
  VW.step ⟨Nat.le_add_right _ _, Nat.le_add_right _ _⟩ kk fun r p e R s m args below meth c H locs ls C hR hl hw hS kk => by
    obtain ⟨q, ty, hc, hns, hty, hcl, hin, hini, hdf⟩ := na
    subst hns
    refine va_new (C := q.1) (T := q.2.1) (N := q.2.2) (ci := ci) (fs := flds (gB G) (fun _ => 0) 0 fks) C.1.1 C.1.2.1 C.2.1 (inC ci q hc).1 ty hty C.1.2.2.2.2 (C.2.1 _ hcl) (C.2.1 _ hin) (C.2.1 _ hini) C.2.2.2.2.2.1.2.1 hw (wsO_D G _) hS (fun q hq => Nat.le_trans C.2.2.2.2.2.1.1 hq) hc (hdf _) hR.1 hR.2 hd (fun q1 H1 hP hD hS1 => ?_)
    refine W.upper (fun hup => ?_)
    have hq := q_new hP hD hup (C.2.2.2.2.2.2.1 _ hz) hk
    subst hq
    refine kk H1 locs ls hl ?_ hS1
    show va_P (gD G) vwCl (wsO G (N + 1, fup sh N (sO ci fks), fup μ N (fun _ => 0))) H1
    rw [← wsO_push]
    exact hP
theorem VW.newI {n0 : Nat} {x : Int} (hd : decode (mC M) pc = .ok (.newarray .int, 2)) (ha : Cond.arrayClass .int ∈ lw_G) (hz : z = some n0) (hk : n0 + k = N) (hx : 0 ≤ x ∧ x < 100000)
    (kk : VW G l z M (pc + 2) lv (.ref (gB G + N) :: rest) (N + 1, fup sh N (sI x.toNat), fup μ N (fun _ => 0)) (k + 1) (n + x.toNat) Φ) : VW G l z M pc lv (vI x :: rest) (N, sh, μ) k n Φ :=
  VW.step ⟨Nat.le_add_right _ _, Nat.le_add_right _ _⟩ kk fun r p e R s m args below meth c H locs ls C hR hl hw hS kk => by
    have hR3 : R32 x := ⟨by omega, by omega⟩
    refine va_newa (atype := .int) (ty := .int) (a0 := (x.toNat, .inl (fun _ => 0))) (N' := x.toNat) C.1.1 C.1.2.1 (C.2.1 _ ha) rfl C.2.2.2.2.2.1.2.1 hw (wsO_D G _) hS (fun q hq => Nat.le_trans C.2.2.2.2.2.1.1 hq) (fun cA => by rw [vp_cell_i]; rfl) (by rw [i32_0, i32_lt hR3 R32_0]; omega) (i32_clamp (by omega) (by omega)) (by show x.toNat * 4 ≤ _; omega) hR.1 hR.2 hd (fun q1 cA H1 hK hP hD hS1 => ?_)
    refine W.upper (fun hup => ?_)
    have hq := q_new hP hD hup (C.2.2.2.2.2.2.1 _ hz) hk
    subst hq
    have hcA : cA = gI G := by
      have h1 : va_RA s cA .int := (hK.2 3 (cA, .int) rfl).2
      have h2 : va_RA s (gI G) .int := (C.2.2.2.2.2.1.2.1.2 0 (gI G, .int) rfl).2
      exact Option.some.inj (h1.symm.trans h2)
    subst hcA
    refine kk H1 locs ls hl ?_ hS1
    show va_P (gD G) vwCl (wsO G (N + 1, fup sh N (sI x.toNat), fup μ N (fun _ => 0))) H1
    rw [← wsO_push]
    exact hP
theorem qel_none (B j n : Nat) : qel B (List.replicate n none) j = none := by
  unfold qel
  rw [List.getElem?_replicate]
  by_cases h : j < n <;> simp [h]
theorem VW.newQ {n0 : Nat} {x : Int} {c0 : Bool} (hd : decode (mC M) pc = .ok (.anewarray idx, 3)) (ha : Cond.classLink (mY M).cls idx (if c0 then "LatticeGestures$Row" else "LatticeGestures$State") ∈ lw_G) (hz : z = some n0) (hk : n0 + k = N) (hx : 0 ≤ x ∧ x < 100000)
    (kk : VW G l z M (pc + 3) lv (.ref (gB G + N) :: rest) (N + 1, fup sh N (sQ c0 (List.replicate x.toNat none)), fup μ N (fun _ => 0)) (k + 1) (n + x.toNat) Φ) : VW G l z M pc lv (vI x :: rest) (N, sh, μ) k n Φ :=
  VW.step ⟨Nat.le_add_right _ _, Nat.le_add_right _ _⟩ kk fun r p e R s m args below meth c H locs ls C hR hl hw hS kk => by
    have hR3 : R32 x := ⟨by omega, by omega⟩
    have hAO : va_AO (if c0 then "LatticeGestures$Row" else "LatticeGestures$State") s := by
      cases c0 with
      | true => exact C.2.2.2.2.2.1.2.2.2.2.2.2.2.2.2.2.1
      | false => exact C.2.2.2.2.2.1.2.2.2.2.2.2.2.2.2.2.2.1
    refine va_newq (N' := x.toNat) C.1.1 C.1.2.1 C.1.2.2.2.2 (C.2.1 _ ha) hAO C.2.2.2.2.2.1.2.1 hw (wsO_D G _) hS (fun q hq => Nat.le_trans C.2.2.2.2.2.1.1 hq) (by rw [i32_0, i32_lt hR3 R32_0]; omega) (i32_clamp (by omega) (by omega)) (by omega) hR.1 hR.2 hd (fun q1 cA H1 hK hP hD hS1 => ?_)
    refine W.upper (fun hup => ?_)
    have hq := q_new hP hD hup (C.2.2.2.2.2.2.1 _ hz) hk
    subst hq
    have hcA : cA = if c0 then gR G else gS G := by
      cases c0 with
      | true =>
        obtain ⟨kA, comp, -, -, -, h1⟩ : va_RA s cA (.object "LatticeGestures$Row") := (hK.2 3 (cA, .object "LatticeGestures$Row") rfl).2
        obtain ⟨kA2, comp2, -, -, -, h2⟩ : va_RA s (gR G) (.object "LatticeGestures$Row") := (C.2.2.2.2.2.1.2.1.2 1 (gR G, .object "LatticeGestures$Row") rfl).2
        exact Option.some.inj (h1.symm.trans h2)
      | false =>
        obtain ⟨kA, comp, -, -, -, h1⟩ : va_RA s cA (.object "LatticeGestures$State") := (hK.2 3 (cA, .object "LatticeGestures$State") rfl).2
        obtain ⟨kA2, comp2, -, -, -, h2⟩ : va_RA s (gS G) (.object "LatticeGestures$State") := (C.2.2.2.2.2.1.2.1.2 2 (gS G, .object "LatticeGestures$State") rfl).2
        exact Option.some.inj (h1.symm.trans h2)
    subst hcA
    refine kk H1 locs ls hl ?_ hS1
    show va_P (gD G) vwCl (wsO G (N + 1, fup sh N (sQ c0 (List.replicate x.toNat none)), fup μ N (fun _ => 0))) H1
    rw [← wsO_push]
    have he : cel G (sQ c0 (List.replicate x.toNat none)) (fun _ => 0) = .inl ((if c0 then gR G else gS G), x.toNat, .inr (.inr (.inr (.inr (fun _ => none))))) := by
      show Sum.inl ((if c0 then gR G else gS G), (List.replicate x.toNat (none : Option Nat)).length, Sum.inr (Sum.inr (Sum.inr (Sum.inr (qel (gB G) (List.replicate x.toNat none)))))) = _
      rw [List.length_replicate, show qel (gB G) (List.replicate x.toNat none) = fun _ => none from funext fun j => qel_none _ j _]
    rw [he]
    exact hP
theorem VW.aastore {a b ci : Nat} {c0 : Bool} {ids : List (Option Nat)} {fks : List FK} {i : Int} (hd : decode (mC M) pc = .ok (.aastore, 1)) (ha : a < N) (hs : sh a = sQ c0 ids) (hb : b < N) (hsb : sh b = sO ci fks) (hci : ci = if c0 then 4 else 5) (h0 : 0 ≤ i) (h1 : i < ids.length) (h2 : ids.length < 2147483648)
    (kk : VW G l z M (pc + 1) lv rest (N, fup sh a (sQ c0 (ids.set i.toNat (some b))), μ) k n Φ) : VW G l z M pc lv (.ref (gB G + b) :: vI i :: .ref (gB G + a) :: rest) (N, sh, μ) k n Φ :=
  VW.step ⟨Nat.le_refl _, Nat.le_refl _⟩ kk fun r p e R s m args below meth c H locs ls C hR hl hw hS kk => by
    have he : (wsO G (N, sh, μ))[a]? = some (gB G + a, .inl ((if c0 then gR G else gS G), ids.length, .inr (.inr (.inr (.inr (qel (gB G) ids)))))) := by rw [wsO_get ha]; show some (_, cel G (sh a) (μ a)) = _; rw [hs]; rfl
    have heb : (wsO G (N, sh, μ))[b]? = some (gB G + b, .inr (ci, flds (gB G) (μ b) 0 fks)) := by rw [wsO_get hb]; show some (_, cel G (sh b) (μ b)) = _; rw [hsb]; rfl
    have hR3 : R32 i := ⟨by omega, by omega⟩
    have hfin : ∀ (H1 : Heap) (locs1 : List Loc), va_P (gD G) vwCl ((wsO G (N, sh, μ)).set a (gB G + a, .inl ((if c0 then gR G else gS G), ids.length, .inr (.inr (.inr (.inr (va_up (qel (gB G) ids) (Int32.ofInt i).toNatClampNeg (some (gB G + b))))))))) H1 → va_S (gA G) s.heap H1 locs1 →
        W p l e R s m args below meth c H1 locs1 k n (vx_MQ below (xQc G r) (xXC G r) args s r.2.2.1 r.2.2.2 (gA G)) (F0 m (pc + 1) ls rest) := by
      intro H1 locs1 hP hS1
      refine kk H1 locs1 ls hl ?_ hS1
      unfold wld
      rw [← wsO_set (sh := sh) (μ := μ) (e := .inl ((if c0 then gR G else gS G), ids.length, .inr (.inr (.inr (.inr (va_up (qel (gB G) ids) (Int32.ofInt i).toNatClampNeg (some (gB G + b))))))))]
      · exact hP
      · rw [fup_s, i32_clamp (j := i.toNat) (by omega) (by omega)]
        show Sum.inl ((if c0 then gR G else gS G), (ids.set i.toNat (some b)).length, Sum.inr (Sum.inr (Sum.inr (Sum.inr (qel (gB G) (ids.set i.toNat (some b))))))) = _
        rw [List.length_set]
        congr 7
        funext j
        unfold qel va_up
        rw [List.getElem?_set]
        by_cases hj : j = i.toNat
        · subst hj
          have : i.toNat < ids.length := by omega
          simp [this]
        · rw [if_neg (fun q => hj q.symm), if_neg hj]
      · intro j hj
        exact ⟨fup_n hj, rfl⟩
    cases c0 with
    | true =>
      subst hci
      exact va_astq (r := (RX4, TX4, 2)) C.1.1 C.1.2.1 C.2.2.2.2.2.1.2.1 hw (wsO_D G _) hS a 1 b 4 he rfl heb rfl (i32_in hR3 h0 h1) hd (fun H1 locs1 hP hD hS1 => hfin H1 locs1 hP hS1)
    | false =>
      subst hci
      exact va_astq (r := (RX5, TX5, 3)) C.1.1 C.1.2.1 C.2.2.2.2.2.1.2.1 hw (wsO_D G _) hS a 2 b 5 he rfl heb rfl (i32_in hR3 h0 h1) hd (fun H1 locs1 hP hD hS1 => hfin H1 locs1 hP hS1)
/-- throw new E(text) -/
theorem VW.throwS {ik is ic : Nat} {E text : String} (hst : l.stackTraces = false) (xt : XT (mY M).cls ik ic E) (hstr : ((mY M).cls, is, text) ∈ eStr) (hh : mH M = []) (hf : 6 ≤ mF M) (ho : (rest.map fun v => v.category).sum + 82 ≤ mO M)
    (d0 : decode (mC M) pc = .ok (.new ik, 3)) (d3 : decode (mC M) (pc + 3) = .ok (.dup, 1)) (d4 : decode (mC M) (pc + 4) = .ok (.ldc is, 2)) (d6 : decode (mC M) (pc + 6) = .ok (.invokespecial ic, 3)) (d9 : decode (mC M) (pc + 9) = .ok (.athrow, 1))
    (hΦ : Φ (.inr E, w, k + 1, n + 6)) : VW G l z M pc lv rest w k n Φ :=
  ⟨_, hΦ, ⟨Nat.le_add_right _ _, Nat.le_add_right _ _⟩, fun p e R s m args below meth c H locs ls C hl hw hS => by
    obtain ⟨x1, x2, x3, x4, x5, x6, x7, x8⟩ := xt
    obtain ⟨a, ha⟩ := C.2.2.2.2.2.1.2.2.2.2.2.1 _ hstr
    have hat : ∀ w ∈ vx_atS (mY M).cls ic E xN, w.before args s = true := vx_hat (fun w hw => C.2.1 _ (x5 w hw)) x6 (vx_c (va_Nw.use rfl (C.2.2.2.2.2.1.2.2.2.2.2.2.2.2.1.1 _ x8)) (fun w hw => by obtain ⟨y, hy, rfl⟩ := List.mem_map.mp hw; exact va_Nw.use rfl (C.2.2.2.2.2.1.2.2.2.2.2.2.2.2.1.2 y hy)))
    exact vx_throwS (names := xN) (text := text) (sa := a) (A := gA G) C.1.1 C.1.2.1 hst C.1.2.2.2.2 x1 x2 (C.2.1 _ x3) (C.2.1 _ x4) ha hat x7 C.2.2.2.2.2.1.2.2.2.1 C.2.2.2.2.2.1.2.2.2.2.1 hS (hl.1.trans C.1.2.2.1.symm) d0 d3 d4 d6 d9
      (fun x hx => by rw [C.2.2.2.2.1, hh] at hx; cases hx) (by have := C.2.2.1.2.1; show 2 + 3 < R.frames; omega) (by have := C.2.2.1.2.2.1; show _ + (13 * (2 + 1) + 43) ≤ R.locals; omega) C.2.2.1.2.2.2.1 C.2.2.1.2.2.2.2 C.2.2.1.1
      (fun t hvm hz hk => ⟨⟨rfl, va_P.kept hw (fun i q hq => hk _ (hw i q hq).lt)⟩, ⟨Nat.le_trans hS.1 hz, fun q h1 h2 => (hk q (Nat.lt_of_lt_of_le h1 hS.1)).trans (hS.2.1 q h1 h2)⟩⟩)
      hS.2.2 (Nat.le_refl _) (Nat.le_refl _)⟩
end VN
section VX
variable {G : GT} {l : Launch} {z : Option Nat} {M M' : MD} {pc idx : Nat} {lv : List (Nat × Value)} {st av rest : List Value} {w : WT} {k n : Nat} {Φ : RT → Prop}
theorem VW.slen (hd : decode (mC M) pc = .ok (.arraylength, 1)) (kk : VW G l z M (pc + 1) lv (vI (gXn G) :: rest) w k n Φ) : VW G l z M pc lv (.ref (gXb G) :: rest) w k n Φ :=
  VW.step ⟨Nat.le_refl _, Nat.le_refl _⟩ kk fun r p e R s m args below meth c H locs ls C hR hl hw hS kk => by
    have hE := C.2.2.2.2.2.1
    have hX := hE.2.2.2.2.2.2.2.2.2.2.2.2.1
    have hb := hE.2.2.2.2.2.2.2.2.2.2.2.2.2
    refine va_slen C.1.1 C.1.2.1 hX (Nat.lt_of_lt_of_le hb hE.1) (fun h => absurd h (by show ¬ gB G ≤ gXb G; omega)) hS hd ?_
    rw [← Int32.ofInt_eq_ofNat]
    exact kk H locs ls hl hw hS
theorem VW.sload {i : Int} (hd : decode (mC M) pc = .ok (.iaload, 1)) (h0 : 0 ≤ i) (h1 : i < gXn G) (h2 : gXn G < 2147483648) (kk : VW G l z M (pc + 1) lv (vI (gXv G i.toNat) :: rest) w k n Φ) : VW G l z M pc lv (vI i :: .ref (gXb G) :: rest) w k n Φ :=
  VW.step ⟨Nat.le_refl _, Nat.le_refl _⟩ kk fun r p e R s m args below meth c H locs ls C hR hl hw hS kk => by
    have hE := C.2.2.2.2.2.1
    have hX := hE.2.2.2.2.2.2.2.2.2.2.2.2.1
    have hb := hE.2.2.2.2.2.2.2.2.2.2.2.2.2
    have hR3 : R32 i := ⟨by omega, by omega⟩
    refine va_sld C.1.1 C.1.2.1 hX (Nat.lt_of_lt_of_le hb hE.1) (fun h => absurd h (by show ¬ gB G ≤ gXb G; omega)) hS (i32_in hR3 h0 h1) hd ?_
    rw [i32_clamp (j := i.toNat) (by omega) (by omega)]
    exact kk H locs ls hl hw hS
theorem VW.ishr {a b x : Int} (hd : decode (mC M) pc = .ok (.ishr, 1)) (hv : Int32.ofInt a >>> (Int32.ofInt b &&& 31) = Int32.ofInt x) (kk : VW G l z M (pc + 1) lv (vI x :: rest) w k n Φ) : VW G l z M pc lv (vI b :: vI a :: rest) w k n Φ :=
  VW.step ⟨Nat.le_refl _, Nat.le_refl _⟩ kk fun r p e R s m args below meth c H locs ls C hR hl hw hS kk => lv_ishr C.1.1 C.1.2.1 hd (by rw [hv]; exact kk H locs ls hl hw hS)
theorem VW.iushr {a b x : Int} (hd : decode (mC M) pc = .ok (.iushr, 1)) (hv : ((Int32.ofInt a).toUInt32 >>> ((Int32.ofInt b).toUInt32 &&& Int32.toUInt32 31)).toInt32 = Int32.ofInt x) (kk : VW G l z M (pc + 1) lv (vI x :: rest) w k n Φ) : VW G l z M pc lv (vI b :: vI a :: rest) w k n Φ :=
  VW.step ⟨Nat.le_refl _, Nat.le_refl _⟩ kk fun r p e R s m args below meth c H locs ls C hR hl hw hS kk => lv_iushr C.1.1 C.1.2.1 hd hv (kk H locs ls hl hw hS)
theorem VW.rawF {a : UInt32} {x : Int} (hd : decode (mC M) pc = .ok (.invokestatic idx, 3)) (h1 : Cond.methodLink (mY M).cls idx ⟨"java/lang/Float", "floatToRawIntBits", "(F)I"⟩ ∈ lw_G) (h2 : Cond.native ⟨"java/lang/Float", "floatToRawIntBits", "(F)I"⟩ ∈ lw_G) (h3 : Cond.static ⟨"java/lang/Float", "floatToRawIntBits", "(F)I"⟩ ∈ lw_G) (h4 : Cond.initialized "java/lang/Float" ∈ lw_G) (hf : 1 ≤ mF M) (ho : (rest.map fun v => v.category).sum + 15 ≤ mO M) (hx : a.toInt32 = Int32.ofInt x)
    (kk : VW G l z M (pc + 3) lv (vI x :: rest) w k n Φ) : VW G l z M pc lv (.float a :: rest) w k n Φ :=
  VW.step ⟨Nat.le_refl _, Nat.le_refl _⟩ kk fun r p e R s m args below meth c H locs ls C hR hl hw hS kk =>
    vn_f2i C.1.1 C.1.2.1 (C.1.2.2.1.trans hl.1.symm) C.1.2.2.2.2 (C.2.1 _ h1) (C.2.1 _ h2) (C.2.1 _ h3) (C.2.1 _ h4) (Nat.le_trans hf C.2.2.1.2.1) (Nat.le_trans ho C.2.2.1.2.2.1) hd (by rw [hx]; exact kk H locs ls hl hw hS)
theorem VW.rawD {a : UInt64} {x : Int} (hd : decode (mC M) pc = .ok (.invokestatic idx, 3)) (h1 : Cond.methodLink (mY M).cls idx ⟨"java/lang/Double", "doubleToRawLongBits", "(D)J"⟩ ∈ lw_G) (h2 : Cond.native ⟨"java/lang/Double", "doubleToRawLongBits", "(D)J"⟩ ∈ lw_G) (h3 : Cond.static ⟨"java/lang/Double", "doubleToRawLongBits", "(D)J"⟩ ∈ lw_G) (h4 : Cond.initialized "java/lang/Double" ∈ lw_G) (hf : 1 ≤ mF M) (ho : (rest.map fun v => v.category).sum + 15 ≤ mO M) (hx : a.toInt64 = Int64.ofInt x)
    (kk : VW G l z M (pc + 3) lv (vL x :: rest) w k n Φ) : VW G l z M pc lv (.double a :: rest) w k n Φ :=
  VW.step ⟨Nat.le_refl _, Nat.le_refl _⟩ kk fun r p e R s m args below meth c H locs ls C hR hl hw hS kk =>
    vn_d2l C.1.1 C.1.2.1 (C.1.2.2.1.trans hl.1.symm) C.1.2.2.2.2 (C.2.1 _ h1) (C.2.1 _ h2) (C.2.1 _ h3) (C.2.1 _ h4) (Nat.le_trans hf C.2.2.1.2.1) (Nat.le_trans ho C.2.2.1.2.2.1) hd (by rw [hx]; exact kk H locs ls hl hw hS)
/-- a contract of a method with handlers, out of its body -/
theorem Run.ofH (hst : l.stackTraces = false) {t : Bool} {M : MD} {av : List Value} {w : WT} {r : RT} {h0 : Nat × Nat × Nat × Nat} {hs : List (Nat × Nat × Nat × Nat)} (hh : mH M = h0 :: hs) (hp : plainName (mY M).cls = true) (hav : (lg_sl av).length ≤ mL M)
    (h : V G l (if t then some w.1 else none) M 0 (lv_args 0 av) [] w 0 0 r) : Run G l t M av w r := by
  have hK : mK M = .codeWith (mY M) (mC M) (mL M) (mR M) (mH M) := by unfold mK; rw [hh]
  refine vx_ofWH (cc := mC M) (maxL := mL M) (ret := mR M) (hh := mH M) (ws' := lw_G) hp (by unfold mW; rw [hK]) ?_
  intro p e s m args below meth c s₁ B hml hv
  obtain ⟨rfl, hE, hW, htight⟩ := hv
  have hts := atoms_spec (ws := mW M) B.pre
  have hl := lv_entry av (n := mL M) hav
  rw [lg_entry_eq]
  refine h.2 p e _ s m _ below meth c s.heap [] _ ⟨⟨B.exec, B.bytes, hml, B.returns, findClass_of_methodNamed B.named⟩, fun w hw => hts w (List.mem_cons_of_mem _ hw), ⟨B.notSynchronized, Nat.le_refl _, Nat.le_refl _, Nat.le_refl _, Nat.le_refl _⟩, fun hi => by rw [← hi]; exact (name_of_methodNamed B.named B.method).1, ?_, hE, ?_, hst⟩ hl hW va_S.rf
  · exact vx_table (x := mY M) B (by rw [← hK]; exact hts _ List.mem_cons_self)
  · intro n0 hn
    cases t with
    | true =>
      cases hn
      exact htight rfl
    | false => cases hn
/-- behind a call that throws E, caught here: the handler stores the exception, nobody reads it -/
theorem VW.ofThrow {r1 : RT} {E : String} {av2 : Array Value} {pre suf : List ExceptionTableEntry} {x : ExceptionTableEntry} {lv' : List (Nat × Value)} {len : Nat} (hE : r1.1 = .inr E) (hsplit : tableOf (mH M) = pre ++ x :: suf)
    (hpass : ∀ y ∈ pre, covers y pc = false ∨ (y.catchType ≠ 0 ∧ ∃ nm : String, Cond.classLink (mY M).cls y.catchType nm ∈ lw_G ∧ (E, nm) ∈ eNN)) (hx : covers x pc = true) (h0 : x.catchType ≠ 0) (hlink : Cond.classLink (mY M).cls x.catchType E ∈ lw_G) (hc : (E, E) ∈ eNC)
    (hs : (∃ q : Fin 4, decode (mC M) x.handlerPc = .ok (.astore_n q, 1) ∧ len = 1 ∧ (q : Nat) < mL M ∧ lv' = lv.filter (fun p => !(p.1 == (q : Nat)) && !(p.1 + 1 == (q : Nat) && p.2.category == 2))) ∨
      (∃ q : Nat, decode (mC M) x.handlerPc = .ok (.astore q, 2) ∧ len = 2 ∧ q < mL M ∧ lv' = lv.filter (fun p => !(p.1 == q) && !(p.1 + 1 == q && p.2.category == 2))))
    (h : VW G l z M (x.handlerPc + len) lv' [] r1.2.1 (k + r1.2.2.1) (n + r1.2.2.2) Φ)
    (hrun : ∀ (r : RT) (p : Program) (e : Env) (R : Room) (s : State) (m : MethodId) (args : Array Value) (below : List Frame) (meth : Method) (c : Code) (H : Heap) (locs : List Loc) (ls : Array Slot),
      Ctx G z M r p l R s m args meth c → (k + r1.2.2.1 ≤ R.cells ∧ n + r1.2.2.2 ≤ R.slots) → lv_has ls (mL M) lv → wld G w H → va_S (gA G) s.heap H locs → H.size ≤ s.heap.size + k →
      vx_Run p l e R s m args below meth c H locs k n r1.2.2.1 r1.2.2.2 (F0 m pc ls st) rest (xQc G r1 av2) (xXC G r1) (gA G)) : VW G l z M pc lv st w k n Φ :=
  VW.step ⟨Nat.le_add_right _ _, Nat.le_add_right _ _⟩ h fun r p e R s m args below meth c H locs ls C hR hl hw hS kk => by
    refine W.upper (fun hup => ?_)
    intro T hT X
    rcases hrun r p e R s m args below meth c H locs ls C hR hl hw hS hup T hT X with ⟨v', st₀, t, T', L, h0', X', hL, e1, e2, ⟨⟨v2, hv2, ho, hw2⟩, hF⟩, stp⟩ | ⟨q, st₀, t, T', L, E', ce, h0', X', hL, e1, e2, ⟨⟨hx', hw2⟩, hF⟩, hce, hcv, hcl, stp⟩
    · rw [hE] at hv2
      cases hv2
    · have e3 : E' = E := by rw [hE] at hx'; cases hx'; rfl
      subst e3
      obtain ⟨k1, k2, k3⟩ := vx_keep h0' e1 hS (fun _ _ h => h) (fun _ h => h) hL hF
      have hEnv := C.2.2.2.2.2.1
      have key : vx_W p l e R s m args below meth c T'.heap (locs ++ L) (k + r1.2.2.1) (n + r1.2.2.2) (vx_MQ below (xQc G r) (xXC G r) args s r.2.2.1 r.2.2.2 (gA G)) (F0 m pc ls rest) q := by
        refine vx_catch C.1.2.2.2.2 pre x suf (by rw [C.2.2.2.2.1]; exact hsplit) (fun y hy => ?_) hx h0 (C.2.1 _ hlink) (va_Nw.use rfl (hEnv.2.2.2.2.2.2.2.2.1.1 _ hc)) (by rw [e1]; exact hce) hcv hcl ?_
        · rcases hpass y hy with g | ⟨g1, nm, g2, g3⟩
          · exact Or.inl g
          · exact Or.inr ⟨g1, nm, C.2.1 _ g2, hEnv.2.2.2.2.2.2.2.2.2.1 _ g3⟩
        · rcases hs with ⟨qi, hd2, hlen, hq, hlv'⟩ | ⟨qi, hd2, hlen, hq, hlv'⟩
          · subst hlen
            exact lv_astore_n (i := (qi : Nat)) C.1.1 C.1.2.1 hd2 rfl hl hq rfl (fun ls' hl' => kk T'.heap (locs ++ L) ls' (hl'.mono (fun p hp => by rw [hlv'] at hp; exact List.mem_cons_of_mem _ hp)) (by rw [e1]; exact hw2) k3)
          · subst hlen
            exact lv_astore C.1.1 C.1.2.1 hd2 hl hq rfl (fun ls' hl' => kk T'.heap (locs ++ L) ls' (hl'.mono (fun p hp => by rw [hlv'] at hp; exact List.mem_cons_of_mem _ hp)) (by rw [e1]; exact hw2) k3)
      obtain ⟨t2, a1, b1⟩ := key T' rfl X'
      exact ⟨t2, stp.trans a1, b1⟩
/-- the run of a virtual call, for either end -/
theorem callV_run {ci b : Nat} {fks : List FK} {r1 : RT} (cf : CfV M M' idx av.length ci) (hd : decode (mC M) pc = .ok (.invokevirtual idx, 3)) (hst : st = av.reverse ++ .ref (gB G + b) :: rest) (hrest : (rest.map fun v => v.category).sum ≤ 8)
    (hb : b < w.1) (hs : w.2.1 b = sO ci fks) (hM : Run G l false M' (.ref (gB G + b) :: av) w r1) : ∀ (r : RT) (p : Program) (e : Env) (R : Room) (s : State) (m : MethodId) (args : Array Value) (below : List Frame) (meth : Method) (c : Code) (H : Heap) (locs : List Loc) (ls : Array Slot),
      Ctx G z M r p l R s m args meth c → (k + r1.2.2.1 ≤ R.cells ∧ n + r1.2.2.2 ≤ R.slots) → lv_has ls (mL M) lv → wld G w H → va_S (gA G) s.heap H locs → H.size ≤ s.heap.size + k →
      vx_Run p l e R s m args below meth c H locs k n r1.2.2.1 r1.2.2.2 (F0 m pc ls st) rest (xQc G r1 (Value.ref (gB G + b) :: av).toArray) (xXC G r1) (gA G) := by
  intro r p e R s m args below meth c H locs ls C hR hl hw hS hup
  obtain ⟨q, hq, hqn⟩ := cf.2.2.2.2
  have he : (wsO G w)[b]? = some (gB G + b, .inr (ci, flds (gB G) (w.2.2 b) 0 fks)) := by rw [wsO_get hb, hs]; rfl
  have hrec := va_recv C.2.2.2.2.2.1.2.1 hw hq he
  rw [hqn] at hrec
  exact vx_runV (As := av) (Ts := lw_G) ⟨C.1.1, C.1.2.1, C.1.2.2.1, C.1.2.2.2.2, C.2.1⟩ hM ⟨cf.1.callB C.2.1 cf.2.1 C.2.2.1.2.1 C.2.2.1.2.2.1, C.2.1 _ cf.2.2.1, C.2.1 _ cf.2.2.2.1⟩
    ⟨Pre0.blind, hrec, fun U hU hW => ⟨rfl, C.2.2.2.2.2.1.move hS hW hU, by rw [hU]; exact hw, fun h => by cases h⟩⟩ rfl rfl hl.1 hst (lv_room hrest) hd hR
/-- a static call of a method with handlers -/
def CfH (M M' : MD) (idx n : Nat) : Prop := mK M' ∈ lw_G ∧ mK M' = .codeWith (mY M') (mC M') (mL M') (mR M') (mH M') ∧ Cond.initialized (mY M').cls ∈ lw_G ∧ Cond.methodLink (mY M).cls idx (mY M') ∈ lw_G ∧ Cond.static (mY M') ∈ lw_G ∧
  ((mY M').cls ≠ "java/lang/invoke/MethodHandle" ∧ (mY M').cls ≠ "java/lang/invoke/VarHandle" ∧ (parseMethodDescriptor (mY M').desc).map (fun d => d.parameters.length) = some n) ∧ (mF M' + 1 ≤ mF M ∧ 8 + (mL M' + 11) + mO M' ≤ mO M)
theorem VW.callH (cf : CfH M M' idx av.length) (hd : decode (mC M) pc = .ok (.invokestatic idx, 3)) (hst : st = av.reverse ++ rest) (hrest : (rest.map fun v => v.category).sum ≤ 8)
    (hc : ∃ r1 : RT, Run G l false M' av w r1 ∧ ∃ v, r1.1 = .inl v ∧ VW G l z M (pc + 3) lv (v.toList ++ rest) r1.2.1 (k + r1.2.2.1) (n + r1.2.2.2) Φ) : VW G l z M pc lv st w k n Φ := by
  obtain ⟨r1, hM, v, hv, hk⟩ := hc
  refine VW.ofRun hv hk (av2 := av.toArray) fun r p e R s m args below meth c H locs ls C hR hl hw hS hup => ?_
  obtain ⟨c1, c2, c3, c4, c5, c6, c7⟩ := cf
  refine vx_runSX (hh := mH M') (As := av) (Ts := lw_G) (n := av.length) ⟨C.1.1, C.1.2.1, C.1.2.2.1, C.1.2.2.2.2, C.2.1⟩ hM
    (vx_cwSW av.length C.2.1 (fun w hw => ?_) (ws' := lw_G) (by unfold mW; rw [c2]) rfl rfl c6 ⟨Nat.le_trans c7.1 C.2.2.1.2.1, Nat.le_trans c7.2 C.2.2.1.2.2.1⟩)
    ⟨Pre0.blind, fun U hU hW => ⟨rfl, C.2.2.2.2.2.1.move hS hW hU, by rw [hU]; exact hw, fun h => by cases h⟩⟩ rfl rfl hl.1 hst (lv_room hrest) hd hR
  rcases List.mem_append.mp hw with h | h
  · have h9 : w ∈ lw_G := by
      rcases List.mem_cons.mp h with e | h
      · rw [e]; exact c4
      · rcases List.mem_cons.mp h with e | h
        · rw [e]; exact c5
        · rw [List.mem_singleton.mp h]; exact c3
    exact ⟨h9, inG_g h9⟩
  · exact mW_good c1 w h
end VX
