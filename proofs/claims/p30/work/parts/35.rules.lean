/-! ===== rules for the law's methods: shifts, methods that make arrays, the class's calls ===== -/
def arr (μ : Mem) (i : Nat) (L : List Int) : Prop := ∀ k : Int, 0 ≤ k ∧ k < L.length → μ i k.toNat = rat L k
theorem arr.same {μ μ' : Mem} {i : Nat} {L : List Int} (h : arr μ i L) (f : μ' i = μ i) : arr μ' i L := fun k hk => by rw [f]; exact h k hk
theorem arr.push {μ : Mem} {i : Nat} {L : List Int} {v : Int} (h : arr μ i L) : arr (mup μ i L.length v) i (L ++ [v]) := fun k hk => by
  rw [rat_snoc]
  by_cases e : k = L.length
  · subst e
    rw [if_pos rfl, Int.toNat_natCast, mup_s]
  · rw [if_neg e, mup_k (by omega)]
    simp at hk
    exact h k (by omega)
theorem arr.set {μ : Mem} {i : Nat} {L : List Int} {s v : Int} (h : arr μ i L) (hs : 0 ≤ s ∧ s < L.length) : arr (mup μ i s.toNat v) i (L.set s.toNat v) := fun k hk => by
  rw [List.length_set] at hk
  rw [rat_set hs hk]
  by_cases e : k = s
  · subst e
    rw [if_pos rfl, mup_s]
  · rw [if_neg e, mup_k (by omega)]
    exact h k hk
/-- all below n is as it was -/
def lo (n : Nat) (μ μ' : Mem) : Prop := ∃ b : Nat, frm μ μ' n b
theorem lo.rf {n : Nat} {μ : Mem} : lo n μ μ := ⟨0, fun _ _ => rfl⟩
theorem lo.at {n i : Nat} {μ μ' : Mem} (h : lo n μ μ') (hi : i < n) : μ' i = μ i := by
  obtain ⟨b, f⟩ := h
  exact f i (Or.inl hi)
theorem lo.tr {n m : Nat} {μ μ' μ'' : Mem} (h : lo n μ μ') (g : lo m μ' μ'') (hm : n ≤ m) : lo n μ μ'' := by
  obtain ⟨b, f⟩ := h
  obtain ⟨d, g⟩ := g
  exact ⟨b + d, fun i hi => (g i (by omega)).trans (f i (by omega))⟩
theorem lo.sub {n m : Nat} {μ μ' : Mem} (h : lo n μ μ') (hm : m ≤ n) : lo m μ μ' := by
  obtain ⟨b, f⟩ := h
  exact ⟨b, fun i hi => f i (by omega)⟩
def los (n : Nat) (sh sh' : Nat → ShT) : Prop := ∀ i, i < n → sh' i = sh i
theorem los.rf {n : Nat} {sh : Nat → ShT} : los n sh sh := fun _ _ => rfl
theorem los.tr {n m : Nat} {sh sh' sh'' : Nat → ShT} (h : los n sh sh') (g : los m sh' sh'') (hm : n ≤ m) : los n sh sh'' := fun i hi => (g i (by omega)).trans (h i hi)
theorem los.sub {n m : Nat} {sh sh' : Nat → ShT} (h : los n sh sh') (hm : m ≤ n) : los m sh sh' := fun i hi => h i (by omega)
theorem los.up {n m : Nat} {sh : Nat → ShT} {X : ShT} (hm : n ≤ m) : los n sh (fup sh m X) := fun i hi => fup_n (by omega)
theorem lo.up {n m : Nat} {μ : Mem} {f : Nat → Int} (hm : n ≤ m) : lo n μ (fup μ m f) := ⟨m + 1, fun i hi => fup_n (by omega)⟩
theorem lo.mu {n m k : Nat} {μ : Mem} {v : Int} (hm : n ≤ m) : lo n μ (mup μ m k v) := ⟨m + 1, fun i hi => mup_n (by omega)⟩
theorem frm.lo {n a b : Nat} {μ μ' : Mem} (h : frm μ μ' a b) (hn : n ≤ a) : lo n μ μ' := ⟨b, fun i hi => h i (by omega)⟩
/-- a method that may make arrays: what it answers, how many cells and slots at most, all that stood stays in its shape -/
def xaP (N : Nat) (sh : Nat → ShT) (cm sm : Nat) (Ψ : Int → Mem → Prop) : RT → Prop := fun r => ∃ a c s sh' μ', r = (.inl (some (vI a)), (N + c, sh', μ'), c, s) ∧ c ≤ cm ∧ s ≤ sm ∧ los N sh sh' ∧ Ψ a μ'
def Xa (G : GT) (l : Launch) (N : Nat) (sh : Nat → ShT) (M : MD) (av : List Value) (μ : Mem) (cm sm : Nat) (Ψ : Int → Mem → Prop) : Prop := ∃ r, Run G l true M av (N, sh, μ) r ∧ xaP N sh cm sm Ψ r
theorem Xa.of {G : GT} {l : Launch} (hst : l.stackTraces = false) {N cm sm : Nat} {sh : Nat → ShT} {M : MD} {av : List Value} {μ : Mem} {Ψ : Int → Mem → Prop} {lv : List (Nat × Value)} (hh : mH M = []) (hp : plainName (mY M).cls = true) (hav : (lg_sl av).length ≤ mL M) (hlv : lv_args 0 av = lv)
    (h : VW G l (some N) M 0 lv [] (N, sh, μ) 0 0 (xaP N sh cm sm Ψ)) : Xa G l N sh M av μ cm sm Ψ := by
  obtain ⟨r, a, b⟩ := h
  exact ⟨r, Run.of hst (t := true) hh hp hav (fun q hq => by rw [hlv]; exact hq) b, a⟩
theorem xaP.i {N N' cm sm c s : Nat} {sh sh' : Nat → ShT} {Ψ : Int → Mem → Prop} {a : Int} {μ' : Mem} (hN : N + c = N') (hc : c ≤ cm) (hs : s ≤ sm) (hl : los N sh sh') (h : Ψ a μ') : xaP N sh cm sm Ψ (.inl (some (vI a)), (N', sh', μ'), c, s) := by
  subst hN
  exact ⟨_, _, _, _, _, rfl, hc, hs, hl, h⟩
theorem Xa.mono {G : GT} {l : Launch} {N cm sm : Nat} {sh : Nat → ShT} {M : MD} {av : List Value} {μ : Mem} {Ψ Ψ' : Int → Mem → Prop} (h : Xa G l N sh M av μ cm sm Ψ) (f : ∀ a μ', Ψ a μ' → Ψ' a μ') : Xa G l N sh M av μ cm sm Ψ' := by
  obtain ⟨r, a, x, c, s, sh', μ', e, hc, hs, hl, b⟩ := h
  exact ⟨r, a, x, c, s, sh', μ', e, hc, hs, hl, f _ _ b⟩
section VR
variable {G : GT} {l : Launch} {z : Option Nat} {M M' : MD} {pc idx : Nat} {lv : List (Nat × Value)} {rest st av : List Value} {k n : Nat} {Φ : RT → Prop} {N : Nat} {sh : Nat → ShT} {μ : Mem}
theorem VW.dup_x2 {a b d : Value} {w : WT} (hd : decode (mC M) pc = .ok (.dup_x2, 1)) (ha : a.category = 1) (hb : b.category = 1) (hc : d.category = 1) (kk : VW G l z M (pc + 1) lv (a :: b :: d :: a :: rest) w k n Φ) : VW G l z M pc lv (a :: b :: d :: rest) w k n Φ :=
  VW.step ⟨Nat.le_refl _, Nat.le_refl _⟩ kk fun r p e R s m args below meth c H locs ls C hR hl hw hS kk => lv_dup_x2 C.1.1 C.1.2.1 hd ha hb hc (kk H locs ls hl hw hS)
theorem VW.ishrX {a b : Int} {w : WT} (hd : decode (mC M) pc = .ok (.ishr, 1)) (kk : ∀ x : Int, R32 x → VW G l z M (pc + 1) lv (vI x :: rest) w k n Φ) : VW G l z M pc lv (vI b :: vI a :: rest) w k n Φ :=
  VW.ishr (x := (Int32.ofInt a >>> (Int32.ofInt b &&& 31)).toInt) hd (Int32.ofInt_toInt _).symm (kk _ ⟨by have := (Int32.ofInt a >>> (Int32.ofInt b &&& 31)).le_toInt; omega, by have := (Int32.ofInt a >>> (Int32.ofInt b &&& 31)).toInt_lt; omega⟩)
theorem ushr1 (a : Int) : ∃ x : Int, (0 ≤ x ∧ x < 2147483648) ∧ ((Int32.ofInt a).toUInt32 >>> ((Int32.ofInt 1).toUInt32 &&& Int32.toUInt32 31)).toInt32 = Int32.ofInt x := by
  obtain ⟨u, hu⟩ : ∃ u, (Int32.ofInt a).toUInt32 = u := ⟨_, rfl⟩
  rw [hu, show ((Int32.ofInt 1).toUInt32 &&& Int32.toUInt32 31) = 1 from by decide]
  have h1 : (u >>> (1 : UInt32)).toNat = u.toNat / 2 := by
    rw [UInt32.toNat_shiftRight]
    show u.toNat >>> 1 = _
    rw [Nat.shiftRight_eq_div_pow]
  have h2 : u.toNat < 4294967296 := u.toNat_lt
  refine ⟨((u >>> (1 : UInt32)).toNat : Int), ⟨by omega, by rw [h1]; omega⟩, ?_⟩
  rw [Int32.ofInt_eq_ofNat]
  apply Int32.toBitVec_inj.mp
  simp
  apply BitVec.eq_of_toNat_eq
  rw [BitVec.toNat_ofNat, BitVec.toNat_ushiftRight]
  show u.toNat >>> 1 = (u.toNat >>> 1) % 2 ^ 32
  rw [Nat.shiftRight_eq_div_pow]
  omega
theorem VW.iushrX {a : Int} {w : WT} (hd : decode (mC M) pc = .ok (.iushr, 1)) (kk : ∀ x : Int, 0 ≤ x ∧ x < 2147483648 → VW G l z M (pc + 1) lv (vI x :: rest) w k n Φ) : VW G l z M pc lv (vI 1 :: vI a :: rest) w k n Φ := by
  obtain ⟨x, hx, e⟩ := ushr1 a
  exact VW.iushr (x := x) hd e (kk x hx)
theorem VW.nme {N' k' n' : Nat} (hN : N = N') (hk : k = k') (hn : n = n') (h : ∀ sh' μ', sh' = sh → μ' = μ → VW G l z M pc lv st (N', sh', μ') k' n' Φ) : VW G l z M pc lv st (N, sh, μ) k n Φ := by
  subst hN
  subst hk
  subst hn
  exact h _ _ rfl rfl
theorem VW.icmp_neS {a : Int} {off : Int} {w : WT} (tgt : Nat) (hd : decode (mC M) pc = .ok (.if_icmp .ne off, 3)) (ht : (pc : Int) + off = (tgt : Int)) (kf : VW G l z M (pc + 3) lv rest w k n Φ) : VW G l z M pc lv (vI a :: vI a :: rest) w k n Φ := by
  rw [← vI_w]
  exact VW.icmp_ne tgt (w32_R a) (w32_R a) hd ht (fun q => absurd rfl q) (fun _ => kf)
theorem VW.zvS {Ψ : Mem → Prop} (cf : CfS M M' idx av.length) (hd : decode (mC M) pc = .ok (.invokestatic idx, 3)) (hst : st = av.reverse ++ rest) (hrest : (rest.map fun v => v.category).sum ≤ 8) (h : Zv G l N sh M' av μ Ψ)
    (kk : ∀ μ', Ψ μ' → VW G l z M (pc + 3) lv rest (N, sh, μ') k n Φ) : VW G l z M pc lv st (N, sh, μ) k n Φ :=
  VW.ofFx h (by rintro v μ' ⟨rfl, hp⟩; exact kk μ' hp) fun r1 hr h2 => VW.callS (t := false) cf hd hst hrest (fun h => by cases h) ⟨r1, hr, h2⟩
theorem VW.ziS {Ψ : Int → Mem → Prop} (cf : CfS M M' idx av.length) (hd : decode (mC M) pc = .ok (.invokestatic idx, 3)) (hst : st = av.reverse ++ rest) (hrest : (rest.map fun v => v.category).sum ≤ 8) (h : Zi G l N sh M' av μ Ψ)
    (kk : ∀ a μ', Ψ a μ' → VW G l z M (pc + 3) lv (vI a :: rest) (N, sh, μ') k n Φ) : VW G l z M pc lv st (N, sh, μ) k n Φ :=
  VW.ofFx h (by rintro v μ' ⟨a, rfl, hp⟩; exact kk a μ' hp) fun r1 hr h2 => VW.callS (t := false) cf hd hst hrest (fun h => by cases h) ⟨r1, hr, h2⟩
theorem VW.zqS {Q : Int → Prop} (cf : CfS M M' idx av.length) (hd : decode (mC M) pc = .ok (.invokestatic idx, 3)) (hst : st = av.reverse ++ rest) (hrest : (rest.map fun v => v.category).sum ≤ 8) (h : Zi G l N sh M' av μ (fun r μ' => Q r ∧ μ' = μ))
    (kk : ∀ a, Q a → VW G l z M (pc + 3) lv (vI a :: rest) (N, sh, μ) k n Φ) : VW G l z M pc lv st (N, sh, μ) k n Φ :=
  VW.ziS cf hd hst hrest h (by rintro a μ' ⟨hq, rfl⟩; exact kk a hq)
theorem VW.nmm (h : ∀ μ', μ' = μ → VW G l z M pc lv st (N, sh, μ') k n Φ) : VW G l z M pc lv st (N, sh, μ) k n Φ := h _ rfl
theorem VW.xS {n0 cm sm : Nat} {Ψ : Int → Mem → Prop} (cf : CfS M M' idx av.length) (hd : decode (mC M) pc = .ok (.invokestatic idx, 3)) (hst : st = av.reverse ++ rest) (hrest : (rest.map fun v => v.category).sum ≤ 8) (hz : z = some n0) (hk : n0 + k = N) (h : Xa G l N sh M' av μ cm sm Ψ)
    (kk : ∀ a c s sh' μ', c ≤ cm → s ≤ sm → los N sh sh' → Ψ a μ' → VW G l z M (pc + 3) lv (vI a :: rest) (N + c, sh', μ') (k + c) (n + s) Φ) : VW G l z M pc lv st (N, sh, μ) k n Φ := by
  obtain ⟨r, hr, a, c, s, sh', μ', e, hc, hs, hl, b⟩ := h
  subst e
  exact VW.callS (t := true) cf hd hst hrest (fun _ => ⟨n0, hz, hk⟩) ⟨_, hr, _, rfl, kk a c s sh' μ' hc hs hl b⟩
theorem VW.gPc {fks : List FK} {q : QS} {E : Int → String} {r : Int} {A : AS} (cf : CfV M M' idx av.length 7) (hd : decode (mC M) pc = .ok (.invokevirtual idx, 3)) (hst : st = av.reverse ++ .ref (gB G + 0) :: rest) (hrest : (rest.map fun v => v.category).sum ≤ 8) (hN : 0 < N) (hs : sh 0 = sO 7 fks)
    (h : Fx G l N sh M' (.ref (gB G + 0) :: av) μ (gPo E q μ)) (e : q = ((0, r), A)) (kk : ∀ μ', hasA μ' A → frm μ μ' 0 273 → VW G l z M (pc + 3) lv (vI r :: rest) (N, sh, μ') k n Φ) : VW G l z M pc lv st (N, sh, μ) k n Φ := by
  subst e
  obtain ⟨r1, hr, o, μ', e, ho, hA, hf⟩ := h
  rw [if_pos rfl] at ho
  subst ho
  subst e
  exact VW.callV (t := false) cf hd hst hrest hN hs (fun h => by cases h) ⟨_, hr, _, rfl, kk μ' hA hf⟩
theorem VW.gLc {fks : List FK} {q : Int × Int} {E : Int → String} {r : Int} {A : AS} (cf : CfV M M' idx av.length 7) (hd : decode (mC M) pc = .ok (.invokevirtual idx, 3)) (hst : st = av.reverse ++ .ref (gB G + 0) :: rest) (hrest : (rest.map fun v => v.category).sum ≤ 8) (hN : 0 < N) (hs : sh 0 = sO 7 fks)
    (h : Fx G l N sh M' (.ref (gB G + 0) :: av) μ (gLo E q A μ)) (e : q = (0, r)) (kk : ∀ μ', hasA μ' A → frm μ μ' 0 273 → VW G l z M (pc + 3) lv (vI r :: rest) (N, sh, μ') k n Φ) : VW G l z M pc lv st (N, sh, μ) k n Φ := by
  subst e
  obtain ⟨r1, hr, o, μ', e, ho, hA, hf⟩ := h
  rw [if_pos rfl] at ho
  subst ho
  subst e
  exact VW.callV (t := false) cf hd hst hrest hN hs (fun h => by cases h) ⟨_, hr, _, rfl, kk μ' hA hf⟩
end VR
theorem isG.los {N N' : Nat} {sh sh' : Nat → ShT} (h : isG N sh) (f : los N sh sh') (hN : N ≤ N') : isG N' sh' := h.agr (fun i _ hi => f i (by have := h.1; omega)) hN
theorem hasA.keep {μ μ' : Mem} {A : AS} (h : hasA μ A) {lo hi : Nat} (f : frm μ μ' lo hi) (hl : 273 ≤ lo) : hasA μ' A := hasG.keep h f (by omega) (Or.inr (by omega))
theorem hasA.lo {μ μ' : Mem} {A : AS} (h : hasA μ A) {n : Nat} (f : lo n μ μ') (hn : 273 ≤ n) : hasA μ' A := by
  obtain ⟨b, f⟩ := f
  exact hasA.keep h f hn
