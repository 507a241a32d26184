/-! ===== runs, forgiving: the pure part ===== -/
theorem dirF_b (sx sy : Int) : ∀ (n : Nat) (d : Int), 0 ≤ d → -1 ≤ dirF sx sy n d ∧ dirF sx sy n d < d + n
  | 0, d, h => by show (-1 : Int) ≤ -1 ∧ (-1 : Int) < d + 0; omega
  | n + 1, d, h => by
    have h2 := dirF_b sx sy n (d + 1) (by omega)
    show -1 ≤ (if tbo 3 d = sx ∧ tbo 4 d = sy then d else dirF sx sy n (d + 1)) ∧ (if tbo 3 d = sx ∧ tbo 4 d = sy then d else dirF sx sy n (d + 1)) < d + ((n + 1 : Nat) : Int)
    by_cases h3 : tbo 3 d = sx ∧ tbo 4 d = sy
    · rw [if_pos h3]; omega
    · rw [if_neg h3]; omega
theorem sDir_b (xs ys : List Int) (i : Int) : -1 ≤ sDir xs ys i ∧ sDir xs ys i ≤ 7 := by
  have h := dirF_b (sgn (dif xs i)) (sgn (dif ys i)) 8 0 (by decide)
  unfold sDir
  omega
theorem sLen_b {xs ys : List Int} (hx : bnd xs 0 31) (hy : bnd ys 0 31) (i : Int) : 0 ≤ sLen xs ys i ∧ sLen xs ys i ≤ 31 := by
  have h1 := iabs_b (dif_b hx (i := i) (by decide))
  have h2 := iabs_b (dif_b hy (i := i) (by decide))
  unfold sLen
  omega
def nng (L : List Int) : Prop := ∀ x ∈ L, 0 ≤ x
theorem sum_nng : ∀ {L : List Int}, nng L → 0 ≤ L.sum
  | [], _ => by simp
  | x :: t, h => by
    have h1 := h x List.mem_cons_self
    have h2 := sum_nng (L := t) (fun y hy => h y (List.mem_cons_of_mem _ hy))
    simp only [List.sum_cons]
    omega
theorem mem_sum : ∀ {L : List Int}, nng L → ∀ x ∈ L, x ≤ L.sum
  | y :: t, h, x, hx => by
    have h0 := h y List.mem_cons_self
    have ht : nng t := fun z hz => h z (List.mem_cons_of_mem _ hz)
    have h2 := sum_nng ht
    simp only [List.sum_cons]
    rcases List.mem_cons.mp hx with rfl | hx
    · omega
    · have := mem_sum ht x hx
      omega
theorem sum_set : ∀ {L : List Int} {i : Nat} {v : Int}, i < L.length → (L.set i v).sum = L.sum - L.getD i 0 + v
  | x :: t, 0, v, _ => by simp [List.set, List.getD]; omega
  | x :: t, i + 1, v, h => by
    have h2 := sum_set (L := t) (i := i) (v := v) (by simpa using h)
    simp only [List.set_cons_succ, List.sum_cons, h2]
    simp only [List.getD, List.getElem?_cons_succ]
    omega
theorem sum_erase : ∀ {L : List Int} {i : Nat}, i < L.length → (L.eraseIdx i).sum = L.sum - L.getD i 0
  | x :: t, 0, _ => by simp [List.eraseIdx, List.getD]; omega
  | x :: t, i + 1, h => by
    have h2 := sum_erase (L := t) (i := i) (by simpa using h)
    simp only [List.eraseIdx_cons_succ, List.sum_cons, h2]
    simp only [List.getD, List.getElem?_cons_succ]
    omega
theorem rat_nat {L : List Int} {i : Nat} (h : i < L.length) : rat L i = L.getD i 0 := by unfold rat; rw [if_pos (by omega)]; rfl
theorem nng_set {L : List Int} {i : Nat} {v : Int} (h : nng L) (hv : 0 ≤ v) : nng (L.set i v) := fun x hx => by
  rcases List.mem_or_eq_of_mem_set hx with hx | rfl
  · exact h x hx
  · exact hv
theorem nng_erase {L : List Int} {i : Nat} (h : nng L) : nng (L.eraseIdx i) := fun x hx => h x (List.mem_of_mem_eraseIdx hx)
theorem bnd_erase {L : List Int} {i : Nat} {lo hi : Int} (h : bnd L lo hi) : bnd (L.eraseIdx i) lo hi := fun x hx => h x (List.mem_of_mem_eraseIdx hx)
theorem bnd_snoc {L : List Int} {lo hi v : Int} (h : bnd L lo hi) (hv : lo ≤ v ∧ v ≤ hi) : bnd (L ++ [v]) lo hi := fun x hx => by
  rcases List.mem_append.mp hx with hx | hx
  · exact h x hx
  · rw [List.mem_singleton.mp hx]; exact hv
theorem nng_rat {L : List Int} (h : nng L) (i : Int) : -1 ≤ rat L i ∧ (0 ≤ i ∧ i < L.length → 0 ≤ rat L i) := by
  by_cases h0 : 0 ≤ i ∧ i < L.length
  · have := h _ (rat_in h0.1 h0.2)
    omega
  · rw [rat_out (by omega)]; omega
theorem sum_rat {L : List Int} (h : nng L) (i : Int) : rat L i ≤ L.sum := by
  by_cases h0 : 0 ≤ i ∧ i < L.length
  · exact mem_sum h _ (rat_in h0.1 h0.2)
  · rw [rat_out (by omega)]; have := sum_nng h; omega
/-- a step joins the runs -/
def extR (q : List Int × List Int) (d n : Int) : List Int × List Int :=
  if d ≠ -1 ∧ d = rat q.1 (q.1.length - 1) then (q.1, q.2.set ((q.1.length : Int) - 1).toNat (rat q.2 (q.1.length - 1) + n)) else if d ≠ -1 then (q.1 ++ [d], q.2 ++ [n]) else q
def runsTo (xs ys : List Int) : Nat → List Int × List Int
  | 0 => ([], [])
  | k + 1 => extR (runsTo xs ys k) (sDir xs ys ((k : Int) + 1)) (sLen xs ys ((k : Int) + 1))
def rnD (xs ys : List Int) : List Int := (runsTo xs ys (xs.length - 1)).1
def rnL (xs ys : List Int) : List Int := (runsTo xs ys (xs.length - 1)).2
def okR (q : List Int × List Int) (k : Nat) : Prop := q.1.length = q.2.length ∧ q.1.length ≤ k ∧ bnd q.1 0 7 ∧ nng q.2 ∧ q.2.sum ≤ 31 * (k : Int)
theorem extR_ok {q : List Int × List Int} {k : Nat} {d n : Int} (h : okR q k) (hd : -1 ≤ d ∧ d ≤ 7) (hn : 0 ≤ n ∧ n ≤ 31) : okR (extR q d n) (k + 1) := by
  obtain ⟨h1, h2, h3, h4, h5⟩ := h
  unfold extR
  by_cases c1 : d ≠ -1 ∧ d = rat q.1 (q.1.length - 1)
  · rw [if_pos c1]
    have hl : 0 < q.1.length := by
      rcases Nat.eq_zero_or_pos q.1.length with e | e
      · exfalso
        rw [rat_out (by omega)] at c1
        exact c1.1 c1.2
      · exact e
    have hr : rat q.2 (q.1.length - 1) = q.2.getD ((q.1.length : Int) - 1).toNat 0 := by unfold rat; rw [if_pos (by omega)]
    have h0 := (nng_rat h4 ((q.1.length : Int) - 1)).2 (by omega)
    refine ⟨by simpa using h1, by simp; omega, h3, nng_set h4 (by omega), ?_⟩
    show (q.2.set _ _).sum ≤ _
    rw [sum_set (by omega), hr]
    omega
  · rw [if_neg c1]
    by_cases c2 : d ≠ -1
    · rw [if_pos c2]
      refine ⟨by simp [h1], by simp; omega, bnd_snoc h3 (by omega), fun x hx => ?_, by simp; omega⟩
      rcases List.mem_append.mp hx with hx | hx
      · exact h4 x hx
      · rw [List.mem_singleton.mp hx]; exact hn.1
    · rw [if_neg c2]
      exact ⟨h1, by omega, h3, h4, by omega⟩
theorem runsTo_ok {xs ys : List Int} (hx : bnd xs 0 31) (hy : bnd ys 0 31) : ∀ k, okR (runsTo xs ys k) k
  | 0 => ⟨rfl, by simp [runsTo], fun x hx => by simp [runsTo] at hx, fun x hx => by simp [runsTo] at hx, by simp [runsTo]⟩
  | k + 1 => extR_ok (runsTo_ok hx hy k) (sDir_b _ _ _) (sLen_b hx hy _)
-- forgiving
def fdF (K Ln : List Int) (s0 s1 : Int) : Nat → Int → Int
  | 0, _ => -1
  | n + 1, p => if rat Ln p < s0 ∨ isCut K Ln p s1 = true then p else fdF K Ln s0 s1 n (p + 1)
def fdrop (K Ln : List Int) (s0 s1 : Int) : Int := fdF K Ln s0 s1 K.length 0
theorem fdF_b (K Ln : List Int) (s0 s1 : Int) : ∀ (n : Nat) (p : Int), fdF K Ln s0 s1 n p = -1 ∨ (p ≤ fdF K Ln s0 s1 n p ∧ fdF K Ln s0 s1 n p < p + n)
  | 0, p => Or.inl rfl
  | n + 1, p => by
    have h2 := fdF_b K Ln s0 s1 n (p + 1)
    show (if rat Ln p < s0 ∨ isCut K Ln p s1 = true then p else fdF K Ln s0 s1 n (p + 1)) = -1 ∨ (p ≤ (if rat Ln p < s0 ∨ isCut K Ln p s1 = true then p else fdF K Ln s0 s1 n (p + 1)) ∧ (if rat Ln p < s0 ∨ isCut K Ln p s1 = true then p else fdF K Ln s0 s1 n (p + 1)) < p + ((n + 1 : Nat) : Int))
    by_cases h : rat Ln p < s0 ∨ isCut K Ln p s1 = true
    · rw [if_pos h]; omega
    · rw [if_neg h]; omega
theorem fdrop_b (K Ln : List Int) (s0 s1 : Int) : fdrop K Ln s0 s1 = -1 ∨ (0 ≤ fdrop K Ln s0 s1 ∧ fdrop K Ln s0 s1 < K.length) := by
  have h := fdF_b K Ln s0 s1 K.length 0
  unfold fdrop
  omega
def dropA (K Ln : List Int) (p : Int) : List Int × List Int :=
  if 1 ≤ p ∧ p < (K.eraseIdx p.toNat).length ∧ rat (K.eraseIdx p.toNat) (p - 1) = rat (K.eraseIdx p.toNat) p then
    ((K.eraseIdx p.toNat).eraseIdx p.toNat, ((Ln.eraseIdx p.toNat).set (p - 1).toNat (rat (Ln.eraseIdx p.toNat) (p - 1) + rat (Ln.eraseIdx p.toNat) p)).eraseIdx p.toNat)
  else (K.eraseIdx p.toNat, Ln.eraseIdx p.toNat)
def fgv (s0 s1 : Int) : Nat → (List Int × List Int) × Int → (List Int × List Int) × Int
  | 0, q => q
  | n + 1, q => if q.1.1.length ≤ 1 then q else if fdrop q.1.1 q.1.2 s0 s1 = -1 then q else fgv s0 s1 n (dropA q.1.1 q.1.2 (fdrop q.1.1 q.1.2 s0 s1), q.2 + 1)
def okF (K Ln : List Int) : Prop := K.length = Ln.length ∧ K.length ≤ 40 ∧ bnd K 0 7 ∧ nng Ln ∧ Ln.sum ≤ 2000
theorem okF_erase {K Ln : List Int} {i : Nat} (h : okF K Ln) (hi : i < K.length) : okF (K.eraseIdx i) (Ln.eraseIdx i) := by
  obtain ⟨h1, h2, h3, h4, h5⟩ := h
  have h6 := h4 (Ln.getD i 0) (by have : i < Ln.length := by omega
                                  simp [List.getD, this])
  refine ⟨by rw [List.length_eraseIdx, List.length_eraseIdx, h1], by rw [List.length_eraseIdx]; split <;> omega, bnd_erase h3, nng_erase h4, by rw [sum_erase (by omega)]; omega⟩
theorem dropA_ok {K Ln : List Int} {p : Int} (h : okF K Ln) (hp : 0 ≤ p ∧ p < K.length) : okF (dropA K Ln p).1 (dropA K Ln p).2 := by
  have h1 := okF_erase (i := p.toNat) h (by omega)
  unfold dropA
  by_cases c : 1 ≤ p ∧ p < (K.eraseIdx p.toNat).length ∧ rat (K.eraseIdx p.toNat) (p - 1) = rat (K.eraseIdx p.toNat) p
  · rw [if_pos c]
    obtain ⟨g1, g2, g3, g4, g5⟩ := h1
    have r1 := (nng_rat g4 (p - 1)).2 (by omega)
    have r2 := (nng_rat g4 p).2 (by omega)
    have e1 : rat (Ln.eraseIdx p.toNat) (p - 1) = (Ln.eraseIdx p.toNat).getD (p - 1).toNat 0 := by unfold rat; rw [if_pos (by omega)]
    have e2 : rat (Ln.eraseIdx p.toNat) p = (Ln.eraseIdx p.toNat).getD p.toNat 0 := by unfold rat; rw [if_pos (by omega)]
    refine ⟨by simp only [List.length_eraseIdx, List.length_set, h.1], by rw [List.length_eraseIdx]; split <;> omega, bnd_erase g3, nng_erase (nng_set g4 (by omega)), ?_⟩
    show (((Ln.eraseIdx p.toNat).set (p - 1).toNat _).eraseIdx p.toNat).sum ≤ 2000
    rw [sum_erase (by rw [List.length_set]; omega), sum_set (by omega), show ((Ln.eraseIdx p.toNat).set (p - 1).toNat (rat (Ln.eraseIdx p.toNat) (p - 1) + rat (Ln.eraseIdx p.toNat) p)).getD p.toNat 0 = (Ln.eraseIdx p.toNat).getD p.toNat 0 from by unfold List.getD; rw [List.getElem?_set, if_neg (by omega)]]
    omega
  · rw [if_neg c]
    exact h1
theorem fgv_ok (s0 s1 : Int) : ∀ (n : Nat) (q : (List Int × List Int) × Int), okF q.1.1 q.1.2 → okF (fgv s0 s1 n q).1.1 (fgv s0 s1 n q).1.2
  | 0, q, h => h
  | n + 1, q, h => by
    show okF (if q.1.1.length ≤ 1 then q else if fdrop q.1.1 q.1.2 s0 s1 = -1 then q else fgv s0 s1 n (dropA q.1.1 q.1.2 (fdrop q.1.1 q.1.2 s0 s1), q.2 + 1)).1.1 (if q.1.1.length ≤ 1 then q else if fdrop q.1.1 q.1.2 s0 s1 = -1 then q else fgv s0 s1 n (dropA q.1.1 q.1.2 (fdrop q.1.1 q.1.2 s0 s1), q.2 + 1)).1.2
    by_cases c1 : q.1.1.length ≤ 1
    · rw [if_pos c1]; exact h
    · rw [if_neg c1]
      by_cases c2 : fdrop q.1.1 q.1.2 s0 s1 = -1
      · rw [if_pos c2]; exact h
      · rw [if_neg c2]
        have h3 := fdrop_b q.1.1 q.1.2 s0 s1
        exact fgv_ok s0 s1 n _ (dropA_ok h (by omega))
/-- the stroke, its lengths, how many are dropped -/
def fgvOf (xs ys S : List Int) : (List Int × List Int) × Int := fgv (rat S 0) (rat S 1) 40 ((rnD xs ys, rnL xs ys), 0)
def stk (xs ys S : List Int) : List Int := (fgvOf xs ys S).1.1
def dstOf (S D C : List Int) : Int := costF (rat S 3) (rat S 2) D (KL C) C.length
def rstOf (S D C : List Int) : Int := lrF (costF (rat S 3) (rat S 2) D (KL C)) C.length (rat S 4) (C.length + 1) 0
theorem rn_ok {xs ys : List Int} (hx : bnd xs 0 31) (hy : bnd ys 0 31) (hl : xs.length ≤ 41) : okF (rnD xs ys) (rnL xs ys) := by
  obtain ⟨h1, h2, h3, h4, h5⟩ := runsTo_ok hx hy (xs.length - 1)
  exact ⟨h1, by show (runsTo xs ys (xs.length - 1)).1.length ≤ 40; omega, h3, h4, by show (runsTo xs ys (xs.length - 1)).2.sum ≤ 2000; omega⟩
theorem stk_ok {xs ys S : List Int} (hx : bnd xs 0 31) (hy : bnd ys 0 31) (hl : xs.length ≤ 41) : (stk xs ys S).length ≤ 40 ∧ bnd (stk xs ys S) 0 7 := by
  have h := fgv_ok (rat S 0) (rat S 1) 40 ((rnD xs ys, rnL xs ys), 0) (rn_ok hx hy hl)
  exact ⟨h.2.1, h.2.2.1⟩
theorem lrF_b (c : Nat → Int) (n f : Int) : ∀ (k : Nat) (r : Int), lrF c n f k r = -1 ∨ (r ≤ lrF c n f k r ∧ lrF c n f k r < r + k)
  | 0, r => Or.inl rfl
  | k + 1, r => by
    have h2 := lrF_b c n f k (r + 1)
    show (if c (n - r).toNat ≤ f then r else lrF c n f k (r + 1)) = -1 ∨ (r ≤ (if c (n - r).toNat ≤ f then r else lrF c n f k (r + 1)) ∧ (if c (n - r).toNat ≤ f then r else lrF c n f k (r + 1)) < r + ((k + 1 : Nat) : Int))
    by_cases h : c (n - r).toNat ≤ f
    · rw [if_pos h]; omega
    · rw [if_neg h]; omega
theorem dstOf_b {S : List Int} (hw : wfS S) (D C : List Int) (hD : D.length ≤ 40) (hC : C.length ≤ 8) : 0 ≤ dstOf S D C ∧ dstOf S D C ≤ 1000 := by
  obtain ⟨h0, h1, h2, h3, h4, h5⟩ := hw
  have h := costF_b (gap := rat S 3) (turn := rat S 2) (K := KL C) (by omega) (by omega) D C.length
  unfold dstOf
  omega
