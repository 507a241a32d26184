/-! ===== the model: beginnings, what may be learnt ===== -/
theorem lrF_spec (c : Nat → Int) (n f : Int) : ∀ (k : Nat) (r : Int), (lrF c n f k r = -1 ∧ ∀ i, r ≤ i ∧ i < r + k → ¬ c (n - i).toNat ≤ f) ∨ (r ≤ lrF c n f k r ∧ lrF c n f k r < r + k ∧ c (n - lrF c n f k r).toNat ≤ f ∧ ∀ i, r ≤ i ∧ i < lrF c n f k r → ¬ c (n - i).toNat ≤ f)
  | 0, r => Or.inl ⟨rfl, fun i hi => by omega⟩
  | k + 1, r => by
    have ih := lrF_spec c n f k (r + 1)
    by_cases h : c (n - r).toNat ≤ f
    · have e : lrF c n f (k + 1) r = r := if_pos h
      rw [e]
      exact Or.inr ⟨by omega, by omega, h, fun i hi => by omega⟩
    · have e : lrF c n f (k + 1) r = lrF c n f k (r + 1) := if_neg h
      rw [e]
      rcases ih with ⟨a, b⟩ | ⟨a, b, d, g⟩
      · refine Or.inl ⟨a, fun i hi => ?_⟩
        by_cases hi2 : i = r
        · rw [hi2]; exact h
        · exact b i (by omega)
      · refine Or.inr ⟨by omega, by omega, d, fun i hi => ?_⟩
        by_cases hi2 : i = r
        · rw [hi2]; exact h
        · exact g i (by omega)
def lgOf (S D L : List Int) : Int := if rstOf S D L = -1 then -1 else (L.length : Int) - rstOf S D L
theorem lg_end {c : Nat → Int} {n : Nat} {f x : Int} (h : (x = -1 ∧ ∀ i : Int, 0 ≤ i ∧ i < n + 1 → ¬ c i.toNat ≤ f) ∨ (0 ≤ x ∧ x < n + 1 ∧ c x.toNat ≤ f ∧ ∀ i : Int, x < i ∧ i < n + 1 → ¬ c i.toNat ≤ f)) : (if lrF c n f (n + 1) 0 = -1 then -1 else (n : Int) - lrF c n f (n + 1) 0) = x := by
  rcases lrF_spec c n f (n + 1) 0 with ⟨a, b⟩ | ⟨a, b, d, g⟩
  · rw [if_pos a]
    rcases h with h | h
    · exact h.1.symm
    · exact absurd h.2.2.1 (by have := b ((n : Int) - x) (by omega); rwa [show ((n : Int) - ((n : Int) - x)) = x by omega] at this)
  · rw [if_neg (by omega)]
    rcases h with h | h
    · exact absurd d (h.2 _ (by omega))
    · rcases (by omega : (n : Int) - lrF c n f (n + 1) 0 < x ∨ (n : Int) - lrF c n f (n + 1) 0 = x ∨ x < (n : Int) - lrF c n f (n + 1) 0) with q | q | q
      · exact absurd h.2.2.1 (by have := g ((n : Int) - x) (by omega); rwa [show ((n : Int) - ((n : Int) - x)) = x by omega] at this)
      · exact q
      · exact absurd d (h.2.2.2 _ (by omega))
-- masks
def msN (R : List Int) : Nat → Int
  | 0 => 0
  | c + 1 => if rat R c ≠ -1 then msN R c + 2 ^ c else msN R c
def scN (R : List Int) : Nat → Int × Int
  | 0 => (0, -1)
  | c + 1 => if rat R c ≠ -1 then ((scN R c).1 + 1, rat R c) else scN R c
theorem msF_N (R : List Int) : ∀ (n c : Nat), msF R n c (msN R c) = msN R (c + n)
  | 0, c => rfl
  | n + 1, c => by
    have e : (if rat R (c : Int) ≠ -1 then msN R c + 2 ^ (c : Int).toNat else msN R c) = msN R (c + 1) := by rw [Int.toNat_natCast]; rfl
    show msF R n ((c : Int) + 1) (if rat R (c : Int) ≠ -1 then msN R c + 2 ^ (c : Int).toNat else msN R c) = _
    rw [e, show (c : Int) + 1 = ((c + 1 : Nat) : Int) by omega, msF_N R n (c + 1)]
    congr 1
    omega
theorem scF_N (R : List Int) : ∀ (n c : Nat), scF R n c (scN R c) = scN R (c + n)
  | 0, c => rfl
  | n + 1, c => by
    have e : (if rat R (c : Int) ≠ -1 then ((scN R c).1 + 1, rat R (c : Int)) else scN R c) = scN R (c + 1) := rfl
    show scF R n ((c : Int) + 1) (if rat R (c : Int) ≠ -1 then ((scN R c).1 + 1, rat R (c : Int)) else scN R c) = _
    rw [e, show (c : Int) + 1 = ((c + 1 : Nat) : Int) by omega, scF_N R n (c + 1)]
    congr 1
    omega
theorem pow_lt {a b : Nat} (h : a < b) : (2 : Int) ^ a < 2 ^ b := by
  have := Nat.pow_lt_pow_right (a := 2) (by decide) h
  rw [← pow_c, ← pow_c]
  omega
theorem pow_le {a b : Nat} (h : a ≤ b) : (2 : Int) ^ a ≤ 2 ^ b := by
  rcases Nat.lt_or_ge a b with q | q
  · have := pow_lt q; omega
  · rw [show a = b by omega]; omega
theorem pow_s2 (c : Nat) : (2 : Int) ^ (c + 1) = 2 ^ c + 2 ^ c := by rw [Int.pow_succ]; omega
theorem pow_btw {c : Nat} {m : Int} (h : 2 ^ c < m ∧ m < 2 ^ (c + 1)) (d : Nat) : m ≠ 2 ^ d := fun e => by
  rcases Nat.lt_or_ge c d with q | q
  · have := pow_le (show c + 1 ≤ d from q); omega
  · have := pow_le q; omega
theorem pow_inj {a b : Nat} (h : (2 : Int) ^ a = 2 ^ b) : a = b := by
  rcases Nat.lt_trichotomy a b with q | q | q
  · have := pow_lt q; omega
  · exact q
  · have := pow_lt q; omega
theorem msN_b (R : List Int) : ∀ c, 0 ≤ msN R c ∧ msN R c < 2 ^ c
  | 0 => by show (0 : Int) ≤ 0 ∧ (0 : Int) < 2 ^ 0; decide
  | c + 1 => by
    have h := msN_b R c
    have hp := pow_p c
    rw [pow_s2]
    show 0 ≤ (if rat R c ≠ -1 then msN R c + 2 ^ c else msN R c) ∧ (if rat R c ≠ -1 then msN R c + 2 ^ c else msN R c) < _
    split <;> omega
theorem ms_sc (R : List Int) : ∀ c, ((scN R c).1 = 0 ∧ msN R c = 0) ∨ ((scN R c).1 = 1 ∧ ∃ d : Nat, d < c ∧ msN R c = 2 ^ d ∧ (scN R c).2 = rat R d ∧ rat R d ≠ -1) ∨ (2 ≤ (scN R c).1 ∧ 0 < msN R c ∧ ∀ d : Nat, msN R c ≠ 2 ^ d)
  | 0 => Or.inl ⟨rfl, rfl⟩
  | c + 1 => by
    have ih := ms_sc R c
    have hb := msN_b R c
    have hp := pow_p c
    by_cases h : rat R c ≠ -1
    · have e1 : msN R (c + 1) = msN R c + 2 ^ c := if_pos h
      have e2 : scN R (c + 1) = ((scN R c).1 + 1, rat R c) := if_pos h
      rw [e1, e2]
      rcases ih with ⟨a, b⟩ | ⟨a, d, h1, h2, h3, h4⟩ | ⟨a, b, d⟩
      · exact Or.inr (Or.inl ⟨by show (scN R c).1 + 1 = 1; omega, c, by omega, by omega, rfl, h⟩)
      · refine Or.inr (Or.inr ⟨by show 2 ≤ (scN R c).1 + 1; omega, by omega, fun q => ?_⟩)
        have := pow_p d
        exact pow_btw (c := c) (by rw [pow_s2]; omega) q
      · refine Or.inr (Or.inr ⟨by show 2 ≤ (scN R c).1 + 1; omega, by omega, fun q => ?_⟩)
        exact pow_btw (c := c) (by rw [pow_s2]; omega) q
    · have e1 : msN R (c + 1) = msN R c := if_neg h
      have e2 : scN R (c + 1) = scN R c := if_neg h
      rw [e1, e2]
      rcases ih with ih | ⟨a, d, h1, h2, h3, h4⟩ | ih
      · exact Or.inl ih
      · exact Or.inr (Or.inl ⟨a, d, by omega, h2, h3, h4⟩)
      · exact Or.inr (Or.inr ih)
def tcF (R : List Int) (M : Int) : Nat → Int → Int → Int
  | 0, _, f => f
  | n + 1, c, f => tcF R M n (c + 1) (if M = 2 ^ c.toNat then rat R c else f)
theorem tcF_no {R : List Int} {M : Int} (h : ∀ d : Nat, M ≠ 2 ^ d) : ∀ (n : Nat) (c f : Int), tcF R M n c f = f
  | 0, c, f => rfl
  | n + 1, c, f => by
    show tcF R M n (c + 1) (if M = 2 ^ c.toNat then rat R c else f) = f
    rw [if_neg (h _)]
    exact tcF_no h n _ _
theorem tcF_yes {R : List Int} {d : Nat} : ∀ (n : Nat) (c : Nat) (f : Int), tcF R (2 ^ d) n c f = if c ≤ d ∧ d < c + n then rat R d else f
  | 0, c, f => by rw [if_neg (by omega)]; rfl
  | n + 1, c, f => by
    show tcF R (2 ^ d) n ((c : Int) + 1) (if (2 : Int) ^ d = 2 ^ (c : Int).toNat then rat R c else f) = _
    rw [show (c : Int) + 1 = ((c + 1 : Nat) : Int) by omega, tcF_yes n (c + 1), Int.toNat_natCast]
    by_cases h : d = c
    · subst h
      rw [if_neg (by omega), if_pos rfl, if_pos (by omega)]
    · rw [if_neg (show ¬ (2 : Int) ^ d = 2 ^ c from fun q => h (pow_inj q))]
      by_cases h2 : c ≤ d ∧ d < c + (n + 1)
      · rw [if_pos h2, if_pos (by omega)]
      · rw [if_neg h2, if_neg (by omega)]
theorem mask_N (R : List Int) : maskOf R = msN R R.length := by
  have h := msF_N R R.length 0
  rw [Nat.zero_add] at h
  exact h
theorem tc_come (R : List Int) : tcF R (maskOf R) R.length 0 (-1) = comeOf R := by
  have hs : scF R R.length 0 (0, -1) = scN R R.length := by
    have h := scF_N R R.length 0
    rw [Nat.zero_add] at h
    exact h
  unfold comeOf
  rw [mask_N, hs]
  rcases ms_sc R R.length with ⟨a, b⟩ | ⟨a, d, h1, h2, h3, h4⟩ | ⟨a, b, d⟩
  · rw [b, if_neg (by omega)]
    exact tcF_no (fun d => by have := pow_p d; omega) _ _ _
  · rw [h2, if_pos a, h3]
    have := tcF_yes (R := R) (d := d) R.length 0 (-1)
    rw [if_pos (by omega)] at this
    exact this
  · rw [if_neg (by omega)]
    exact tcF_no d _ _ _
theorem mask_pow {R : List Int} {c : Int} (h0 : 0 ≤ c) (h : maskOf R = 2 ^ c.toNat) : rat R c ≠ -1 := by
  rw [mask_N] at h
  rcases ms_sc R R.length with ⟨a, b⟩ | ⟨a, d, h1, h2, h3, h4⟩ | ⟨a, b, d⟩
  · have := pow_p c.toNat; omega
  · have := pow_inj (h2.symm.trans h)
    rw [show c = ((d : Nat) : Int) by omega]
    exact h4
  · exact absurd h (d _)
theorem mask_b {R : List Int} (h : R.length ≤ 10) : 0 ≤ maskOf R ∧ maskOf R ≤ 1024 := by
  rw [mask_N]
  have h1 := msN_b R R.length
  have h2 := pow_le h
  rw [show (2 : Int) ^ 10 = 1024 from by decide] at h2
  omega
section PO
variable {G : GT} {l : Launch} {N : Nat} {sh : Nat → ShT} {μ μ' : Mem} {xs ys S D Ln : List Int} {C : List (List Int)} {v lo hi : Int}
theorem lp_X8_lg (hst : l.stackTraces = false) (hm : isM N sh) (hz : zR (μ 274) xs ys C S) (ok : okS ((xs, ys), C, S)) {c : Int} (hc : 0 ≤ c ∧ c < C.length) (hDl : D.length ≤ 40) (hs : sumR μ (costF (rat S 3) (rat S 2) D (KL (C.getD c.toNat []))) (C.getD c.toNat []).length) : ∀ (n : Nat) (j x : Int), 0 ≤ j → j + n = ((C.getD c.toNat []).length : Int) + 1 → ((x = -1 ∧ ∀ i : Int, 0 ≤ i ∧ i < j → ¬ (costF (rat S 3) (rat S 2) D (KL (C.getD c.toNat []))) i.toNat ≤ rat S 4) ∨ (0 ≤ x ∧ x < j ∧ (costF (rat S 3) (rat S 2) D (KL (C.getD c.toNat []))) x.toNat ≤ rat S 4 ∧ ∀ i : Int, x < i ∧ i < j → ¬ (costF (rat S 3) (rat S 2) D (KL (C.getD c.toNat []))) i.toNat ≤ rat S 4)) → VW G l none M_X8_longestBeginning 9 [(0, .ref (gB G + 273)), (1, vI c), (2, vI x), (3, vI j)] [] (N, sh, μ) 0 0 (fxP N sh (oN (vN_i (fun r μ' => r = lgOf S D (C.getD c.toNat []) ∧ μ' = μ)))) := by
  obtain ⟨⟨ok1, ok2, ok3, ok4⟩, ⟨ok5, ok6, ok7⟩, ok8⟩ := okS.un ok
  obtain ⟨hw5, hw0, hw1, hw2, hw3, hw4⟩ := id ok8
  have z6 : μ 274 6 = (C.length : Int) := hz.2.2.1
  have zc := hz.2.2.2.2 c hc
  have l8 := ok6 _ (getD_mem C (i := c.toNat) (by omega))
  have z4 : μ 274 4 = rat S 4 := hz.1 4 (by omega)
  intro n
  induction n with
  | zero =>
    intro j x h1 h2 hx
    refine VW.iload_n dX8_longestBeginning_9 rfl ?_
    refine VW.aload_n dX8_longestBeginning_10 rfl ?_
    refine VW.iload_n dX8_longestBeginning_11 rfl ?_
    refine VW.pV1 cv_X8_longestBeginning_X8_directionsOf dX8_longestBeginning_12 (Nat.le_of_ble_eq_true rfl) (by have := hm.1; omega) hm.2.1 (t_directionsOf hst hm hz ok hc) ?_
    refine VW.icmp_gt 45 ⟨by omega, by omega⟩ ⟨by omega, by omega⟩ dX8_longestBeginning_15 (by decide) (fun c15 => ?_) (fun c15 => by omega)
    refine VW.iload_n dX8_longestBeginning_45 rfl ?_
    refine VW.ireturn dX8_longestBeginning_46 rfl rfl ?_
    obtain rfl : j = ((C.getD c.toNat []).length : Int) + 1 := by omega
    refine fxP.ii ⟨?_, rfl⟩
    exact (lg_end hx).symm
  | succ n ih =>
    intro j x h1 h2 hx
    refine VW.iload_n dX8_longestBeginning_9 rfl ?_
    refine VW.aload_n dX8_longestBeginning_10 rfl ?_
    refine VW.iload_n dX8_longestBeginning_11 rfl ?_
    refine VW.pV1 cv_X8_longestBeginning_X8_directionsOf dX8_longestBeginning_12 (Nat.le_of_ble_eq_true rfl) (by have := hm.1; omega) hm.2.1 (t_directionsOf hst hm hz ok hc) ?_
    refine VW.icmp_gt 45 ⟨by omega, by omega⟩ ⟨by omega, by omega⟩ dX8_longestBeginning_15 (by decide) (fun c15 => by omega) (fun c15 => ?_)
    have hsj := hs j (by omega)
    have cb := costF_b (gap := rat S 3) (turn := rat S 2) (K := KL (C.getD c.toNat [])) ⟨by omega, by omega⟩ ⟨by omega, by omega⟩ D j.toNat
    refine VW.aload_n dX8_longestBeginning_18 rfl ?_
    refine VW.getR dX8_longestBeginning_19 fa_X8_34 (by have := hm.1; omega) hm.2.1 rfl ?_
    refine VW.iload_n dX8_longestBeginning_22 rfl ?_
    refine VW.iaload dX8_longestBeginning_23 (by have := hm.1; omega) hm.2.2.2.2.2.2.2.2.2.2.1 (by omega) (by omega) (by decide) ?_
    rw [hsj]
    refine VW.aload_n dX8_longestBeginning_24 rfl ?_
    refine VW.getR dX8_longestBeginning_25 fa_X8_7 (by have := hm.1; omega) hm.2.1 rfl ?_
    refine VW.iconst dX8_longestBeginning_28 ?_
    refine VW.iaload dX8_longestBeginning_29 (by have := hm.1; omega) hm.2.2.1 (by omega) (by omega) (by decide) ?_
    rw [show (4 : Int).toNat = 4 from rfl, z4]
    refine VW.icmp_gt 37 ⟨by omega, by omega⟩ ⟨by omega, by omega⟩ dX8_longestBeginning_30 (by decide) (fun c30 => ?_) (fun c30 => ?_)
    · refine VW.iload_n dX8_longestBeginning_37 rfl ?_
      refine VW.istore_n (lv' := [(0, _), (1, _), (2, _), (3, _)]) dX8_longestBeginning_38 (by decide) rfl ?_
      refine VW.iinc (lv' := [(0, _), (1, _), (2, _), (3, _)]) dX8_longestBeginning_39 rfl (by decide) rfl ?_
      refine VW.goto 9 dX8_longestBeginning_42 (by decide) ?_
      refine VW.sub ?_ [0, 1, 2, 3] rfl
      first
      | (refine ih (j + 1) j (by omega) (by omega) (Or.inr ⟨by omega, by omega, by omega, fun i hi => by omega⟩); done)
      | (refine ih (j + 1) x (by omega) (by omega) ?_
         have c31 : ¬ (costF (rat S 3) (rat S 2) D (KL (C.getD c.toNat []))) j.toNat ≤ rat S 4 := by omega
         rcases hx with hx | hx
         · refine Or.inl ⟨hx.1, fun i hi => ?_⟩
           by_cases e : i = j
           · rw [e]; exact c31
           · exact hx.2 i (by omega)
         · refine Or.inr ⟨hx.1, by omega, hx.2.2.1, fun i hi => ?_⟩
           by_cases e : i = j
           · rw [e]; exact c31
           · exact hx.2.2.2 i (by omega))
    · refine VW.iload_n dX8_longestBeginning_33 rfl ?_
      refine VW.goto 38 dX8_longestBeginning_34 (by decide) ?_
      refine VW.istore_n (lv' := [(0, _), (1, _), (2, _), (3, _)]) dX8_longestBeginning_38 (by decide) rfl ?_
      refine VW.iinc (lv' := [(0, _), (1, _), (2, _), (3, _)]) dX8_longestBeginning_39 rfl (by decide) rfl ?_
      refine VW.goto 9 dX8_longestBeginning_42 (by decide) ?_
      refine VW.sub ?_ [0, 1, 2, 3] rfl
      first
      | (refine ih (j + 1) j (by omega) (by omega) (Or.inr ⟨by omega, by omega, by omega, fun i hi => by omega⟩); done)
      | (refine ih (j + 1) x (by omega) (by omega) ?_
         have c31 : ¬ (costF (rat S 3) (rat S 2) D (KL (C.getD c.toNat []))) j.toNat ≤ rat S 4 := by omega
         rcases hx with hx | hx
         · refine Or.inl ⟨hx.1, fun i hi => ?_⟩
           by_cases e : i = j
           · rw [e]; exact c31
           · exact hx.2 i (by omega)
         · refine Or.inr ⟨hx.1, by omega, hx.2.2.1, fun i hi => ?_⟩
           by_cases e : i = j
           · rw [e]; exact c31
           · exact hx.2.2.2 i (by omega))
theorem t_longestBeginning (hst : l.stackTraces = false) (hm : isM N sh) (hz : zR (μ 274) xs ys C S) (ok : okS ((xs, ys), C, S)) {c : Int} (hc : 0 ≤ c ∧ c < C.length) (hK : hasK μ D) (hDl : D.length ≤ 40) (hDb : bnd D 0 7) : Zi G l N sh M_X8_longestBeginning [.ref (gB G + 273), vI c] μ (fun r μ' => r = lgOf S D (C.getD c.toNat []) ∧ frK [282] [] μ μ') := by
  refine Fx.of hst rfl (by decide +kernel) (Nat.le_of_ble_eq_true rfl) rfl ?_
  obtain ⟨⟨ok1, ok2, ok3, ok4⟩, ⟨ok5, ok6, ok7⟩, ok8⟩ := okS.un ok
  obtain ⟨hw5, hw0, hw1, hw2, hw3, hw4⟩ := id ok8
  have z6 : μ 274 6 = (C.length : Int) := hz.2.2.1
  have zc := hz.2.2.2.2 c hc
  have l8 := ok6 _ (getD_mem C (i := c.toNat) (by omega))
  refine VW.aload_n dX8_longestBeginning_0 rfl ?_
  refine VW.iload_n dX8_longestBeginning_1 rfl ?_
  refine VW.fvV1 cv_X8_longestBeginning_X8_layDistances dX8_longestBeginning_2 (Nat.le_of_ble_eq_true rfl) (by have := hm.1; omega) hm.2.1 (t_layDistances hst hm hz ok hc hK hDl hDb) (fun μ1 h1 => ?_)
  refine VW.iconst dX8_longestBeginning_5 ?_
  refine VW.istore_n (lv' := [(0, _), (1, _), (2, _)]) dX8_longestBeginning_6 (by decide) rfl ?_
  refine VW.iconst dX8_longestBeginning_7 ?_
  refine VW.istore_n (lv' := [(0, _), (1, _), (2, _), (3, _)]) dX8_longestBeginning_8 (by decide) rfl ?_
  refine VW.mono (lp_X8_lg hst hm (hz.keep h1.2 (by decide)) ok hc hDl h1.1 ((C.getD c.toNat []).length + 1) 0 (-1) (by omega) (by omega) (Or.inl ⟨rfl, fun i hi => by omega⟩)) ?_
  rintro r ⟨oo, μ', rfl, v, rfl, a, rfl, rfl, rfl⟩
  exact fxP.ii ⟨rfl, h1.2⟩
theorem or0k : ∀ m : Fin 1025, Int32.ofInt (m.val : Int) ||| Int32.ofInt 0 = Int32.ofInt (m.val : Int) := by decide +kernel
theorem or0 {m : Int} (h : 0 ≤ m ∧ m ≤ 1024) : Int32.ofInt m ||| Int32.ofInt 0 = Int32.ofInt m := by
  have e := or0k ⟨m.toNat, by omega⟩
  simp only [] at e
  rw [show ((m.toNat : Nat) : Int) = m by omega] at e
  exact e
theorem lp_X8_can (hst : l.stackTraces = false) (hm : isM N sh) (hz : zR (μ 274) xs ys C S) (ok : okS ((xs, ys), C, S)) (hK : hasK μ D) (hDl : D.length ≤ 40) (hDb : bnd D 0 7) : ∀ (n : Nat) (c m : Int), 0 ≤ c → c + n = C.length → (0 ≤ m ∧ m < 2 ^ c.toNat) → ∀ μ2 : Mem, frK [282] [] μ μ2 → VW G l none M_X8_canBecome 4 [(0, .ref (gB G + 273)), (1, vI m), (2, vI c)] [] (N, sh, μ2) 0 0 (fxP N sh (oN (vN_i (fun r μ' => r = msF (C.map (rstOf S D)) n c m ∧ frK [282] [] μ μ')))) := by
  obtain ⟨⟨ok1, ok2, ok3, ok4⟩, ⟨ok5, ok6, ok7⟩, ok8⟩ := okS.un ok
  obtain ⟨hw5, hw0, hw1, hw2, hw3, hw4⟩ := id ok8
  have z6 : μ 274 6 = (C.length : Int) := hz.2.2.1
  intro n
  induction n with
  | zero =>
    intro c m h1 h2 h3 μ2 hf
    have e6 : μ2 274 6 = (C.length : Int) := (congrFun (hf.1 274 (by decide) (by decide)) 6).trans z6
    refine VW.iload_n dX8_canBecome_4 rfl ?_
    refine VW.aload_n dX8_canBecome_5 rfl ?_
    refine VW.getR dX8_canBecome_6 fa_X8_7 (by have := hm.1; omega) hm.2.1 rfl ?_
    refine VW.bipush dX8_canBecome_9 rfl ?_
    refine VW.iaload dX8_canBecome_11 (by have := hm.1; omega) hm.2.2.1 (by omega) (by omega) (by decide) ?_
    rw [show (6 : Int).toNat = 6 from rfl, e6]
    refine VW.icmp_ge 40 ⟨by omega, by omega⟩ ⟨by omega, by omega⟩ dX8_canBecome_12 (by decide) (fun c12 => ?_) (fun c12 => by omega)
    refine VW.iload_n dX8_canBecome_40 rfl ?_
    refine VW.ireturn dX8_canBecome_41 rfl rfl ?_
    exact fxP.ii ⟨rfl, hf⟩
  | succ n ih =>
    intro c m h1 h2 h3 μ2 hf
    have e6 : μ2 274 6 = (C.length : Int) := (congrFun (hf.1 274 (by decide) (by decide)) 6).trans z6
    refine VW.iload_n dX8_canBecome_4 rfl ?_
    refine VW.aload_n dX8_canBecome_5 rfl ?_
    refine VW.getR dX8_canBecome_6 fa_X8_7 (by have := hm.1; omega) hm.2.1 rfl ?_
    refine VW.bipush dX8_canBecome_9 rfl ?_
    refine VW.iaload dX8_canBecome_11 (by have := hm.1; omega) hm.2.2.1 (by omega) (by omega) (by decide) ?_
    rw [show (6 : Int).toNat = 6 from rfl, e6]
    refine VW.icmp_ge 40 ⟨by omega, by omega⟩ ⟨by omega, by omega⟩ dX8_canBecome_12 (by decide) (fun c12 => by omega) (fun c12 => ?_)
    have hpp := pow_p c.toNat
    have hps := pow_s h1
    have hpl := pow_le (show c.toNat ≤ 10 by omega)
    have p10 : (2 : Int) ^ 10 = 1024 := by decide
    refine VW.iload_n dX8_canBecome_15 rfl ?_
    refine VW.aload_n dX8_canBecome_16 rfl ?_
    refine VW.iload_n dX8_canBecome_17 rfl ?_
    refine VW.fiV1 cv_X8_canBecome_X8_longestBeginning dX8_canBecome_18 (Nat.le_of_ble_eq_true rfl) (by have := hm.1; omega) hm.2.1 (t_longestBeginning hst hm (hz.keep hf (by decide)) ok (c := c) ⟨by omega, by omega⟩ (hK.keep hf (by decide) (by decide)) hDl hDb) (fun r3 μ3 h3x => ?_)
    obtain ⟨rfl, h3f⟩ := h3x
    have hrm := rat_map (rstOf S D) (C := C) (c := c) ⟨by omega, by omega⟩
    have l9 := ok6 _ (getD_mem C (i := c.toNat) (by omega))
    have hrb := lrF_b (costF (rat S 3) (rat S 2) D (KL (C.getD c.toNat []))) (C.getD c.toNat []).length (rat S 4) ((C.getD c.toNat []).length + 1) 0
    have hrb2 : rstOf S D (C.getD c.toNat []) = -1 ∨ (0 ≤ rstOf S D (C.getD c.toNat []) ∧ rstOf S D (C.getD c.toNat []) ≤ (C.getD c.toNat []).length) := by unfold rstOf; omega
    have hlg : lgOf S D (C.getD c.toNat []) = -1 ∧ rstOf S D (C.getD c.toNat []) = -1 ∨ lgOf S D (C.getD c.toNat []) = ((C.getD c.toNat []).length : Int) - rstOf S D (C.getD c.toNat []) ∧ rstOf S D (C.getD c.toNat []) ≠ -1 := by
      unfold lgOf
      split
      · exact Or.inl ⟨rfl, by assumption⟩
      · exact Or.inr ⟨rfl, by assumption⟩
    refine VW.iconst dX8_canBecome_21 ?_
    refine VW.icmp_ne 29 ⟨by omega, by omega⟩ ⟨by omega, by omega⟩ dX8_canBecome_22 (by decide) (fun c22 => ?_) (fun c22 => ?_)
    · refine VW.iconst dX8_canBecome_29 ?_
      refine VW.iload_n dX8_canBecome_30 rfl ?_
      refine VW.ishl (x := 2 ^ c.toNat) dX8_canBecome_31 (ishl_bit (by omega)) ?_
      refine VW.ior (x := m + 2 ^ c.toNat) dX8_canBecome_32 (ior_bit (by omega) h3) ?_
      refine VW.istore_n (lv' := [(0, _), (1, _), (2, _)]) dX8_canBecome_33 (by decide) rfl ?_
      refine VW.iinc (lv' := [(0, _), (1, _), (2, _)]) dX8_canBecome_34 rfl (by decide) rfl ?_
      refine VW.goto 4 dX8_canBecome_37 (by decide) ?_
      refine VW.sub ?_ [0, 1, 2] rfl
      rw [show msF (C.map (rstOf S D)) (n + 1) c m = msF (C.map (rstOf S D)) n (c + 1) (if rat (C.map (rstOf S D)) c ≠ -1 then m + 2 ^ c.toNat else m) from rfl]
      first
      | (rw [if_pos (by omega)]; exact ih (c + 1) _ (by omega) (by omega) (by omega) μ3 (hf.tr h3f); done)
      | (rw [if_neg (by omega)]; exact ih (c + 1) _ (by omega) (by omega) (by omega) μ3 (hf.tr h3f); done)
    · refine VW.iconst dX8_canBecome_25 ?_
      refine VW.goto 32 dX8_canBecome_26 (by decide) ?_
      refine VW.ior (x := m) dX8_canBecome_32 (or0 (by omega)) ?_
      refine VW.istore_n (lv' := [(0, _), (1, _), (2, _)]) dX8_canBecome_33 (by decide) rfl ?_
      refine VW.iinc (lv' := [(0, _), (1, _), (2, _)]) dX8_canBecome_34 rfl (by decide) rfl ?_
      refine VW.goto 4 dX8_canBecome_37 (by decide) ?_
      refine VW.sub ?_ [0, 1, 2] rfl
      rw [show msF (C.map (rstOf S D)) (n + 1) c m = msF (C.map (rstOf S D)) n (c + 1) (if rat (C.map (rstOf S D)) c ≠ -1 then m + 2 ^ c.toNat else m) from rfl]
      first
      | (rw [if_pos (by omega)]; exact ih (c + 1) _ (by omega) (by omega) (by omega) μ3 (hf.tr h3f); done)
      | (rw [if_neg (by omega)]; exact ih (c + 1) _ (by omega) (by omega) (by omega) μ3 (hf.tr h3f); done)
theorem t_canBecome (hst : l.stackTraces = false) (hm : isM N sh) (hz : zR (μ 274) xs ys C S) (ok : okS ((xs, ys), C, S)) (hK : hasK μ D) (hDl : D.length ≤ 40) (hDb : bnd D 0 7) : Zi G l N sh M_X8_canBecome [.ref (gB G + 273)] μ (fun r μ' => r = maskOf (C.map (rstOf S D)) ∧ frK [282] [] μ μ') := by
  refine Fx.of hst rfl (by decide +kernel) (Nat.le_of_ble_eq_true rfl) rfl ?_
  obtain ⟨⟨ok1, ok2, ok3, ok4⟩, ⟨ok5, ok6, ok7⟩, ok8⟩ := okS.un ok
  obtain ⟨hw5, hw0, hw1, hw2, hw3, hw4⟩ := id ok8
  have z6 : μ 274 6 = (C.length : Int) := hz.2.2.1
  refine VW.iconst dX8_canBecome_0 ?_
  refine VW.istore_n (lv' := [(0, _), (1, _)]) dX8_canBecome_1 (by decide) rfl ?_
  refine VW.iconst dX8_canBecome_2 ?_
  refine VW.istore_n (lv' := [(0, _), (1, _), (2, _)]) dX8_canBecome_3 (by decide) rfl ?_
  unfold maskOf
  rw [List.length_map]
  exact lp_X8_can hst hm hz ok hK hDl hDb C.length 0 0 (by omega) (by omega) ⟨by omega, by decide⟩ μ frK.rf
theorem lp_X8_tc (hst : l.stackTraces = false) (hm : isM N sh) (hz : zR (μ 274) xs ys C S) (ok : okS ((xs, ys), C, S)) (hK : hasK μ D) (hDl : D.length ≤ 40) (hDb : bnd D 0 7) : ∀ (n : Nat) (c x : Int), 0 ≤ c → c + n = C.length → (-1 ≤ x ∧ x ≤ 8) → ∀ μ2 : Mem, frK [282] [] μ μ2 → VW G l none M_X8_toCome 9 [(0, .ref (gB G + 273)), (1, vI (maskOf (C.map (rstOf S D)))), (2, vI x), (3, vI c)] [] (N, sh, μ2) 0 0 (fxP N sh (oN (vN_i (fun r μ' => r = tcF (C.map (rstOf S D)) (maskOf (C.map (rstOf S D))) n c x ∧ frK [282] [] μ μ')))) := by
  obtain ⟨⟨ok1, ok2, ok3, ok4⟩, ⟨ok5, ok6, ok7⟩, ok8⟩ := okS.un ok
  obtain ⟨hw5, hw0, hw1, hw2, hw3, hw4⟩ := id ok8
  have z6 : μ 274 6 = (C.length : Int) := hz.2.2.1
  have mb := mask_b (R := (C.map (rstOf S D))) (by rw [List.length_map]; exact ok5)
  intro n
  induction n with
  | zero =>
    intro c x h1 h2 hxb μ2 hf
    have e6 : μ2 274 6 = (C.length : Int) := (congrFun (hf.1 274 (by decide) (by decide)) 6).trans z6
    refine VW.iload_n dX8_toCome_9 rfl ?_
    refine VW.aload_n dX8_toCome_10 rfl ?_
    refine VW.getR dX8_toCome_11 fa_X8_7 (by have := hm.1; omega) hm.2.1 rfl ?_
    refine VW.bipush dX8_toCome_14 rfl ?_
    refine VW.iaload dX8_toCome_16 (by have := hm.1; omega) hm.2.2.1 (by omega) (by omega) (by decide) ?_
    rw [show (6 : Int).toNat = 6 from rfl, e6]
    refine VW.icmp_ge 49 ⟨by omega, by omega⟩ ⟨by omega, by omega⟩ dX8_toCome_17 (by decide) (fun c17 => ?_) (fun c17 => by omega)
    refine VW.iload_n dX8_toCome_49 rfl ?_
    refine VW.ireturn dX8_toCome_50 rfl rfl ?_
    exact fxP.ii ⟨rfl, hf⟩
  | succ n ih =>
    intro c x h1 h2 hxb μ2 hf
    have e6 : μ2 274 6 = (C.length : Int) := (congrFun (hf.1 274 (by decide) (by decide)) 6).trans z6
    refine VW.iload_n dX8_toCome_9 rfl ?_
    refine VW.aload_n dX8_toCome_10 rfl ?_
    refine VW.getR dX8_toCome_11 fa_X8_7 (by have := hm.1; omega) hm.2.1 rfl ?_
    refine VW.bipush dX8_toCome_14 rfl ?_
    refine VW.iaload dX8_toCome_16 (by have := hm.1; omega) hm.2.2.1 (by omega) (by omega) (by decide) ?_
    rw [show (6 : Int).toNat = 6 from rfl, e6]
    refine VW.icmp_ge 49 ⟨by omega, by omega⟩ ⟨by omega, by omega⟩ dX8_toCome_17 (by decide) (fun c17 => by omega) (fun c17 => ?_)
    have hpp := pow_p c.toNat
    have hpl := pow_le (show c.toNat ≤ 10 by omega)
    have p10 : (2 : Int) ^ 10 = 1024 := by decide
    refine VW.iload_n dX8_toCome_20 rfl ?_
    refine VW.iconst dX8_toCome_21 ?_
    refine VW.iload_n dX8_toCome_22 rfl ?_
    refine VW.ishl (x := 2 ^ c.toNat) dX8_toCome_23 (ishl_bit (by omega)) ?_
    refine VW.icmp_ne 41 ⟨by omega, by omega⟩ ⟨by omega, by omega⟩ dX8_toCome_24 (by decide) (fun c24 => ?_) (fun c24 => ?_)
    · refine VW.iload_n dX8_toCome_41 rfl ?_
      refine VW.istore_n (lv' := [(0, _), (1, _), (2, _), (3, _)]) dX8_toCome_42 (by decide) rfl ?_
      refine VW.iinc (lv' := [(0, _), (1, _), (2, _), (3, _)]) dX8_toCome_43 rfl (by decide) rfl ?_
      refine VW.goto 9 dX8_toCome_46 (by decide) ?_
      refine VW.sub ?_ [0, 1, 2, 3] rfl
      rw [show tcF (C.map (rstOf S D)) (maskOf (C.map (rstOf S D))) (n + 1) c x = tcF (C.map (rstOf S D)) (maskOf (C.map (rstOf S D))) n (c + 1) (if maskOf (C.map (rstOf S D)) = 2 ^ c.toNat then rat (C.map (rstOf S D)) c else x) from rfl]
      first
      | (rw [if_neg c24]; exact ih (c + 1) x (by omega) (by omega) hxb μ2 hf; done)
      | (have mp := mask_pow h1 c24
         rw [if_pos c24, show ((C.getD c.toNat []).length : Int) - lgOf S D (C.getD c.toNat []) = rat (C.map (rstOf S D)) c by omega]
         exact ih (c + 1) _ (by omega) (by omega) (by omega) μ3 (hf.tr h3f))
    · refine VW.aload_n dX8_toCome_27 rfl ?_
      refine VW.iload_n dX8_toCome_28 rfl ?_
      refine VW.pV1 cv_X8_toCome_X8_directionsOf dX8_toCome_29 (Nat.le_of_ble_eq_true rfl) (by have := hm.1; omega) hm.2.1 (t_directionsOf hst hm (hz.keep hf (by decide)) ok (c := c) ⟨by omega, by omega⟩) ?_
      refine VW.aload_n dX8_toCome_32 rfl ?_
      refine VW.iload_n dX8_toCome_33 rfl ?_
      refine VW.fiV1 cv_X8_toCome_X8_longestBeginning dX8_toCome_34 (Nat.le_of_ble_eq_true rfl) (by have := hm.1; omega) hm.2.1 (t_longestBeginning hst hm (hz.keep hf (by decide)) ok (c := c) ⟨by omega, by omega⟩ (hK.keep hf (by decide) (by decide)) hDl hDb) (fun r3 μ3 h3 => ?_)
      obtain ⟨rfl, h3f⟩ := h3
      have hrm := rat_map (rstOf S D) (C := C) (c := c) ⟨by omega, by omega⟩
      have l9 := ok6 _ (getD_mem C (i := c.toNat) (by omega))
      have hrb := lrF_b (costF (rat S 3) (rat S 2) D (KL (C.getD c.toNat []))) (C.getD c.toNat []).length (rat S 4) ((C.getD c.toNat []).length + 1) 0
      have hrb2 : rstOf S D (C.getD c.toNat []) = -1 ∨ (0 ≤ rstOf S D (C.getD c.toNat []) ∧ rstOf S D (C.getD c.toNat []) ≤ (C.getD c.toNat []).length) := by unfold rstOf; omega
      have hlg : lgOf S D (C.getD c.toNat []) = -1 ∧ rstOf S D (C.getD c.toNat []) = -1 ∨ lgOf S D (C.getD c.toNat []) = ((C.getD c.toNat []).length : Int) - rstOf S D (C.getD c.toNat []) ∧ rstOf S D (C.getD c.toNat []) ≠ -1 := by
        unfold lgOf
        split
        · exact Or.inl ⟨rfl, by assumption⟩
        · exact Or.inr ⟨rfl, by assumption⟩
      refine VW.isub dX8_toCome_37 ?_
      refine VW.goto 42 dX8_toCome_38 (by decide) ?_
      refine VW.istore_n (lv' := [(0, _), (1, _), (2, _), (3, _)]) dX8_toCome_42 (by decide) rfl ?_
      refine VW.iinc (lv' := [(0, _), (1, _), (2, _), (3, _)]) dX8_toCome_43 rfl (by decide) rfl ?_
      refine VW.goto 9 dX8_toCome_46 (by decide) ?_
      refine VW.sub ?_ [0, 1, 2, 3] rfl
      rw [show tcF (C.map (rstOf S D)) (maskOf (C.map (rstOf S D))) (n + 1) c x = tcF (C.map (rstOf S D)) (maskOf (C.map (rstOf S D))) n (c + 1) (if maskOf (C.map (rstOf S D)) = 2 ^ c.toNat then rat (C.map (rstOf S D)) c else x) from rfl]
      first
      | (rw [if_neg c24]; exact ih (c + 1) x (by omega) (by omega) hxb μ2 hf; done)
      | (have mp := mask_pow h1 c24
         rw [if_pos c24, show ((C.getD c.toNat []).length : Int) - lgOf S D (C.getD c.toNat []) = rat (C.map (rstOf S D)) c by omega]
         exact ih (c + 1) _ (by omega) (by omega) (by omega) μ3 (hf.tr h3f))
theorem t_toCome (hst : l.stackTraces = false) (hm : isM N sh) (hz : zR (μ 274) xs ys C S) (ok : okS ((xs, ys), C, S)) (hK : hasK μ D) (hDl : D.length ≤ 40) (hDb : bnd D 0 7) : Zi G l N sh M_X8_toCome [.ref (gB G + 273)] μ (fun r μ' => r = comeOf (C.map (rstOf S D)) ∧ frK [282] [] μ μ') := by
  refine Fx.of hst rfl (by decide +kernel) (Nat.le_of_ble_eq_true rfl) rfl ?_
  obtain ⟨⟨ok1, ok2, ok3, ok4⟩, ⟨ok5, ok6, ok7⟩, ok8⟩ := okS.un ok
  obtain ⟨hw5, hw0, hw1, hw2, hw3, hw4⟩ := id ok8
  have z6 : μ 274 6 = (C.length : Int) := hz.2.2.1
  refine VW.aload_n dX8_toCome_0 rfl ?_
  refine VW.fiV0 cv_X8_toCome_X8_canBecome dX8_toCome_1 (Nat.le_of_ble_eq_true rfl) (by have := hm.1; omega) hm.2.1 (t_canBecome hst hm hz ok hK hDl hDb) (fun r1 μ1 h1 => ?_)
  obtain ⟨rfl, h1f⟩ := h1
  refine VW.istore_n (lv' := [(0, _), (1, _)]) dX8_toCome_4 (by decide) rfl ?_
  refine VW.iconst dX8_toCome_5 ?_
  refine VW.istore_n (lv' := [(0, _), (1, _), (2, _)]) dX8_toCome_6 (by decide) rfl ?_
  refine VW.iconst dX8_toCome_7 ?_
  refine VW.istore_n (lv' := [(0, _), (1, _), (2, _), (3, _)]) dX8_toCome_8 (by decide) rfl ?_
  refine VW.mono (lp_X8_tc hst hm (hz.keep h1f (by decide)) ok (hK.keep h1f (by decide) (by decide)) hDl hDb C.length 0 (-1) (by omega) (by omega) (by omega) μ1 frK.rf) ?_
  rintro r ⟨oo, μ', rfl, v, rfl, a, rfl, rfl, h9⟩
  refine fxP.ii ⟨?_, h1f.tr h9⟩
  have e := tc_come (C.map (rstOf S D))
  rw [List.length_map] at e
  exact e
end PO
