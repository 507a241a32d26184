/-! ===== no two commands at no distance; the looks of the model ===== -/
theorem eig0 {a b : Int} (ha : 0 ≤ a ∧ a ≤ 7) (hb : 0 ≤ b ∧ b ≤ 7) (h : eig a b = 0) : a = b := by
  unfold eig at h
  split at h <;> omega
theorem mul_pos1 {a b : Int} (ha : 1 ≤ a) (hb : 0 ≤ b) (h : a * b ≤ 0) : b = 0 := by
  rcases (by omega : b = 0 ∨ 1 ≤ b) with q | q
  · exact q
  · have := Int.mul_le_mul ha q (by omega) (by omega : 0 ≤ a)
    omega
theorem cost_zero {gap turn : Int} {K D : List Int} (hg : 1 ≤ gap ∧ gap ≤ 9) (ht : 1 ≤ turn ∧ turn ≤ 9) (hD : bnd D 0 7) (hK : bnd K 0 7) : ∀ n, n ≤ D.length → ∀ j, j ≤ K.length → costF gap turn (D.take n) (KL K) j ≤ 0 → j = n ∧ D.take n = K.take n := by
  intro n
  induction n with
  | zero =>
    intro _ j hj h
    have h' : (j : Int) * gap ≤ 0 := h
    refine ⟨?_, rfl⟩
    rcases Nat.eq_zero_or_pos j with q | q
    · exact q
    · have := Int.mul_le_mul (by omega : (1 : Int) ≤ j) hg.1 (by omega) (by omega : (0 : Int) ≤ j)
      omega
  | succ n ih =>
    intro hn j hj h
    have e : D.take (n + 1) = D.take n ++ [D.getD n 0] := by rw [List.take_add_one, List.getElem?_eq_getElem (by omega)]; simp [List.getD, show n < D.length by omega]
    rw [e, costF_snoc] at h
    have cb := costF_b (gap := gap) (turn := turn) (K := KL K) ⟨by omega, by omega⟩ ⟨by omega, by omega⟩ (D.take n)
    cases j with
    | zero =>
      have h' : costF gap turn (D.take n) (KL K) 0 + gap ≤ 0 := h
      have := cb 0
      omega
    | succ j =>
      have h' : min (costF gap turn (D.take n) (KL K) j + turn * eig (D.getD n 0) (KL K j)) (min (costF gap turn (D.take n) (KL K) (j + 1) + gap) (nc gap turn (D.getD n 0) (KL K) (costF gap turn (D.take n) (KL K)) j + gap)) ≤ 0 := h
      have c1 := cb j
      have c2 := cb (j + 1)
      have c3 := nc_b (d := D.getD n 0) (K := KL K) (gap := gap) (turn := turn) (B := 9 * ((D.take n).length : Int)) ⟨by omega, by omega⟩ ⟨by omega, by omega⟩ cb j
      have eb := eig_b (D.getD n 0) (KL K j)
      have mm := mul_b (a := turn) (b := eig (D.getD n 0) (KL K j)) ⟨by omega, by omega⟩ eb
      have z1 : turn * eig (D.getD n 0) (KL K j) ≤ 0 := by omega
      have z2 : costF gap turn (D.take n) (KL K) j ≤ 0 := by omega
      have z3 := mul_pos1 ht.1 eb.1 z1
      obtain ⟨i1, i2⟩ := ih (by omega) j (by omega) z2
      subst i1
      have m1 : D.getD j 0 ∈ D := by simp [List.getD, show j < D.length by omega]
      have m2 : K.getD j 0 ∈ K := by simp [List.getD, show j < K.length by omega]
      have z4 : D.getD j 0 = K.getD j 0 := eig0 (hD _ m1) (hK _ m2) z3
      refine ⟨rfl, ?_⟩
      have e2 : K.take (j + 1) = K.take j ++ [K.getD j 0] := by rw [List.take_add_one, List.getElem?_eq_getElem (by omega)]; simp [List.getD, show j < K.length by omega]
      rw [e, e2, i2, z4]
theorem dst_pos {S D L : List Int} (hw : wfS S) (hD : bnd D 0 7) (hL : bnd L 0 7) (h : dstOf S D L ≤ 0) : D = L := by
  obtain ⟨h5, h0, h1, h2, h3, h4⟩ := hw
  unfold dstOf at h
  have e : D = D.take D.length := (List.take_length).symm
  rw [e] at h
  obtain ⟨a, b⟩ := cost_zero h3 h2 hD hL D.length (Nat.le_refl _) L.length (Nat.le_refl _) h
  rw [List.take_length, ← a, List.take_length] at b
  exact b
theorem dst_self {S D : List Int} : ∀ n, n ≤ D.length → costF (rat S 3) (rat S 2) (D.take n) (KL D) n ≤ 0
  | 0, _ => by show ((0 : Nat) : Int) * rat S 3 ≤ 0; simp
  | n + 1, hn => by
    have e : D.take (n + 1) = D.take n ++ [D.getD n 0] := by rw [List.take_add_one, List.getElem?_eq_getElem (by omega)]; simp [List.getD, show n < D.length by omega]
    rw [e, costF_snoc]
    have ih := dst_self (S := S) (D := D) n (by omega)
    have z : eig (D.getD n 0) (KL D n) = 0 := by
      show eig (D.getD n 0) (D.getD n 0) = 0
      unfold eig
      rw [Int.sub_self]
      decide
    show min (costF (rat S 3) (rat S 2) (D.take n) (KL D) n + rat S 2 * eig (D.getD n 0) (KL D n)) (min _ _) ≤ 0
    rw [z, Int.mul_zero]
    omega
theorem dst_same {S D : List Int} : dstOf S D D ≤ 0 := by
  have h := dst_self (S := S) (D := D) D.length (Nat.le_refl _)
  rw [List.take_length] at h
  exact h
theorem nodup_get {C : List (List Int)} (h : C.Nodup) {i j : Nat} (hi : i < j) (hj : j < C.length) : C.getD i [] ≠ C.getD j [] := by
  intro e
  simp only [List.getD, List.getElem?_eq_getElem (show i < C.length by omega), List.getElem?_eq_getElem hj, Option.getD_some] at e
  exact (List.pairwise_iff_getElem.mp h) i j (by omega) hj hi e
theorem laI_p {S : List Int} {C : List (List Int)} (hw : wfS S) (h8 : ∀ L ∈ C, L.length ≤ 8 ∧ bnd L 0 7) (hn : C.Nodup) {c : Int} (hc : 0 ≤ c ∧ c < C.length) : ∀ (n : Nat) (o b : Int), 0 ≤ o → o + n ≤ c → (b = -1 ∨ 0 < b) → (laI C S c n o b = -1 ∨ 0 < laI C S c n o b)
  | 0, o, b, _, _, hb => hb
  | n + 1, o, b, h0, h1, hb => by
    refine laI_p hw h8 hn hc n (o + 1) _ (by omega) (by omega) ?_
    split
    · right
      rcases Int.lt_or_le 0 (dstOf S (C.getD o.toNat []) (C.getD c.toNat [])) with q | q
      · exact q
      · exact absurd (dst_pos hw (h8 _ (getD_mem C (by omega))).2 (h8 _ (getD_mem C (by omega))).2 q) (nodup_get hn (by omega) (by omega))
    · exact hb
theorem laO_p {S : List Int} {C : List (List Int)} (hw : wfS S) (h8 : ∀ L ∈ C, L.length ≤ 8 ∧ bnd L 0 7) (hn : C.Nodup) : ∀ (n : Nat) (c b : Int), 0 ≤ c → c + n ≤ C.length → (b = -1 ∨ 0 < b) → (laO C S n c b = -1 ∨ 0 < laO C S n c b)
  | 0, c, b, _, _, hb => hb
  | n + 1, c, b, h0, h1, hb => laO_p hw h8 hn n (c + 1) _ (by omega) (by omega) (laI_p hw h8 hn (c := c) (by omega) c.toNat 0 b (by omega) (by omega) hb)
theorem least_p {S : List Int} {C : List (List Int)} (hw : wfS S) (h8 : ∀ L ∈ C, L.length ≤ 8 ∧ bnd L 0 7) (hn : C.Nodup) : leastA C S = -1 ∨ 0 < leastA C S := laO_p hw h8 hn C.length 0 (-1) (by omega) (by omega) (Or.inl rfl)
theorem mfF_p {b : Int} (hb : 0 < b) : ∀ (n : Nat) (v : Int), v + 1 = n → mfF b n v = min v ((b - 1) / 2)
  | 0, v, h => by show (-1 : Int) = _; omega
  | n + 1, v, h => by
    show (if b = -1 ∨ 2 * v < b then v else mfF b n (v - 1)) = _
    by_cases c : b = -1 ∨ 2 * v < b
    · rw [if_pos c]; omega
    · rw [if_neg c, mfF_p hb n (v - 1) (by omega)]; omega
theorem idiv2k : ∀ k : Fin 1010, Int32.ofInt ((k.val : Int) - 2) / Int32.ofInt 2 = Int32.ofInt (Int.tdiv ((k.val : Int) - 2) 2) := by decide +kernel
theorem idiv2 {z : Int} (h : -2 ≤ z ∧ z ≤ 1000) : Int32.ofInt z / Int32.ofInt 2 = Int32.ofInt (Int.tdiv z 2) := by
  have e := idiv2k ⟨(z + 2).toNat, by omega⟩
  simp only [] at e
  rw [show (((z + 2).toNat : Nat) : Int) - 2 = z by omega] at e
  exact e
section PX
variable {G : GT} {l : Launch} {N : Nat} {sh : Nat → ShT} {μ μ' : Mem} {xs ys S D Ln : List Int} {C : List (List Int)} {v lo hi : Int}
variable {Z : List St} {B : List Int} {p w c : Int}
theorem t_mostNow (hst : l.stackTraces = false) (hm : isM N sh) (hz : zR (μ 274) xs ys C S) (ok : okS ((xs, ys), C, S)) : Zi G l N sh M_X8_mostNow [.ref (gB G + 273)] μ (fun r μ' => r = mostF C S ∧ frK aL bN μ μ') := by
  refine Fx.of hst rfl (by decide +kernel) (Nat.le_of_ble_eq_true rfl) rfl ?_
  obtain ⟨⟨ok1, ok2, ok3, ok4⟩, ⟨ok5, ok6, ok7⟩, ok8⟩ := okS.un ok
  obtain ⟨hw5, hw0, hw1, hw2, hw3, hw4⟩ := id ok8
  have z5 : μ 274 5 = (xs.length : Int) := hz.2.1
  have z6 : μ 274 6 = (C.length : Int) := hz.2.2.1
  refine VW.aload_n dX8_mostNow_0 rfl ?_
  refine VW.fiV0 cv_X8_mostNow_X8_leastDistance dX8_mostNow_1 (Nat.le_of_ble_eq_true rfl) (by have := hm.1; omega) hm.2.1 (t_leastDistance hst hm hz ok) (fun r1 μ1 h1 => ?_)
  obtain ⟨rfl, h1f⟩ := h1
  have lb := least_b ok8 ok6
  have lp := least_p ok8 ok6 ok7
  have td : Int.tdiv (leastA C S - 1) 2 = (leastA C S - 1) / 2 ∨ leastA C S = -1 := by
    rcases lp with q | q
    · exact Or.inr q
    · exact Or.inl (Int.tdiv_eq_ediv_of_nonneg (by omega))
  have tm : Int.tdiv (-1 - 1) 2 = -1 := by decide
  refine VW.istore_n (lv' := [(0, _), (1, _)]) dX8_mostNow_4 (by decide) rfl ?_
  refine VW.iload_n dX8_mostNow_5 rfl ?_
  refine VW.iconst dX8_mostNow_6 ?_
  refine VW.isub dX8_mostNow_7 ?_
  refine VW.iconst dX8_mostNow_8 ?_
  refine VW.idiv (x := Int.tdiv (leastA C S - 1) 2) dX8_mostNow_9 (i32_ne0 (by decide)) (idiv2 ⟨by omega, by omega⟩) ?_
  refine VW.istore_n (lv' := [(0, _), (1, _), (2, _)]) dX8_mostNow_10 (by decide) rfl ?_
  refine VW.iload_n dX8_mostNow_11 rfl ?_
  refine VW.iconst dX8_mostNow_12 ?_
  refine VW.icmp_eq 22 ⟨by omega, by omega⟩ ⟨by omega, by omega⟩ dX8_mostNow_13 (by decide) (fun c13 => ?_) (fun c13 => ?_)
  · refine VW.bipush dX8_mostNow_22 rfl ?_
    refine VW.goto 28 dX8_mostNow_24 (by decide) ?_
    refine VW.ireturn dX8_mostNow_28 rfl rfl ?_
    refine fxP.ii ⟨?_, h1f.wid (by decide) (by decide)⟩
    unfold mostF
    first
    | (have q : leastA C S = -1 := c13
       rw [q]; rfl)
    | (rw [mfF_p (by omega) 21 20 (by omega)]; omega)
  · have tb : Int.tdiv (leastA C S - 1) 2 = (leastA C S - 1) / 2 := by rcases td with q | q; { exact q }; { exact absurd q c13 }
    refine VW.iload_n dX8_mostNow_16 rfl ?_
    refine VW.bipush dX8_mostNow_17 rfl ?_
    refine VW.icmp_le 27 ⟨by omega, by omega⟩ ⟨by omega, by omega⟩ dX8_mostNow_19 (by decide) (fun c19 => ?_) (fun c19 => ?_)
    · refine VW.iload_n dX8_mostNow_27 rfl ?_
      refine VW.ireturn dX8_mostNow_28 rfl rfl ?_
      refine fxP.ii ⟨?_, h1f.wid (by decide) (by decide)⟩
      unfold mostF
      first
      | (have q : leastA C S = -1 := c13
         rw [q]; rfl)
      | (rw [mfF_p (by omega) 21 20 (by omega)]; omega)
    · refine VW.bipush dX8_mostNow_22 rfl ?_
      refine VW.goto 28 dX8_mostNow_24 (by decide) ?_
      refine VW.ireturn dX8_mostNow_28 rfl rfl ?_
      refine fxP.ii ⟨?_, h1f.wid (by decide) (by decide)⟩
      unfold mostF
      first
      | (have q : leastA C S = -1 := c13
         rw [q]; rfl)
      | (rw [mfF_p (by omega) 21 20 (by omega)]; omega)
variable {x y s : Int}
theorem t_pointOf (hst : l.stackTraces = false) (hm : isM N sh) (h : hasM μ xs ys C S Z B) (ok : okS ((xs, ys), C, S)) (hp : R32 p) (hw : R32 w) : Zi G l N sh M_X8_pointOf [.ref (gB G + 273), vI p, vI w] μ (tL (lkPointOf xs ys p w) μ) := by
  refine Fx.of hst rfl (by decide +kernel) (Nat.le_of_ble_eq_true rfl) rfl ?_
  obtain ⟨⟨ok1, ok2, ok3, ok4⟩, ⟨ok5, ok6, ok7⟩, ok8⟩ := okS.un ok
  obtain ⟨hz, hn, hh, hb, hB⟩ := id h
  obtain ⟨hw5, hw0, hw1, hw2, hw3, hw4⟩ := id ok8
  have z5 : μ 274 5 = (xs.length : Int) := hz.2.1
  have z6 : μ 274 6 = (C.length : Int) := hz.2.2.1
  refine VW.aload_n dX8_pointOf_0 rfl ?_
  refine VW.iload_n dX8_pointOf_1 rfl ?_
  refine VW.iconst dX8_pointOf_2 ?_
  refine VW.aload_n dX8_pointOf_3 rfl ?_
  refine VW.getR dX8_pointOf_4 fa_X8_7 (by have := hm.1; omega) hm.2.1 rfl ?_
  refine VW.iconst dX8_pointOf_7 ?_
  refine VW.iaload dX8_pointOf_8 (by have := hm.1; omega) hm.2.2.1 (by omega) (by omega) (by decide) ?_
  rw [show (5 : Int).toNat = 5 from rfl, z5]
  refine VW.iconst dX8_pointOf_9 ?_
  refine VW.isub dX8_pointOf_10 ?_
  refine VW.pS3 cs_X8_pointOf_X8_within dX8_pointOf_11 (Nat.le_of_ble_eq_true rfl) (t_within hst hp ⟨by omega, by omega⟩ ⟨by omega, by omega⟩) ?_
  refine VW.if_ne 21 (bR2 _) dX8_pointOf_14 (by decide) (fun c14 => ?_) (fun c14 => ?_)
  · rw [bI0d] at c14
    have c14 := Classical.not_not.mp c14
    refine VW.iload_n dX8_pointOf_21 rfl ?_
    refine VW.iconst dX8_pointOf_22 ?_
    refine VW.iconst dX8_pointOf_23 ?_
    refine VW.pS3 cs_X8_pointOf_X8_within dX8_pointOf_24 (Nat.le_of_ble_eq_true rfl) (t_within hst hw ⟨by omega, by omega⟩ ⟨by omega, by omega⟩) ?_
    refine VW.if_eq 34 (bR2 _) dX8_pointOf_27 (by decide) (fun c27 => ?_) (fun c27 => ?_)
    · rw [bI0d] at c27
      refine VW.iconst dX8_pointOf_34 ?_
      refine VW.putI dX8_pointOf_35 fp_X8_43 (by have := hm.1; omega) hm.2.1 rfl ?_
      have gt : frK aL bL μ (mup μ 273 5 2) := frK_f.wid (by decide) (by decide)
      have ht : zR ((mup μ 273 5 2) 274) xs ys C S := hz.keep (frK_f : frK [] [5] μ _) (by decide)
      refine VW.aload_n dX8_pointOf_38 rfl ?_
      refine VW.getI dX8_pointOf_39 fa_X8_43 (by have := hm.1; omega) hm.2.1 rfl ?_
      rw [mup_s]
      refine VW.if_le 49 (by decide) dX8_pointOf_42 (by decide) (fun c42 => absurd c42 (by decide)) (fun _ => ?_)
      refine VW.iconst dX8_pointOf_45 ?_
      refine VW.goto 55 dX8_pointOf_46 (by decide) ?_
      refine VW.ireturn dX8_pointOf_55 rfl rfl ?_
      exact fxP.ii (tL_x ((if_neg (by omega)).trans (if_pos (by omega))) gt (by decide) (mup_s _ _ _ _))
    · rw [bI0d] at c27
      have c27 := Classical.not_not.mp c27
      refine VW.iconst dX8_pointOf_30 ?_
      refine VW.goto 35 dX8_pointOf_31 (by decide) ?_
      refine VW.putI dX8_pointOf_35 fp_X8_43 (by have := hm.1; omega) hm.2.1 rfl ?_
      have gt : frK aL bL μ (mup μ 273 5 0) := frK_f.wid (by decide) (by decide)
      have ht : zR ((mup μ 273 5 0) 274) xs ys C S := hz.keep (frK_f : frK [] [5] μ _) (by decide)
      refine VW.aload_n dX8_pointOf_38 rfl ?_
      refine VW.getI dX8_pointOf_39 fa_X8_43 (by have := hm.1; omega) hm.2.1 rfl ?_
      rw [mup_s]
      refine VW.if_le 49 (by decide) dX8_pointOf_42 (by decide) (fun _ => ?_) (fun c42 => absurd c42 (by decide))
      refine VW.aload_n dX8_pointOf_49 rfl ?_
      refine VW.iload_n dX8_pointOf_50 rfl ?_
      refine VW.iload_n dX8_pointOf_51 rfl ?_
      refine VW.fiV2 cv_X8_pointOf_X8_pointNow dX8_pointOf_52 (Nat.le_of_ble_eq_true rfl) (by have := hm.1; omega) hm.2.1 (t_pointNow hst hm ht ok (p := p) (w := w) (by omega) hw) (fun r9 μ9 h9 => ?_)
      refine VW.ireturn dX8_pointOf_55 rfl rfl ?_
      obtain ⟨rfl, h9f⟩ := h9
      exact fxP.ii (tL_r ((if_neg (by omega)).trans (if_neg (by omega))) (gt.tr (h9f.wid (by decide) (by decide))) (by rw [h9f.2 5 (by decide), mup_s]))
  · rw [bI0d] at c14
    refine VW.iconst dX8_pointOf_17 ?_
    refine VW.goto 35 dX8_pointOf_18 (by decide) ?_
    refine VW.putI dX8_pointOf_35 fp_X8_43 (by have := hm.1; omega) hm.2.1 rfl ?_
    have gt : frK aL bL μ (mup μ 273 5 1) := frK_f.wid (by decide) (by decide)
    have ht : zR ((mup μ 273 5 1) 274) xs ys C S := hz.keep (frK_f : frK [] [5] μ _) (by decide)
    refine VW.aload_n dX8_pointOf_38 rfl ?_
    refine VW.getI dX8_pointOf_39 fa_X8_43 (by have := hm.1; omega) hm.2.1 rfl ?_
    rw [mup_s]
    refine VW.if_le 49 (by decide) dX8_pointOf_42 (by decide) (fun c42 => absurd c42 (by decide)) (fun _ => ?_)
    refine VW.iconst dX8_pointOf_45 ?_
    refine VW.goto 55 dX8_pointOf_46 (by decide) ?_
    refine VW.ireturn dX8_pointOf_55 rfl rfl ?_
    exact fxP.ii (tL_x (if_pos (by omega)) gt (by decide) (mup_s _ _ _ _))
theorem t_run (hst : l.stackTraces = false) (hm : isM N sh) (h : hasM μ xs ys C S Z B) (ok : okS ((xs, ys), C, S)) (hp : R32 p) (hw : R32 w) : Zi G l N sh M_X8_run [.ref (gB G + 273), vI p, vI w] μ (tL (lkRun xs ys S p w) μ) := by
  refine Fx.of hst rfl (by decide +kernel) (Nat.le_of_ble_eq_true rfl) rfl ?_
  obtain ⟨⟨ok1, ok2, ok3, ok4⟩, ⟨ok5, ok6, ok7⟩, ok8⟩ := okS.un ok
  obtain ⟨hz, hn, hh, hb, hB⟩ := id h
  obtain ⟨hw5, hw0, hw1, hw2, hw3, hw4⟩ := id ok8
  have z5 : μ 274 5 = (xs.length : Int) := hz.2.1
  have z6 : μ 274 6 = (C.length : Int) := hz.2.2.1
  refine VW.aload_n dX8_run_0 rfl ?_
  refine VW.iload_n dX8_run_1 rfl ?_
  refine VW.if_lt 18 ⟨by omega, by omega⟩ dX8_run_2 (by decide) (fun c2 => ?_) (fun c2 => ?_)
  · try rw [bI0d] at c11
    refine VW.iconst dX8_run_18 ?_
    refine VW.putI dX8_run_19 fp_X8_43 (by have := hm.1; omega) hm.2.1 rfl ?_
    have gt : frK aL bL μ (mup μ 273 5 1) := frK_f.wid (by decide) (by decide)
    have ht : zR ((mup μ 273 5 1) 274) xs ys C S := hz.keep (frK_f : frK [] [5] μ _) (by decide)
    refine VW.aload_n dX8_run_22 rfl ?_
    refine VW.getI dX8_run_23 fa_X8_43 (by have := hm.1; omega) hm.2.1 rfl ?_
    rw [mup_s]
    refine VW.if_le 33 (by decide) dX8_run_26 (by decide) (fun c26 => absurd c26 (by decide)) (fun _ => ?_)
    refine VW.iconst dX8_run_29 ?_
    refine VW.goto 39 dX8_run_30 (by decide) ?_
    refine VW.ireturn dX8_run_39 rfl rfl ?_
    exact fxP.ii (tL_x (if_pos (by omega)) gt (by decide) (mup_s _ _ _ _))
  · refine VW.iload_n dX8_run_5 rfl ?_
    refine VW.iconst dX8_run_6 ?_
    refine VW.iconst dX8_run_7 ?_
    refine VW.pS3 cs_X8_run_X8_within dX8_run_8 (Nat.le_of_ble_eq_true rfl) (t_within hst hw ⟨by omega, by omega⟩ ⟨by omega, by omega⟩) ?_
    refine VW.if_eq 18 (bR2 _) dX8_run_11 (by decide) (fun c11 => ?_) (fun c11 => ?_)
    · try rw [bI0d] at c11
      refine VW.iconst dX8_run_18 ?_
      refine VW.putI dX8_run_19 fp_X8_43 (by have := hm.1; omega) hm.2.1 rfl ?_
      have gt : frK aL bL μ (mup μ 273 5 1) := frK_f.wid (by decide) (by decide)
      have ht : zR ((mup μ 273 5 1) 274) xs ys C S := hz.keep (frK_f : frK [] [5] μ _) (by decide)
      refine VW.aload_n dX8_run_22 rfl ?_
      refine VW.getI dX8_run_23 fa_X8_43 (by have := hm.1; omega) hm.2.1 rfl ?_
      rw [mup_s]
      refine VW.if_le 33 (by decide) dX8_run_26 (by decide) (fun c26 => absurd c26 (by decide)) (fun _ => ?_)
      refine VW.iconst dX8_run_29 ?_
      refine VW.goto 39 dX8_run_30 (by decide) ?_
      refine VW.ireturn dX8_run_39 rfl rfl ?_
      exact fxP.ii (tL_x (if_pos (by omega)) gt (by decide) (mup_s _ _ _ _))
    · rw [bI0d] at c11
      have c11 := Classical.not_not.mp c11
      refine VW.iconst dX8_run_14 ?_
      refine VW.goto 19 dX8_run_15 (by decide) ?_
      refine VW.putI dX8_run_19 fp_X8_43 (by have := hm.1; omega) hm.2.1 rfl ?_
      have gt : frK aL bL μ (mup μ 273 5 0) := frK_f.wid (by decide) (by decide)
      have ht : zR ((mup μ 273 5 0) 274) xs ys C S := hz.keep (frK_f : frK [] [5] μ _) (by decide)
      refine VW.aload_n dX8_run_22 rfl ?_
      refine VW.getI dX8_run_23 fa_X8_43 (by have := hm.1; omega) hm.2.1 rfl ?_
      rw [mup_s]
      refine VW.if_le 33 (by decide) dX8_run_26 (by decide) (fun _ => ?_) (fun c26 => absurd c26 (by decide))
      refine VW.aload_n dX8_run_33 rfl ?_
      refine VW.iload_n dX8_run_34 rfl ?_
      refine VW.iload_n dX8_run_35 rfl ?_
      refine VW.fiV2 cv_X8_run_X8_runNow dX8_run_36 (Nat.le_of_ble_eq_true rfl) (by have := hm.1; omega) hm.2.1 (t_runNow hst hm ht ok (p := p) (w := w) (by omega) hw) (fun r9 μ9 h9 => ?_)
      refine VW.ireturn dX8_run_39 rfl rfl ?_
      obtain ⟨rfl, h9f⟩ := h9
      refine fxP.ii (tL_r ?_ (gt.tr (h9f.wid (by decide) (by decide))) (by rw [h9f.2 5 (by decide), mup_s]))
      refine (if_neg (by omega)).trans ?_
      by_cases q : ((rnD xs ys).length : Int) ≤ p
      · rw [if_pos q, if_pos q]
      · rw [if_neg q, if_neg q]
theorem t_stroke (hst : l.stackTraces = false) (hm : isM N sh) (h : hasM μ xs ys C S Z B) (ok : okS ((xs, ys), C, S)) (hp : R32 p) : Zi G l N sh M_X8_stroke [.ref (gB G + 273), vI p] μ (tL (lkStroke xs ys S p) μ) := by
  refine Fx.of hst rfl (by decide +kernel) (Nat.le_of_ble_eq_true rfl) rfl ?_
  obtain ⟨⟨ok1, ok2, ok3, ok4⟩, ⟨ok5, ok6, ok7⟩, ok8⟩ := okS.un ok
  obtain ⟨hz, hn, hh, hb, hB⟩ := id h
  obtain ⟨hw5, hw0, hw1, hw2, hw3, hw4⟩ := id ok8
  have z5 : μ 274 5 = (xs.length : Int) := hz.2.1
  have z6 : μ 274 6 = (C.length : Int) := hz.2.2.1
  refine VW.aload_n dX8_stroke_0 rfl ?_
  refine VW.iload_n dX8_stroke_1 rfl ?_
  refine VW.if_ge 9 ⟨by omega, by omega⟩ dX8_stroke_2 (by decide) (fun c2 => ?_) (fun c2 => ?_)
  · refine VW.iconst dX8_stroke_9 ?_
    refine VW.putI dX8_stroke_10 fp_X8_43 (by have := hm.1; omega) hm.2.1 rfl ?_
    have gt : frK aL bL μ (mup μ 273 5 0) := frK_f.wid (by decide) (by decide)
    have ht : zR ((mup μ 273 5 0) 274) xs ys C S := hz.keep (frK_f : frK [] [5] μ _) (by decide)
    refine VW.aload_n dX8_stroke_13 rfl ?_
    refine VW.getI dX8_stroke_14 fa_X8_43 (by have := hm.1; omega) hm.2.1 rfl ?_
    rw [mup_s]
    refine VW.if_le 24 (by decide) dX8_stroke_17 (by decide) (fun _ => ?_) (fun c17 => absurd c17 (by decide))
    refine VW.aload_n dX8_stroke_24 rfl ?_
    refine VW.iload_n dX8_stroke_25 rfl ?_
    refine VW.fiV1 cv_X8_stroke_X8_strokeNow dX8_stroke_26 (Nat.le_of_ble_eq_true rfl) (by have := hm.1; omega) hm.2.1 (t_strokeNow hst hm ht ok (p := p) (by omega)) (fun r9 μ9 h9 => ?_)
    refine VW.ireturn dX8_stroke_29 rfl rfl ?_
    obtain ⟨rfl, h9f⟩ := h9
    exact fxP.ii (tL_r (if_neg (by omega)) (gt.tr (h9f.wid (by decide) (by decide))) (by rw [h9f.2 5 (by decide), mup_s]))
  · refine VW.iconst dX8_stroke_5 ?_
    refine VW.goto 10 dX8_stroke_6 (by decide) ?_
    refine VW.putI dX8_stroke_10 fp_X8_43 (by have := hm.1; omega) hm.2.1 rfl ?_
    have gt : frK aL bL μ (mup μ 273 5 1) := frK_f.wid (by decide) (by decide)
    have ht : zR ((mup μ 273 5 1) 274) xs ys C S := hz.keep (frK_f : frK [] [5] μ _) (by decide)
    refine VW.aload_n dX8_stroke_13 rfl ?_
    refine VW.getI dX8_stroke_14 fa_X8_43 (by have := hm.1; omega) hm.2.1 rfl ?_
    rw [mup_s]
    refine VW.if_le 24 (by decide) dX8_stroke_17 (by decide) (fun c17 => absurd c17 (by decide)) (fun _ => ?_)
    refine VW.iconst dX8_stroke_20 ?_
    refine VW.goto 29 dX8_stroke_21 (by decide) ?_
    refine VW.ireturn dX8_stroke_29 rfl rfl ?_
    exact fxP.ii (tL_x (if_pos (by omega)) gt (by decide) (mup_s _ _ _ _))
theorem t_strokeOf (hst : l.stackTraces = false) (hm : isM N sh) (h : hasM μ xs ys C S Z B) (ok : okS ((xs, ys), C, S)) (hc : R32 c) (hp : R32 p) : Zi G l N sh M_X8_strokeOf [.ref (gB G + 273), vI c, vI p] μ (tL (lkStrokeOf C c p) μ) := by
  refine Fx.of hst rfl (by decide +kernel) (Nat.le_of_ble_eq_true rfl) rfl ?_
  obtain ⟨⟨ok1, ok2, ok3, ok4⟩, ⟨ok5, ok6, ok7⟩, ok8⟩ := okS.un ok
  obtain ⟨hz, hn, hh, hb, hB⟩ := id h
  obtain ⟨hw5, hw0, hw1, hw2, hw3, hw4⟩ := id ok8
  have z5 : μ 274 5 = (xs.length : Int) := hz.2.1
  have z6 : μ 274 6 = (C.length : Int) := hz.2.2.1
  refine VW.aload_n dX8_strokeOf_0 rfl ?_
  refine VW.aload_n dX8_strokeOf_1 rfl ?_
  refine VW.iload_n dX8_strokeOf_2 rfl ?_
  refine VW.pV1 cv_X8_strokeOf_X8_isCommand dX8_strokeOf_3 (Nat.le_of_ble_eq_true rfl) (by have := hm.1; omega) hm.2.1 (t_isCommand hst hm hz ok hc) ?_
  refine VW.if_ne 13 (bR2 _) dX8_strokeOf_6 (by decide) (fun c6 => ?_) (fun c6 => ?_)
  · rw [bI0d] at c6
    have c6 := Classical.not_not.mp c6
    have l8 := (ok6 _ (getD_mem C (i := c.toNat) (by omega))).1
    refine VW.iload_n dX8_strokeOf_13 rfl ?_
    refine VW.if_ge 21 ⟨by omega, by omega⟩ dX8_strokeOf_14 (by decide) (fun c14 => ?_) (fun c14 => ?_)
    · refine VW.iconst dX8_strokeOf_21 ?_
      refine VW.putI dX8_strokeOf_22 fp_X8_43 (by have := hm.1; omega) hm.2.1 rfl ?_
      have gt : frK aL bL μ (mup μ 273 5 0) := frK_f.wid (by decide) (by decide)
      have ht : zR ((mup μ 273 5 0) 274) xs ys C S := hz.keep (frK_f : frK [] [5] μ _) (by decide)
      refine VW.aload_n dX8_strokeOf_25 rfl ?_
      refine VW.getI dX8_strokeOf_26 fa_X8_43 (by have := hm.1; omega) hm.2.1 rfl ?_
      rw [mup_s]
      refine VW.if_le 36 (by decide) dX8_strokeOf_29 (by decide) (fun _ => ?_) (fun c29 => absurd c29 (by decide))
      refine VW.iload_n dX8_strokeOf_36 rfl ?_
      refine VW.aload_n dX8_strokeOf_37 rfl ?_
      refine VW.iload_n dX8_strokeOf_38 rfl ?_
      refine VW.pV1 cv_X8_strokeOf_X8_directionsOf dX8_strokeOf_39 (Nat.le_of_ble_eq_true rfl) (by have := hm.1; omega) hm.2.1 (t_directionsOf hst hm ht ok (c := c) (by omega)) ?_
      refine VW.icmp_ge 54 ⟨by omega, by omega⟩ ⟨by omega, by omega⟩ dX8_strokeOf_42 (by decide) (fun c42 => ?_) (fun c42 => ?_)
      · refine VW.iconst dX8_strokeOf_54 ?_
        refine VW.ireturn dX8_strokeOf_55 rfl rfl ?_
        first
        | exact fxP.ii (tL_r ((if_neg (by omega)).trans (if_neg (by omega))) gt (mup_s _ _ _ _))
        | (rw [show (-1 : Int) = rat (C.getD c.toNat []) p from (rat_out (by omega)).symm]
           exact fxP.ii (tL_r ((if_neg (by omega)).trans (if_neg (by omega))) gt (mup_s _ _ _ _)))
      · refine VW.aload_n dX8_strokeOf_45 rfl ?_
        refine VW.iload_n dX8_strokeOf_46 rfl ?_
        refine VW.iload_n dX8_strokeOf_47 rfl ?_
        refine VW.pV2 cv_X8_strokeOf_X8_directionOf dX8_strokeOf_48 (Nat.le_of_ble_eq_true rfl) (by have := hm.1; omega) hm.2.1 (t_directionOf hst hm ht ok (c := c) (by omega) (j := p) (by omega)) ?_
        refine VW.goto 55 dX8_strokeOf_51 (by decide) ?_
        refine VW.ireturn dX8_strokeOf_55 rfl rfl ?_
        first
        | exact fxP.ii (tL_r ((if_neg (by omega)).trans (if_neg (by omega))) gt (mup_s _ _ _ _))
        | (rw [show (-1 : Int) = rat (C.getD c.toNat []) p from (rat_out (by omega)).symm]
           exact fxP.ii (tL_r ((if_neg (by omega)).trans (if_neg (by omega))) gt (mup_s _ _ _ _)))
    · refine VW.iconst dX8_strokeOf_17 ?_
      refine VW.goto 22 dX8_strokeOf_18 (by decide) ?_
      refine VW.putI dX8_strokeOf_22 fp_X8_43 (by have := hm.1; omega) hm.2.1 rfl ?_
      have gt : frK aL bL μ (mup μ 273 5 2) := frK_f.wid (by decide) (by decide)
      have ht : zR ((mup μ 273 5 2) 274) xs ys C S := hz.keep (frK_f : frK [] [5] μ _) (by decide)
      refine VW.aload_n dX8_strokeOf_25 rfl ?_
      refine VW.getI dX8_strokeOf_26 fa_X8_43 (by have := hm.1; omega) hm.2.1 rfl ?_
      rw [mup_s]
      refine VW.if_le 36 (by decide) dX8_strokeOf_29 (by decide) (fun c29 => absurd c29 (by decide)) (fun _ => ?_)
      refine VW.iconst dX8_strokeOf_32 ?_
      refine VW.goto 55 dX8_strokeOf_33 (by decide) ?_
      refine VW.ireturn dX8_strokeOf_55 rfl rfl ?_
      exact fxP.ii (tL_x ((if_neg (by omega)).trans (if_pos (by omega))) gt (by decide) (mup_s _ _ _ _))
  · rw [bI0d] at c6
    refine VW.iconst dX8_strokeOf_9 ?_
    refine VW.goto 22 dX8_strokeOf_10 (by decide) ?_
    refine VW.putI dX8_strokeOf_22 fp_X8_43 (by have := hm.1; omega) hm.2.1 rfl ?_
    have gt : frK aL bL μ (mup μ 273 5 1) := frK_f.wid (by decide) (by decide)
    have ht : zR ((mup μ 273 5 1) 274) xs ys C S := hz.keep (frK_f : frK [] [5] μ _) (by decide)
    refine VW.aload_n dX8_strokeOf_25 rfl ?_
    refine VW.getI dX8_strokeOf_26 fa_X8_43 (by have := hm.1; omega) hm.2.1 rfl ?_
    rw [mup_s]
    refine VW.if_le 36 (by decide) dX8_strokeOf_29 (by decide) (fun c29 => absurd c29 (by decide)) (fun _ => ?_)
    refine VW.iconst dX8_strokeOf_32 ?_
    refine VW.goto 55 dX8_strokeOf_33 (by decide) ?_
    refine VW.ireturn dX8_strokeOf_55 rfl rfl ?_
    exact fxP.ii (tL_x (if_pos (by omega)) gt (by decide) (mup_s _ _ _ _))
variable {u : Int}
theorem t_distance (hst : l.stackTraces = false) (hm : isM N sh) (h : hasM μ xs ys C S Z B) (ok : okS ((xs, ys), C, S)) (hc : R32 c) (hu : R32 u) : Zi G l N sh M_X8_distance [.ref (gB G + 273), vI c, vI u] μ (tL (lkDistance xs ys C S c u) μ) := by
  refine Fx.of hst rfl (by decide +kernel) (Nat.le_of_ble_eq_true rfl) rfl ?_
  obtain ⟨⟨ok1, ok2, ok3, ok4⟩, ⟨ok5, ok6, ok7⟩, ok8⟩ := okS.un ok
  obtain ⟨hz, hn, hh, hb, hB⟩ := id h
  obtain ⟨hw5, hw0, hw1, hw2, hw3, hw4⟩ := id ok8
  have z5 : μ 274 5 = (xs.length : Int) := hz.2.1
  have z6 : μ 274 6 = (C.length : Int) := hz.2.2.1
  refine VW.aload_n dX8_distance_0 rfl ?_
  refine VW.aload_n dX8_distance_1 rfl ?_
  refine VW.iload_n dX8_distance_2 rfl ?_
  refine VW.pV1 cv_X8_distance_X8_isCommand dX8_distance_3 (Nat.le_of_ble_eq_true rfl) (by have := hm.1; omega) hm.2.1 (t_isCommand hst hm hz ok hc) ?_
  refine VW.if_eq 26 (bR2 _) dX8_distance_6 (by decide) (fun c6 => ?_) (fun c6 => ?_)
  · first | (rw [bI0d] at c19) | (rw [bI0d] at c6)
    refine VW.iconst dX8_distance_26 ?_
    refine VW.putI dX8_distance_27 fp_X8_43 (by have := hm.1; omega) hm.2.1 rfl ?_
    have gt : frK aL bL μ (mup μ 273 5 1) := frK_f.wid (by decide) (by decide)
    have ht : zR ((mup μ 273 5 1) 274) xs ys C S := hz.keep (frK_f : frK [] [5] μ _) (by decide)
    refine VW.aload_n dX8_distance_30 rfl ?_
    refine VW.getI dX8_distance_31 fa_X8_43 (by have := hm.1; omega) hm.2.1 rfl ?_
    rw [mup_s]
    refine VW.if_le 41 (by decide) dX8_distance_34 (by decide) (fun c34 => absurd c34 (by decide)) (fun _ => ?_)
    refine VW.iconst dX8_distance_37 ?_
    refine VW.goto 60 dX8_distance_38 (by decide) ?_
    refine VW.ireturn dX8_distance_60 rfl rfl ?_
    exact fxP.ii (tL_x (if_pos (by omega)) gt (by decide) (mup_s _ _ _ _))
  · rw [bI0d] at c6
    have c6 := Classical.not_not.mp c6
    refine VW.iload_n dX8_distance_9 rfl ?_
    refine VW.iconst dX8_distance_10 ?_
    refine VW.icmp_eq 22 ⟨by omega, by omega⟩ ⟨by omega, by omega⟩ dX8_distance_11 (by decide) (fun c11 => ?_) (fun c11 => ?_)
    · try (rw [bI0d] at c19)
      try (have c19 := Classical.not_not.mp c19)
      refine VW.iconst dX8_distance_22 ?_
      refine VW.goto 27 dX8_distance_23 (by decide) ?_
      refine VW.putI dX8_distance_27 fp_X8_43 (by have := hm.1; omega) hm.2.1 rfl ?_
      have gt : frK aL bL μ (mup μ 273 5 0) := frK_f.wid (by decide) (by decide)
      have ht : zR ((mup μ 273 5 0) 274) xs ys C S := hz.keep (frK_f : frK [] [5] μ _) (by decide)
      refine VW.aload_n dX8_distance_30 rfl ?_
      refine VW.getI dX8_distance_31 fa_X8_43 (by have := hm.1; omega) hm.2.1 rfl ?_
      rw [mup_s]
      refine VW.if_le 41 (by decide) dX8_distance_34 (by decide) (fun _ => ?_) (fun c34 => absurd c34 (by decide))
      refine VW.iload_n dX8_distance_41 rfl ?_
      refine VW.iconst dX8_distance_42 ?_
      refine VW.icmp_ne 54 ⟨by omega, by omega⟩ ⟨by omega, by omega⟩ dX8_distance_43 (by decide) (fun c43 => ?_) (fun c43 => ?_)
      · refine VW.aload_n dX8_distance_54 rfl ?_
        refine VW.iload_n dX8_distance_55 rfl ?_
        refine VW.iload_n dX8_distance_56 rfl ?_
        refine VW.fiV2 cv_X8_distance_X8_distanceOf dX8_distance_57 (Nat.le_of_ble_eq_true rfl) (by have := hm.1; omega) hm.2.1 (t_distanceOf hst hm ht ok (c := c) (by omega) (q := u) (by omega)) (fun r9 μ9 h9 => ?_)
        refine VW.ireturn dX8_distance_60 rfl rfl ?_
        obtain ⟨rfl, h9f⟩ := h9
        refine fxP.ii (tL_r ?_ (gt.tr (h9f.wid (by decide) (by decide))) (by rw [h9f.2 5 (by decide), mup_s]))
        refine (if_neg (by omega)).trans ?_
        first
        | (rw [if_pos (by omega)]; done)
        | (rw [if_neg (by omega)]; done)
      · refine VW.aload_n dX8_distance_46 rfl ?_
        refine VW.iload_n dX8_distance_47 rfl ?_
        refine VW.fiV1 cv_X8_distance_X8_pathDistance dX8_distance_48 (Nat.le_of_ble_eq_true rfl) (by have := hm.1; omega) hm.2.1 (t_pathDistance hst hm ht ok (c := c) (by omega)) (fun r9 μ9 h9 => ?_)
        refine VW.goto 60 dX8_distance_51 (by decide) ?_
        refine VW.ireturn dX8_distance_60 rfl rfl ?_
        obtain ⟨rfl, h9f⟩ := h9
        refine fxP.ii (tL_r ?_ (gt.tr (h9f.wid (by decide) (by decide))) (by rw [h9f.2 5 (by decide), mup_s]))
        refine (if_neg (by omega)).trans ?_
        first
        | (rw [if_pos (by omega)]; done)
        | (rw [if_neg (by omega)]; done)
    · refine VW.aload_n dX8_distance_14 rfl ?_
      refine VW.iload_n dX8_distance_15 rfl ?_
      refine VW.pV1 cv_X8_distance_X8_isCommand dX8_distance_16 (Nat.le_of_ble_eq_true rfl) (by have := hm.1; omega) hm.2.1 (t_isCommand hst hm hz ok hu) ?_
      refine VW.if_eq 26 (bR2 _) dX8_distance_19 (by decide) (fun c19 => ?_) (fun c19 => ?_)
      · first | (rw [bI0d] at c19) | (rw [bI0d] at c6)
        refine VW.iconst dX8_distance_26 ?_
        refine VW.putI dX8_distance_27 fp_X8_43 (by have := hm.1; omega) hm.2.1 rfl ?_
        have gt : frK aL bL μ (mup μ 273 5 1) := frK_f.wid (by decide) (by decide)
        have ht : zR ((mup μ 273 5 1) 274) xs ys C S := hz.keep (frK_f : frK [] [5] μ _) (by decide)
        refine VW.aload_n dX8_distance_30 rfl ?_
        refine VW.getI dX8_distance_31 fa_X8_43 (by have := hm.1; omega) hm.2.1 rfl ?_
        rw [mup_s]
        refine VW.if_le 41 (by decide) dX8_distance_34 (by decide) (fun c34 => absurd c34 (by decide)) (fun _ => ?_)
        refine VW.iconst dX8_distance_37 ?_
        refine VW.goto 60 dX8_distance_38 (by decide) ?_
        refine VW.ireturn dX8_distance_60 rfl rfl ?_
        exact fxP.ii (tL_x (if_pos (by omega)) gt (by decide) (mup_s _ _ _ _))
      · try (rw [bI0d] at c19)
        try (have c19 := Classical.not_not.mp c19)
        refine VW.iconst dX8_distance_22 ?_
        refine VW.goto 27 dX8_distance_23 (by decide) ?_
        refine VW.putI dX8_distance_27 fp_X8_43 (by have := hm.1; omega) hm.2.1 rfl ?_
        have gt : frK aL bL μ (mup μ 273 5 0) := frK_f.wid (by decide) (by decide)
        have ht : zR ((mup μ 273 5 0) 274) xs ys C S := hz.keep (frK_f : frK [] [5] μ _) (by decide)
        refine VW.aload_n dX8_distance_30 rfl ?_
        refine VW.getI dX8_distance_31 fa_X8_43 (by have := hm.1; omega) hm.2.1 rfl ?_
        rw [mup_s]
        refine VW.if_le 41 (by decide) dX8_distance_34 (by decide) (fun _ => ?_) (fun c34 => absurd c34 (by decide))
        refine VW.iload_n dX8_distance_41 rfl ?_
        refine VW.iconst dX8_distance_42 ?_
        refine VW.icmp_ne 54 ⟨by omega, by omega⟩ ⟨by omega, by omega⟩ dX8_distance_43 (by decide) (fun c43 => ?_) (fun c43 => ?_)
        · refine VW.aload_n dX8_distance_54 rfl ?_
          refine VW.iload_n dX8_distance_55 rfl ?_
          refine VW.iload_n dX8_distance_56 rfl ?_
          refine VW.fiV2 cv_X8_distance_X8_distanceOf dX8_distance_57 (Nat.le_of_ble_eq_true rfl) (by have := hm.1; omega) hm.2.1 (t_distanceOf hst hm ht ok (c := c) (by omega) (q := u) (by omega)) (fun r9 μ9 h9 => ?_)
          refine VW.ireturn dX8_distance_60 rfl rfl ?_
          obtain ⟨rfl, h9f⟩ := h9
          refine fxP.ii (tL_r ?_ (gt.tr (h9f.wid (by decide) (by decide))) (by rw [h9f.2 5 (by decide), mup_s]))
          refine (if_neg (by omega)).trans ?_
          first
          | (rw [if_pos (by omega)]; done)
          | (rw [if_neg (by omega)]; done)
        · refine VW.aload_n dX8_distance_46 rfl ?_
          refine VW.iload_n dX8_distance_47 rfl ?_
          refine VW.fiV1 cv_X8_distance_X8_pathDistance dX8_distance_48 (Nat.le_of_ble_eq_true rfl) (by have := hm.1; omega) hm.2.1 (t_pathDistance hst hm ht ok (c := c) (by omega)) (fun r9 μ9 h9 => ?_)
          refine VW.goto 60 dX8_distance_51 (by decide) ?_
          refine VW.ireturn dX8_distance_60 rfl rfl ?_
          obtain ⟨rfl, h9f⟩ := h9
          refine fxP.ii (tL_r ?_ (gt.tr (h9f.wid (by decide) (by decide))) (by rw [h9f.2 5 (by decide), mup_s]))
          refine (if_neg (by omega)).trans ?_
          first
          | (rw [if_pos (by omega)]; done)
          | (rw [if_neg (by omega)]; done)
theorem t_reading (hst : l.stackTraces = false) (hm : isM N sh) (h : hasM μ xs ys C S Z B) (ok : okS ((xs, ys), C, S)) (hw : R32 w) : Zi G l N sh M_X8_reading [.ref (gB G + 273), vI w] μ (tL (lkReading xs ys C S w) μ) := by
  refine Fx.of hst rfl (by decide +kernel) (Nat.le_of_ble_eq_true rfl) rfl ?_
  obtain ⟨⟨ok1, ok2, ok3, ok4⟩, ⟨ok5, ok6, ok7⟩, ok8⟩ := okS.un ok
  obtain ⟨hz, hn, hh, hb, hB⟩ := id h
  obtain ⟨hw5, hw0, hw1, hw2, hw3, hw4⟩ := id ok8
  have z5 : μ 274 5 = (xs.length : Int) := hz.2.1
  have z6 : μ 274 6 = (C.length : Int) := hz.2.2.1
  refine VW.aload_n dX8_reading_0 rfl ?_
  refine VW.iload_n dX8_reading_1 rfl ?_
  refine VW.iconst dX8_reading_2 ?_
  refine VW.iconst dX8_reading_3 ?_
  refine VW.pS3 cs_X8_reading_X8_within dX8_reading_4 (Nat.le_of_ble_eq_true rfl) (t_within hst hw ⟨by omega, by omega⟩ ⟨by omega, by omega⟩) ?_
  refine VW.if_eq 14 (bR2 _) dX8_reading_7 (by decide) (fun c7 => ?_) (fun c7 => ?_)
  · rw [bI0d] at c7
    refine VW.iconst dX8_reading_14 ?_
    refine VW.putI dX8_reading_15 fp_X8_43 (by have := hm.1; omega) hm.2.1 rfl ?_
    have gt : frK aL bL μ (mup μ 273 5 1) := frK_f.wid (by decide) (by decide)
    have ht : zR ((mup μ 273 5 1) 274) xs ys C S := hz.keep (frK_f : frK [] [5] μ _) (by decide)
    refine VW.aload_n dX8_reading_18 rfl ?_
    refine VW.getI dX8_reading_19 fa_X8_43 (by have := hm.1; omega) hm.2.1 rfl ?_
    rw [mup_s]
    refine VW.if_le 29 (by decide) dX8_reading_22 (by decide) (fun c22 => absurd c22 (by decide)) (fun _ => ?_)
    refine VW.iconst dX8_reading_25 ?_
    refine VW.goto 34 dX8_reading_26 (by decide) ?_
    refine VW.ireturn dX8_reading_34 rfl rfl ?_
    exact fxP.ii (tL_x (if_pos (by omega)) gt (by decide) (mup_s _ _ _ _))
  · rw [bI0d] at c7
    have c7 := Classical.not_not.mp c7
    refine VW.iconst dX8_reading_10 ?_
    refine VW.goto 15 dX8_reading_11 (by decide) ?_
    refine VW.putI dX8_reading_15 fp_X8_43 (by have := hm.1; omega) hm.2.1 rfl ?_
    have gt : frK aL bL μ (mup μ 273 5 0) := frK_f.wid (by decide) (by decide)
    have ht : zR ((mup μ 273 5 0) 274) xs ys C S := hz.keep (frK_f : frK [] [5] μ _) (by decide)
    refine VW.aload_n dX8_reading_18 rfl ?_
    refine VW.getI dX8_reading_19 fa_X8_43 (by have := hm.1; omega) hm.2.1 rfl ?_
    rw [mup_s]
    refine VW.if_le 29 (by decide) dX8_reading_22 (by decide) (fun _ => ?_) (fun c22 => absurd c22 (by decide))
    refine VW.aload_n dX8_reading_29 rfl ?_
    refine VW.iload_n dX8_reading_30 rfl ?_
    refine VW.fiV1 cv_X8_reading_X8_readingNow dX8_reading_31 (Nat.le_of_ble_eq_true rfl) (by have := hm.1; omega) hm.2.1 (t_readingNow hst hm ht ok (w := w) (by omega)) (fun r9 μ9 h9 => ?_)
    refine VW.ireturn dX8_reading_34 rfl rfl ?_
    obtain ⟨rfl, h9f⟩ := h9
    exact fxP.ii (tL_r (if_neg (by omega)) (gt.tr (h9f.wid (by decide) (by decide))) (by rw [h9f.2 5 (by decide), mup_s]))
theorem t_count (hst : l.stackTraces = false) (hm : isM N sh) (h : hasM μ xs ys C S Z B) (ok : okS ((xs, ys), C, S)) (hw : R32 w) : Zi G l N sh M_X8_count [.ref (gB G + 273), vI w] μ (tL (lkCount xs ys C S Z w) μ) := by
  refine Fx.of hst rfl (by decide +kernel) (Nat.le_of_ble_eq_true rfl) rfl ?_
  obtain ⟨⟨ok1, ok2, ok3, ok4⟩, ⟨ok5, ok6, ok7⟩, ok8⟩ := okS.un ok
  obtain ⟨hz, hn, hh, hb, hB⟩ := id h
  obtain ⟨hw5, hw0, hw1, hw2, hw3, hw4⟩ := id ok8
  have z5 : μ 274 5 = (xs.length : Int) := hz.2.1
  have z6 : μ 274 6 = (C.length : Int) := hz.2.2.1
  refine VW.aload_n dX8_count_0 rfl ?_
  refine VW.iload_n dX8_count_1 rfl ?_
  refine VW.iconst dX8_count_2 ?_
  refine VW.bipush dX8_count_3 rfl ?_
  refine VW.pS3 cs_X8_count_X8_within dX8_count_5 (Nat.le_of_ble_eq_true rfl) (t_within hst hw ⟨by omega, by omega⟩ ⟨by omega, by omega⟩) ?_
  refine VW.if_eq 15 (bR2 _) dX8_count_8 (by decide) (fun c8 => ?_) (fun c8 => ?_)
  · rw [bI0d] at c8
    refine VW.iconst dX8_count_15 ?_
    refine VW.putI dX8_count_16 fp_X8_43 (by have := hm.1; omega) hm.2.1 rfl ?_
    have gt : frK aL bL μ (mup μ 273 5 1) := frK_f.wid (by decide) (by decide)
    have ht : zR ((mup μ 273 5 1) 274) xs ys C S := hz.keep (frK_f : frK [] [5] μ _) (by decide)
    refine VW.aload_n dX8_count_19 rfl ?_
    refine VW.getI dX8_count_20 fa_X8_43 (by have := hm.1; omega) hm.2.1 rfl ?_
    rw [mup_s]
    refine VW.if_le 30 (by decide) dX8_count_23 (by decide) (fun c23 => absurd c23 (by decide)) (fun _ => ?_)
    refine VW.iconst dX8_count_26 ?_
    refine VW.goto 35 dX8_count_27 (by decide) ?_
    refine VW.ireturn dX8_count_35 rfl rfl ?_
    exact fxP.ii (tL_x (if_pos (by omega)) gt (by decide) (mup_s _ _ _ _))
  · rw [bI0d] at c8
    have c8 := Classical.not_not.mp c8
    refine VW.iconst dX8_count_11 ?_
    refine VW.goto 16 dX8_count_12 (by decide) ?_
    refine VW.putI dX8_count_16 fp_X8_43 (by have := hm.1; omega) hm.2.1 rfl ?_
    have gt : frK aL bL μ (mup μ 273 5 0) := frK_f.wid (by decide) (by decide)
    have ht : zR ((mup μ 273 5 0) 274) xs ys C S := hz.keep (frK_f : frK [] [5] μ _) (by decide)
    refine VW.aload_n dX8_count_19 rfl ?_
    refine VW.getI dX8_count_20 fa_X8_43 (by have := hm.1; omega) hm.2.1 rfl ?_
    rw [mup_s]
    refine VW.if_le 30 (by decide) dX8_count_23 (by decide) (fun _ => ?_) (fun c23 => absurd c23 (by decide))
    refine VW.aload_n dX8_count_30 rfl ?_
    refine VW.iload_n dX8_count_31 rfl ?_
    refine VW.fiV1 cv_X8_count_X8_counted dX8_count_32 (Nat.le_of_ble_eq_true rfl) (by have := hm.1; omega) hm.2.1 (t_counted hst hm ht ok (Z := Z) (w := w) ((mup_k (by decide)).trans hn) (by omega)) (fun r9 μ9 h9 => ?_)
    refine VW.ireturn dX8_count_35 rfl rfl ?_
    obtain ⟨rfl, h9f⟩ := h9
    exact fxP.ii (tL_r (if_neg (by omega)) (gt.tr (h9f.wid (by decide) (by decide))) (by rw [h9f.2 5 (by decide), mup_s]))
theorem t_setting (hst : l.stackTraces = false) (hm : isM N sh) (h : hasM μ xs ys C S Z B) (ok : okS ((xs, ys), C, S)) (hs : R32 s) : Zi G l N sh M_X8_setting [.ref (gB G + 273), vI s] μ (tL (lkSetting S s) μ) := by
  refine Fx.of hst rfl (by decide +kernel) (Nat.le_of_ble_eq_true rfl) rfl ?_
  obtain ⟨⟨ok1, ok2, ok3, ok4⟩, ⟨ok5, ok6, ok7⟩, ok8⟩ := okS.un ok
  obtain ⟨hz, hn, hh, hb, hB⟩ := id h
  obtain ⟨hw5, hw0, hw1, hw2, hw3, hw4⟩ := id ok8
  have z5 : μ 274 5 = (xs.length : Int) := hz.2.1
  have z6 : μ 274 6 = (C.length : Int) := hz.2.2.1
  refine VW.aload_n dX8_setting_0 rfl ?_
  refine VW.iload_n dX8_setting_1 rfl ?_
  refine VW.pS1 cs_X8_setting_X8_isSetting dX8_setting_2 (Nat.le_of_ble_eq_true rfl) (t_isSetting hst hs) ?_
  refine VW.if_eq 12 (bR2 _) dX8_setting_5 (by decide) (fun c5 => ?_) (fun c5 => ?_)
  · rw [bI0d] at c5
    refine VW.iconst dX8_setting_12 ?_
    refine VW.putI dX8_setting_13 fp_X8_43 (by have := hm.1; omega) hm.2.1 rfl ?_
    have gt : frK aL bL μ (mup μ 273 5 1) := frK_f.wid (by decide) (by decide)
    have ht : zR ((mup μ 273 5 1) 274) xs ys C S := hz.keep (frK_f : frK [] [5] μ _) (by decide)
    refine VW.aload_n dX8_setting_16 rfl ?_
    refine VW.getI dX8_setting_17 fa_X8_43 (by have := hm.1; omega) hm.2.1 rfl ?_
    rw [mup_s]
    refine VW.if_le 27 (by decide) dX8_setting_20 (by decide) (fun c20 => absurd c20 (by decide)) (fun _ => ?_)
    refine VW.iconst dX8_setting_23 ?_
    refine VW.goto 33 dX8_setting_24 (by decide) ?_
    skip
    refine VW.ireturn dX8_setting_33 rfl rfl ?_
    exact fxP.ii (tL_x (if_pos (by omega)) gt (by decide) (mup_s _ _ _ _))
  · rw [bI0d] at c5
    have c5 := Classical.not_not.mp c5
    refine VW.iconst dX8_setting_8 ?_
    refine VW.goto 13 dX8_setting_9 (by decide) ?_
    refine VW.putI dX8_setting_13 fp_X8_43 (by have := hm.1; omega) hm.2.1 rfl ?_
    have gt : frK aL bL μ (mup μ 273 5 0) := frK_f.wid (by decide) (by decide)
    have ht : zR ((mup μ 273 5 0) 274) xs ys C S := hz.keep (frK_f : frK [] [5] μ _) (by decide)
    refine VW.aload_n dX8_setting_16 rfl ?_
    refine VW.getI dX8_setting_17 fa_X8_43 (by have := hm.1; omega) hm.2.1 rfl ?_
    rw [mup_s]
    refine VW.if_le 27 (by decide) dX8_setting_20 (by decide) (fun _ => ?_) (fun c20 => absurd c20 (by decide))
    refine VW.aload_n dX8_setting_27 rfl ?_
    refine VW.getR dX8_setting_28 fa_X8_7 (by have := hm.1; omega) hm.2.1 rfl ?_
    refine VW.iload_n dX8_setting_31 rfl ?_
    refine VW.iaload dX8_setting_32 (by have := hm.1; omega) hm.2.2.1 (by omega) (by omega) (by decide) ?_
    rw [show (mup μ 273 5 0) 274 s.toNat = rat S s from ht.1 s (by omega)]
    refine VW.ireturn dX8_setting_33 rfl rfl ?_
    exact fxP.ii (tL_r (if_neg (by omega)) gt (mup_s _ _ _ _))
theorem t_ifPoint (hst : l.stackTraces = false) (hm : isM N sh) (h : hasM μ xs ys C S Z B) (ok : okS ((xs, ys), C, S)) (hx : R32 x) (hy : R32 y) : Zi G l N sh M_X8_ifPoint [.ref (gB G + 273), vI x, vI y] μ (tL (lkIfPoint xs ys C S x y) μ) := by
  refine Fx.of hst rfl (by decide +kernel) (Nat.le_of_ble_eq_true rfl) rfl ?_
  obtain ⟨⟨ok1, ok2, ok3, ok4⟩, ⟨ok5, ok6, ok7⟩, ok8⟩ := okS.un ok
  obtain ⟨hz, hn, hh, hb, hB⟩ := id h
  obtain ⟨hw5, hw0, hw1, hw2, hw3, hw4⟩ := id ok8
  have z5 : μ 274 5 = (xs.length : Int) := hz.2.1
  have z6 : μ 274 6 = (C.length : Int) := hz.2.2.1
  refine VW.aload_n dX8_ifPoint_0 rfl ?_
  refine VW.iload_n dX8_ifPoint_1 rfl ?_
  refine VW.iload_n dX8_ifPoint_2 rfl ?_
  refine VW.pS2 cs_X8_ifPoint_X8_isOnLattice dX8_ifPoint_3 (Nat.le_of_ble_eq_true rfl) (t_isOnLattice hst hx hy) ?_
  refine VW.if_eq 13 (bR2 _) dX8_ifPoint_6 (by decide) (fun c6 => ?_) (fun c6 => ?_)
  · rw [bI0] at c6
    refine VW.iconst dX8_ifPoint_13 ?_
    refine VW.putI dX8_ifPoint_14 fp_X8_43 (by have := hm.1; omega) hm.2.1 rfl ?_
    have gt : frK aL bL μ (mup μ 273 5 1) := frK_f.wid (by decide) (by decide)
    have ht : zR ((mup μ 273 5 1) 274) xs ys C S := hz.keep (frK_f : frK [] [5] μ _) (by decide)
    refine VW.aload_n dX8_ifPoint_17 rfl ?_
    refine VW.getI dX8_ifPoint_18 fa_X8_43 (by have := hm.1; omega) hm.2.1 rfl ?_
    rw [mup_s]
    refine VW.if_le 28 (by decide) dX8_ifPoint_21 (by decide) (fun c21 => absurd c21 (by decide)) (fun _ => ?_)
    refine VW.iconst dX8_ifPoint_24 ?_
    refine VW.goto 34 dX8_ifPoint_25 (by decide) ?_
    refine VW.ireturn dX8_ifPoint_34 rfl rfl ?_
    exact fxP.ii (tL_x (if_pos c6) gt (by decide) (mup_s _ _ _ _))
  · rw [bI0] at c6
    have c6 := Classical.not_not.mp c6
    refine VW.iconst dX8_ifPoint_9 ?_
    refine VW.goto 14 dX8_ifPoint_10 (by decide) ?_
    refine VW.putI dX8_ifPoint_14 fp_X8_43 (by have := hm.1; omega) hm.2.1 rfl ?_
    have gt : frK aL bL μ (mup μ 273 5 0) := frK_f.wid (by decide) (by decide)
    have ht : zR ((mup μ 273 5 0) 274) xs ys C S := hz.keep (frK_f : frK [] [5] μ _) (by decide)
    refine VW.aload_n dX8_ifPoint_17 rfl ?_
    refine VW.getI dX8_ifPoint_18 fa_X8_43 (by have := hm.1; omega) hm.2.1 rfl ?_
    rw [mup_s]
    refine VW.if_le 28 (by decide) dX8_ifPoint_21 (by decide) (fun _ => ?_) (fun c21 => absurd c21 (by decide))
    refine VW.aload_n dX8_ifPoint_28 rfl ?_
    refine VW.iload_n dX8_ifPoint_29 rfl ?_
    refine VW.iload_n dX8_ifPoint_30 rfl ?_
    refine VW.fiV2 cv_X8_ifPoint_X8_pointThen dX8_ifPoint_31 (Nat.le_of_ble_eq_true rfl) (by have := hm.1; omega) hm.2.1 (t_pointThen hst hm ht ok (x := x) (y := y) (onL c6).1 (onL c6).2) (fun r9 μ9 h9 => ?_)
    refine VW.ireturn dX8_ifPoint_34 rfl rfl ?_
    obtain ⟨rfl, h9f⟩ := h9
    exact fxP.ii (tL_r (if_neg (fun w => w c6)) (gt.tr (h9f.wid (by decide) (by decide))) (by rw [h9f.2 5 (by decide), mup_s]))
theorem t_against (hst : l.stackTraces = false) (hm : isM N sh) (h : hasM μ xs ys C S Z B) (ok : okS ((xs, ys), C, S)) : Zi G l N sh M_X8_against [.ref (gB G + 273)] μ (fun r μ' => r = agn xs ys C S ∧ frK aL bL μ μ') := by
  refine Fx.of hst rfl (by decide +kernel) (Nat.le_of_ble_eq_true rfl) rfl ?_
  obtain ⟨⟨ok1, ok2, ok3, ok4⟩, ⟨ok5, ok6, ok7⟩, ok8⟩ := okS.un ok
  obtain ⟨hz, hn, hh, hb, hB⟩ := id h
  obtain ⟨hw5, hw0, hw1, hw2, hw3, hw4⟩ := id ok8
  have z5 : μ 274 5 = (xs.length : Int) := hz.2.1
  have z6 : μ 274 6 = (C.length : Int) := hz.2.2.1
  refine VW.aload_n dX8_against_0 rfl ?_
  refine VW.iconst dX8_against_1 ?_
  refine VW.putI dX8_against_2 fp_X8_43 (by have := hm.1; omega) hm.2.1 rfl ?_
  have gt : frK aL bL μ (mup μ 273 5 0) := frK_f.wid (by decide) (by decide)
  have ht : zR ((mup μ 273 5 0) 274) xs ys C S := hz.keep (frK_f : frK [] [5] μ _) (by decide)
  refine VW.aload_n dX8_against_5 rfl ?_
  refine VW.fiV0 cv_X8_against_X8_againstNow dX8_against_6 (Nat.le_of_ble_eq_true rfl) (by have := hm.1; omega) hm.2.1 (t_againstNow hst hm ht ok) (fun r9 μ9 h9 => ?_)
  refine VW.ireturn dX8_against_9 rfl rfl ?_
  exact fxP.ii ⟨h9.1, gt.tr (h9.2.wid (by decide) (by decide))⟩
theorem t_mostForgiven (hst : l.stackTraces = false) (hm : isM N sh) (h : hasM μ xs ys C S Z B) (ok : okS ((xs, ys), C, S)) : Zi G l N sh M_X8_mostForgiven [.ref (gB G + 273)] μ (fun r μ' => r = mostF C S ∧ frK aL bL μ μ') := by
  refine Fx.of hst rfl (by decide +kernel) (Nat.le_of_ble_eq_true rfl) rfl ?_
  obtain ⟨⟨ok1, ok2, ok3, ok4⟩, ⟨ok5, ok6, ok7⟩, ok8⟩ := okS.un ok
  obtain ⟨hz, hn, hh, hb, hB⟩ := id h
  obtain ⟨hw5, hw0, hw1, hw2, hw3, hw4⟩ := id ok8
  have z5 : μ 274 5 = (xs.length : Int) := hz.2.1
  have z6 : μ 274 6 = (C.length : Int) := hz.2.2.1
  refine VW.aload_n dX8_mostForgiven_0 rfl ?_
  refine VW.iconst dX8_mostForgiven_1 ?_
  refine VW.putI dX8_mostForgiven_2 fp_X8_43 (by have := hm.1; omega) hm.2.1 rfl ?_
  have gt : frK aL bL μ (mup μ 273 5 0) := frK_f.wid (by decide) (by decide)
  have ht : zR ((mup μ 273 5 0) 274) xs ys C S := hz.keep (frK_f : frK [] [5] μ _) (by decide)
  refine VW.aload_n dX8_mostForgiven_5 rfl ?_
  refine VW.fiV0 cv_X8_mostForgiven_X8_mostNow dX8_mostForgiven_6 (Nat.le_of_ble_eq_true rfl) (by have := hm.1; omega) hm.2.1 (t_mostNow hst hm ht ok) (fun r9 μ9 h9 => ?_)
  refine VW.ireturn dX8_mostForgiven_9 rfl rfl ?_
  exact fxP.ii ⟨h9.1, gt.tr (h9.2.wid (by decide) (by decide))⟩
end PX
