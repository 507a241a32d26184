/-! ===== the model: the calls that change, 2 ===== -/
section PR
variable {G : GT} {l : Launch} {N : Nat} {sh : Nat → ShT} {μ μ' : Mem} {xs ys S D Ln : List Int} {C : List (List Int)} {v lo hi : Int}
variable {Z : List St} {B : List Int} {q : QS}
theorem nbF_min (D : List Int) : ∀ (n : Nat) (o b : Int), 0 ≤ o → -1 ≤ b ∧ b < o → (nbF D (-1) n o b = -1 ∧ b = -1 ∧ n = 0) ∨ (nbF D (-1) n o b ≠ -1 ∧ (b ≠ -1 → rat D (nbF D (-1) n o b) ≤ rat D b) ∧ ∀ i, o ≤ i ∧ i < o + n → rat D (nbF D (-1) n o b) ≤ rat D i)
  | 0, o, b, h0, hb => by
    show (b = -1 ∧ b = -1 ∧ (0 : Nat) = 0) ∨ (b ≠ -1 ∧ (b ≠ -1 → rat D b ≤ rat D b) ∧ ∀ i, o ≤ i ∧ i < o + 0 → rat D b ≤ rat D i)
    by_cases h : b = -1
    · exact Or.inl ⟨h, h, rfl⟩
    · exact Or.inr ⟨h, fun _ => by omega, fun i hi => by omega⟩
  | n + 1, o, b, h0, hb => by
    show (nbF D (-1) n (o + 1) (nbS D (-1) o b) = -1 ∧ b = -1 ∧ n + 1 = 0) ∨ (nbF D (-1) n (o + 1) (nbS D (-1) o b) ≠ -1 ∧ (b ≠ -1 → rat D (nbF D (-1) n (o + 1) (nbS D (-1) o b)) ≤ rat D b) ∧ ∀ i, o ≤ i ∧ i < o + ((n + 1 : Nat) : Int) → rat D (nbF D (-1) n (o + 1) (nbS D (-1) o b)) ≤ rat D i)
    by_cases h : b = -1 ∨ rat D o < rat D b
    · have e : nbS D (-1) o b = o := if_pos ⟨by omega, h⟩
      rw [e]
      rcases nbF_min D n (o + 1) o (by omega) (by omega) with ih | ⟨i1, i2, i3⟩
      · omega
      · have i2' := i2 (by omega)
        refine Or.inr ⟨i1, fun hb2 => by omega, fun i hi => ?_⟩
        by_cases hi2 : i = o
        · rw [hi2]; exact i2'
        · exact i3 i (by omega)
    · have e : nbS D (-1) o b = b := if_neg (by omega)
      rw [e]
      rcases nbF_min D n (o + 1) b (by omega) (by omega) with ih | ⟨i1, i2, i3⟩
      · omega
      · have i2' := i2 (by omega)
        refine Or.inr ⟨i1, i2, fun i hi => ?_⟩
        by_cases hi2 : i = o
        · rw [hi2]; omega
        · exact i3 i (by omega)
theorem tnF_iff (C : List (List Int)) (S D : List Int) : ∀ (n : Nat) (i : Int), tnF C S D n i = true ↔ ∃ j, i ≤ j ∧ j < i + n ∧ dstOf S D (C.getD j.toNat []) ≤ 2 * rat S 4
  | 0, i => ⟨fun h => (by cases h), fun ⟨j, a, b, _⟩ => (by omega)⟩
  | n + 1, i => by
    show (if dstOf S D (C.getD i.toNat []) ≤ 2 * rat S 4 then true else tnF C S D n (i + 1)) = true ↔ _
    by_cases h : dstOf S D (C.getD i.toNat []) ≤ 2 * rat S 4
    · rw [if_pos h]
      exact ⟨fun _ => ⟨i, by omega, by omega, h⟩, fun _ => rfl⟩
    · rw [if_neg h, tnF_iff C S D n (i + 1)]
      exact ⟨fun ⟨j, a, b, c⟩ => ⟨j, by omega, by omega, c⟩, fun ⟨j, a, b, c⟩ => ⟨j, by by_cases e : j = i; { rw [e] at c; exact absurd c h }; { omega }, by omega, c⟩⟩
theorem tn_too (S D : List Int) (C : List (List Int)) : tnM S D C = -1 ↔ tooN C S D = false := by
  have hm := nbF_min (C.map (dstOf S D)) C.length 0 (-1) (by omega) (by omega)
  have hb := nbut_b (C.map (dstOf S D)) (-1)
  rw [List.length_map] at hb
  have ht := tnF_iff C S D C.length 0
  have e : nbut (C.map (dstOf S D)) (-1) = nbF (C.map (dstOf S D)) (-1) C.length 0 (-1) := by unfold nbut; rw [List.length_map]
  rw [← e] at hm
  unfold tnM tooN
  constructor
  · intro h
    cases hh : tnF C S D C.length 0 with
    | false => rfl
    | true =>
      exfalso
      obtain ⟨j, a, b, c⟩ := ht.mp hh
      rcases hm with ⟨h1, h2, h3⟩ | ⟨h1, h2, h3⟩
      · omega
      · have h4 := h3 j (by omega)
        rw [rat_map _ ⟨by omega, by omega⟩] at h4
        rw [if_neg] at h
        · omega
        · rintro (q | q)
          · exact h1 q
          · rw [rat_map _ ⟨by omega, by omega⟩] at q
            rw [rat_map (c := j) _ ⟨by omega, by omega⟩] at h4
            omega
  · intro h
    by_cases hc : nbut (C.map (dstOf S D)) (-1) = -1
    · rw [if_pos (Or.inl hc)]
    · refine if_pos (Or.inr ?_)
      rw [rat_map _ ⟨by omega, by omega⟩]
      rcases (by omega : 2 * rat S 4 < dstOf S D (C.getD (nbut (C.map (dstOf S D)) (-1)).toNat []) ∨ dstOf S D (C.getD (nbut (C.map (dstOf S D)) (-1)).toNat []) ≤ 2 * rat S 4) with q | q
      · exact q
      · rw [ht.mpr ⟨nbut (C.map (dstOf S D)) (-1), by omega, by omega, q⟩] at h
        cases h
theorem t_canLearn (hst : l.stackTraces = false) (hm : isM N sh) (hz : zR (μ 274) xs ys C S) (ok : okS ((xs, ys), C, S)) (hK : hasK μ D) (hDl : D.length ≤ 40) (hDb : bnd D 0 7) : Zi G l N sh M_X8_canLearn [.ref (gB G + 273)] μ (fun r μ' => r = bI (decide (C.length < 10 ∧ 1 ≤ D.length ∧ D.length ≤ 8 ∧ tooN C S D = false)) ∧ frK [282] [] μ μ') := by
  refine Fx.of hst rfl (by decide +kernel) (Nat.le_of_ble_eq_true rfl) rfl ?_
  obtain ⟨⟨ok1, ok2, ok3, ok4⟩, ⟨ok5, ok6, ok7⟩, ok8⟩ := okS.un ok
  obtain ⟨hw5, hw0, hw1, hw2, hw3, hw4⟩ := id ok8
  have z6 : μ 274 6 = (C.length : Int) := hz.2.2.1
  refine VW.aload_n dX8_canLearn_0 rfl ?_
  refine VW.getR dX8_canLearn_1 fa_X8_7 (by have := hm.1; omega) hm.2.1 rfl ?_
  refine VW.bipush dX8_canLearn_4 rfl ?_
  refine VW.iaload dX8_canLearn_6 (by have := hm.1; omega) hm.2.2.1 (by omega) (by omega) (by decide) ?_
  rw [show (6 : Int).toNat = 6 from rfl, z6]
  refine VW.bipush dX8_canLearn_7 rfl ?_
  refine VW.icmp_ge 37 ⟨by omega, by omega⟩ ⟨by omega, by omega⟩ dX8_canLearn_9 (by decide) (fun c9 => ?_) (fun c9 => ?_)
  · refine VW.iconst dX8_canLearn_37 ?_
    refine VW.ireturn dX8_canLearn_38 rfl rfl ?_
    first
    | (refine fxP.ii ⟨?_, frK.rf⟩
       rw [show decide (C.length < 10 ∧ 1 ≤ D.length ∧ D.length ≤ 8 ∧ tooN C S D = false) = false from decide_eq_false (by first | omega | (rw [bI0d] at c22; omega))]
       rfl)
    | (refine fxP.ii ⟨?_, h1f⟩
       first
       | (rw [show decide (C.length < 10 ∧ 1 ≤ D.length ∧ D.length ≤ 8 ∧ tooN C S D = false) = false from decide_eq_false (fun w => c30 (htn.mpr w.2.2.2))]; rfl)
       | (rw [show decide (C.length < 10 ∧ 1 ≤ D.length ∧ D.length ≤ 8 ∧ tooN C S D = false) = true from decide_eq_true ⟨by omega, by omega, by omega, htn.mp c30⟩]; rfl))
  · refine VW.aload_n dX8_canLearn_12 rfl ?_
    refine VW.getI dX8_canLearn_13 fa_X8_107 (by have := hm.1; omega) hm.2.1 rfl ?_
    rw [hK.1]
    refine VW.iconst dX8_canLearn_16 ?_
    refine VW.bipush dX8_canLearn_17 rfl ?_
    refine VW.pS3 cs_X8_canLearn_X8_within dX8_canLearn_19 (Nat.le_of_ble_eq_true rfl) (t_within hst ⟨by omega, by omega⟩ ⟨by omega, by omega⟩ ⟨by omega, by omega⟩) ?_
    refine VW.if_eq 37 (bR2 _) dX8_canLearn_22 (by decide) (fun c22 => ?_) (fun c22 => ?_)
    · refine VW.iconst dX8_canLearn_37 ?_
      refine VW.ireturn dX8_canLearn_38 rfl rfl ?_
      first
      | (refine fxP.ii ⟨?_, frK.rf⟩
         rw [show decide (C.length < 10 ∧ 1 ≤ D.length ∧ D.length ≤ 8 ∧ tooN C S D = false) = false from decide_eq_false (by first | omega | (rw [bI0d] at c22; omega))]
         rfl)
      | (refine fxP.ii ⟨?_, h1f⟩
         first
         | (rw [show decide (C.length < 10 ∧ 1 ≤ D.length ∧ D.length ≤ 8 ∧ tooN C S D = false) = false from decide_eq_false (fun w => c30 (htn.mpr w.2.2.2))]; rfl)
         | (rw [show decide (C.length < 10 ∧ 1 ≤ D.length ∧ D.length ≤ 8 ∧ tooN C S D = false) = true from decide_eq_true ⟨by omega, by omega, by omega, htn.mp c30⟩]; rfl))
    · refine VW.aload_n dX8_canLearn_25 rfl ?_
      refine VW.fiV0 cv_X8_canLearn_X8_tooNear dX8_canLearn_26 (Nat.le_of_ble_eq_true rfl) (by have := hm.1; omega) hm.2.1 (t_tooNear hst hm hz ok hK hDl hDb) (fun r1 μ1 h1 => ?_)
      obtain ⟨rfl, h1f⟩ := h1
      rw [bI0d] at c22
      have htn := tn_too S D C
      have nbb := nbut_b (C.map (dstOf S D)) (-1)
      rw [List.length_map] at nbb
      have tb : -1 ≤ tnM S D C ∧ tnM S D C ≤ 10 := by unfold tnM; split <;> omega
      refine VW.iconst dX8_canLearn_29 ?_
      refine VW.icmp_ne 37 ⟨by omega, by omega⟩ ⟨by omega, by omega⟩ dX8_canLearn_30 (by decide) (fun c30 => ?_) (fun c30 => ?_)
      · refine VW.iconst dX8_canLearn_37 ?_
        refine VW.ireturn dX8_canLearn_38 rfl rfl ?_
        first
        | (refine fxP.ii ⟨?_, frK.rf⟩
           rw [show decide (C.length < 10 ∧ 1 ≤ D.length ∧ D.length ≤ 8 ∧ tooN C S D = false) = false from decide_eq_false (by first | omega | (rw [bI0d] at c22; omega))]
           rfl)
        | (refine fxP.ii ⟨?_, h1f⟩
           first
           | (rw [show decide (C.length < 10 ∧ 1 ≤ D.length ∧ D.length ≤ 8 ∧ tooN C S D = false) = false from decide_eq_false (fun w => c30 (htn.mpr w.2.2.2))]; rfl)
           | (rw [show decide (C.length < 10 ∧ 1 ≤ D.length ∧ D.length ≤ 8 ∧ tooN C S D = false) = true from decide_eq_true ⟨by omega, by omega, by omega, htn.mp c30⟩]; rfl))
      · refine VW.iconst dX8_canLearn_33 ?_
        refine VW.goto 38 dX8_canLearn_34 (by decide) ?_
        refine VW.ireturn dX8_canLearn_38 rfl rfl ?_
        first
        | (refine fxP.ii ⟨?_, frK.rf⟩
           rw [show decide (C.length < 10 ∧ 1 ≤ D.length ∧ D.length ≤ 8 ∧ tooN C S D = false) = false from decide_eq_false (by first | omega | (rw [bI0d] at c22; omega))]
           rfl)
        | (refine fxP.ii ⟨?_, h1f⟩
           first
           | (rw [show decide (C.length < 10 ∧ 1 ≤ D.length ∧ D.length ≤ 8 ∧ tooN C S D = false) = false from decide_eq_false (fun w => c30 (htn.mpr w.2.2.2))]; rfl)
           | (rw [show decide (C.length < 10 ∧ 1 ≤ D.length ∧ D.length ≤ 8 ∧ tooN C S D = false) = true from decide_eq_true ⟨by omega, by omega, by omega, htn.mp c30⟩]; rfl))
theorem t_areApart (hst : l.stackTraces = false) (hm : isM N sh) (hz : zR (μ 274) xs ys C S) (ok : okS ((xs, ys), C, S)) : Zi G l N sh M_X8_areApart [.ref (gB G + 273)] μ (fun r μ' => r = bI (decide (leastA C S = -1 ∨ 2 * rat S 4 < leastA C S)) ∧ frK [281, 282] [13] μ μ') := by
  refine Fx.of hst rfl (by decide +kernel) (Nat.le_of_ble_eq_true rfl) rfl ?_
  obtain ⟨⟨ok1, ok2, ok3, ok4⟩, ⟨ok5, ok6, ok7⟩, ok8⟩ := okS.un ok
  obtain ⟨hw5, hw0, hw1, hw2, hw3, hw4⟩ := id ok8
  have z6 : μ 274 6 = (C.length : Int) := hz.2.2.1
  refine VW.aload_n dX8_areApart_0 rfl ?_
  refine VW.fiV0 cv_X8_areApart_X8_leastDistance dX8_areApart_1 (Nat.le_of_ble_eq_true rfl) (by have := hm.1; omega) hm.2.1 (t_leastDistance hst hm hz ok) (fun r1 μ1 h1 => ?_)
  obtain ⟨rfl, h1f⟩ := h1
  have lb := least_b ok8 ok6
  have z4 : μ1 274 4 = rat S 4 := (congrFun (h1f.1 274 (by decide) (by decide)) 4).trans (hz.1 4 (by omega))
  refine VW.istore_n (lv' := [(0, _), (1, _)]) dX8_areApart_4 (by decide) rfl ?_
  refine VW.iload_n dX8_areApart_5 rfl ?_
  refine VW.iconst dX8_areApart_6 ?_
  refine VW.icmp_eq 22 ⟨by omega, by omega⟩ ⟨by omega, by omega⟩ dX8_areApart_7 (by decide) (fun c7 => ?_) (fun c7 => ?_)
  · refine VW.iconst dX8_areApart_22 ?_
    refine VW.goto 27 dX8_areApart_23 (by decide) ?_
    refine VW.ireturn dX8_areApart_27 rfl rfl ?_
    refine fxP.ii ⟨?_, h1f⟩
    first
    | (rw [decide_eq_true (by omega)]; rfl; done)
    | (rw [decide_eq_false (by omega)]; rfl; done)
  · refine VW.iload_n dX8_areApart_10 rfl ?_
    refine VW.iconst dX8_areApart_11 ?_
    refine VW.aload_n dX8_areApart_12 rfl ?_
    refine VW.getR dX8_areApart_13 fa_X8_7 (by have := hm.1; omega) hm.2.1 rfl ?_
    refine VW.iconst dX8_areApart_16 ?_
    refine VW.iaload dX8_areApart_17 (by have := hm.1; omega) hm.2.2.1 (by omega) (by omega) (by decide) ?_
    rw [show (4 : Int).toNat = 4 from rfl, z4]
    refine VW.imul dX8_areApart_18 ?_
    refine VW.icmp_le 26 ⟨by omega, by omega⟩ ⟨by omega, by omega⟩ dX8_areApart_19 (by decide) (fun c19 => ?_) (fun c19 => ?_)
    · refine VW.iconst dX8_areApart_26 ?_
      refine VW.ireturn dX8_areApart_27 rfl rfl ?_
      refine fxP.ii ⟨?_, h1f⟩
      first
      | (rw [decide_eq_true (by omega)]; rfl; done)
      | (rw [decide_eq_false (by omega)]; rfl; done)
    · refine VW.iconst dX8_areApart_22 ?_
      refine VW.goto 27 dX8_areApart_23 (by decide) ?_
      refine VW.ireturn dX8_areApart_27 rfl rfl ?_
      refine fxP.ii ⟨?_, h1f⟩
      first
      | (rw [decide_eq_true (by omega)]; rfl; done)
      | (rw [decide_eq_false (by omega)]; rfl; done)
end PR
