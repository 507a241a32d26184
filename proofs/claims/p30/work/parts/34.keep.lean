/-! ===== every call keeps the numbers in their ranges ===== -/
section PY
variable {xs ys S : List Int} {C : List (List Int)} {Z : List St} {B : List Int}
theorem okA_upd {xs' ys' S' : List Int} {C' : List (List Int)} (ok : okA (mk xs ys C S Z B)) (h : okS ((xs', ys'), C', S')) : okA (mk2 xs' ys' C' S' xs ys C S Z B) := ⟨h, kp_ok ok.2.1.1 ok.2.1.2 ok.1, ok.2.2⟩
theorem okA_point (ok : okA (mk xs ys C S Z B)) (x y : Int) : okA (opPoint xs ys C S Z B x y).2 := by
  obtain ⟨⟨⟨ok1, ok2, ok3, ok4⟩, okC, okw⟩, okZ, okB⟩ := okA.un ok
  unfold opPoint
  split
  · exact ok
  · rename_i h1
    split
    · exact ok
    · have hon := onL (Classical.not_not.mp h1)
      exact okA_upd ok ⟨⟨by simp [ok1], by simp; omega, bnd_snoc ok3 hon.1, bnd_snoc ok4 hon.2⟩, okC, okw⟩
theorem goB_bnd {L : List Int} (h : bnd L 0 31) : bnd (goB L) 0 31 ∧ lastOf (goB L) = lastOf L ∧ 1 ≤ (goB L).length := by
  unfold goB
  by_cases e : L.length = 0
  · rw [if_pos e]
    exact ⟨fun z hz => by rw [List.mem_singleton.mp hz]; decide, by unfold lastOf; rw [if_pos e]; rfl, by simp⟩
  · rw [if_neg e]
    exact ⟨h, rfl, by omega⟩
theorem okA_go (ok : okA (mk xs ys C S Z B)) (d m : Int) : okA (opGo xs ys C S Z B d m).2 := by
  obtain ⟨⟨⟨ok1, ok2, ok3, ok4⟩, okC, okw⟩, okZ, okB⟩ := okA.un ok
  unfold opGo
  split
  · exact ok
  · rename_i h1
    split
    · exact ok
    · rename_i h2
      have lx := last_b ok3
      have ly := last_b ok4
      have t3 := tbo_b 3 (by decide) d
      have t4 := tbo_b 4 (by decide) d
      have bx := stepW_b (dx := tbo 3 d) lx
      have by_ := stepW_b (dx := tbo 4 d) ly
      have hg : goN xs ys d m = min m (min (stepsW (lastOf xs) (tbo 3 d)) (stepsW (lastOf ys) (tbo 4 d))) := rfl
      have gx := goB_bnd ok3
      have gy := goB_bnd ok4
      have gl : (goB ys).length = (goB xs).length := by unfold goB; rw [ok1]; split; { rfl }; { exact ok1 }
      refine okA_upd ok ⟨⟨?_, ?_, ?_, ?_⟩, okC, okw⟩
      · show (goB ys ++ goL _ _ _).length = (goB xs ++ goL _ _ _).length
        rw [List.length_append, List.length_append, goL_len, goL_len, gl]
      · show (goB xs ++ goL _ _ _).length ≤ 40
        rw [List.length_append, goL_len]
        omega
      · have q := bnd_goL (dx := tbo 3 d) (k := (goN xs ys d m).toNat) gx.1 t3 (by rw [gx.2.1]; omega)
        rw [gx.2.1] at q
        exact q
      · have q := bnd_goL (dx := tbo 4 d) (k := (goN xs ys d m).toNat) gy.1 t4 (by rw [gy.2.1]; omega)
        rw [gy.2.1] at q
        exact q
theorem okA_back (ok : okA (mk xs ys C S Z B)) (m : Int) : okA (opBack xs ys C S Z B m).2 := by
  obtain ⟨⟨⟨ok1, ok2, ok3, ok4⟩, okC, okw⟩, okZ, okB⟩ := okA.un ok
  unfold opBack
  split
  · exact ok
  · exact okA_upd ok ⟨⟨by simp [ok1], by simp; omega, fun z hz => ok3 z (List.mem_of_mem_take hz), fun z hz => ok4 z (List.mem_of_mem_take hz)⟩, okC, okw⟩
theorem okA_begin (ok : okA (mk xs ys C S Z B)) : okA (opBegin xs ys C S Z B).2 :=
  okA_upd ok ⟨⟨rfl, by simp, fun z hz => (by cases hz), fun z hz => (by cases hz)⟩, (okA.un ok).1.2.1, (okA.un ok).1.2.2⟩
theorem tnL_bnd (xs ys : List Int) (e : Int) : ∀ (n : Nat) (i x y : Int) (tx ty : List Int) (q : List Int × List Int), bnd tx 0 31 → bnd ty 0 31 → tnL xs ys e n i x y tx ty = some q → bnd q.1 0 31 ∧ bnd q.2 0 31
  | 0, i, x, y, tx, ty, q, h1, h2, h => by
    cases h
    exact ⟨h1, h2⟩
  | n + 1, i, x, y, tx, ty, q, h1, h2, h => by
    have h' : (if isEven xs ys i = true ∧ onLat (tX xs ys e i x) (tY xs ys e i y) = true then tnL xs ys e n (i + 1) (tX xs ys e i x) (tY xs ys e i y) (tx ++ [tX xs ys e i x]) (ty ++ [tY xs ys e i y]) else none) = some q := h
    by_cases hc : isEven xs ys i = true ∧ onLat (tX xs ys e i x) (tY xs ys e i y) = true
    · rw [if_pos hc] at h'
      exact tnL_bnd xs ys e n _ _ _ _ _ q (bnd_snoc h1 (onL hc.2).1) (bnd_snoc h2 (onL hc.2).2) h'
    · rw [if_neg hc] at h'
      cases h'
theorem okA_turn (ok : okA (mk xs ys C S Z B)) (e : Int) : okA (opTurn xs ys C S Z B e).2 := by
  obtain ⟨⟨⟨ok1, ok2, ok3, ok4⟩, okC, okw⟩, okZ, okB⟩ := okA.un ok
  unfold opTurn
  split
  · exact ok
  · split
    · exact ok
    · rename_i h2
      obtain ⟨q, hq⟩ : ∃ q, turnOf xs ys e = some q := by revert h2; cases turnOf xs ys e <;> simp
      have hl := tnL_len xs ys e xs.length 0 (rat xs 0) (rat ys 0) [] [] q hq
      have hb := tnL_bnd xs ys e xs.length 0 (rat xs 0) (rat ys 0) [] [] q (fun z hz => (by cases hz)) (fun z hz => (by cases hz)) hq
      simp only [List.length_nil, Nat.zero_add] at hl
      rw [hq]
      exact okA_upd ok ⟨⟨by show q.2.length = q.1.length; omega, by show q.1.length ≤ 40; omega, hb.1, hb.2⟩, okC, okw⟩
theorem okC_add {D : List Int} (okC : C.length ≤ 10 ∧ (∀ L ∈ C, L.length ≤ 8 ∧ bnd L 0 7) ∧ C.Nodup) (okw : wfS S) (h10 : C.length < 10) (h8 : D.length ≤ 8) (hb : bnd D 0 7) (ht : tooN C S D = false) : (C ++ [D]).length ≤ 10 ∧ (∀ L ∈ C ++ [D], L.length ≤ 8 ∧ bnd L 0 7) ∧ (C ++ [D]).Nodup := by
  refine ⟨by simp; omega, fun L hL => ?_, ?_⟩
  · rcases List.mem_append.mp hL with hL | hL
    · exact okC.2.1 L hL
    · rw [List.mem_singleton.mp hL]; exact ⟨h8, hb⟩
  · refine List.pairwise_append.mpr ⟨okC.2.2, List.pairwise_singleton _ _, fun a ha b hb2 e => ?_⟩
    rw [List.mem_singleton.mp hb2] at e
    subst e
    obtain ⟨k, hk, hke⟩ := List.mem_iff_getElem.mp ha
    have h4 := okw.2.2.2.2.2
    have := (tnF_iff C S a C.length 0).mpr ⟨(k : Int), by omega, by omega, by
      rw [Int.toNat_natCast, show C.getD k [] = a by simp [List.getD, hk, hke]]
      have := dst_same (S := S) (D := a)
      omega⟩
    unfold tooN at ht
    rw [ht] at this
    cases this
theorem okA_learn (ok : okA (mk xs ys C S Z B)) : okA (opLearn xs ys C S Z B).2 := by
  obtain ⟨⟨⟨ok1, ok2, ok3, ok4⟩, okC, okw⟩, okZ, okB⟩ := okA.un ok
  unfold opLearn
  split
  · exact ok
  · rename_i h
    obtain ⟨h1, h2, h3, h4⟩ := Classical.not_not.mp h
    exact okA_upd ok ⟨⟨ok1, ok2, ok3, ok4⟩, okC_add okC okw h1 h3 (stk_ok ok3 ok4 (by omega)).2 h4, okw⟩
theorem okA_read (ok : okA (mk xs ys C S Z B)) : okA (opRead xs ys C S Z B).2 := by
  obtain ⟨⟨⟨ok1, ok2, ok3, ok4⟩, okC, okw⟩, okZ, okB⟩ := okA.un ok
  unfold opRead
  split
  · exact ok
  · rename_i h
    obtain ⟨h1, h2⟩ := Classical.not_not.mp h
    have dk := dig_ok h2
    split
    · exact ok
    · rename_i g
      obtain ⟨g1, g2⟩ := Classical.not_not.mp g
      exact ⟨⟨⟨ok1, ok2, ok3, ok4⟩, okC_add okC okw g1 dk.1 dk.2 g2, okw⟩, kp_ok ok.2.1.1 ok.2.1.2 ok.1, by show ([] : List Int).length ≤ 60; simp, fun z hz => (by cases hz)⟩
theorem okA_forget (ok : okA (mk xs ys C S Z B)) (c : Int) : okA (opForget xs ys C S Z B c).2 := by
  obtain ⟨⟨okP, okC, okw⟩, okZ, okB⟩ := okA.un ok
  unfold opForget
  split
  · exact ok
  · exact okA_upd ok ⟨okP, ⟨by rw [List.length_eraseIdx]; split <;> omega, fun L hL => okC.2.1 L (List.mem_of_mem_eraseIdx hL), okC.2.2.sublist (List.eraseIdx_sublist ..)⟩, okw⟩
theorem okA_set (ok : okA (mk xs ys C S Z B)) (s v : Int) : okA (opSet xs ys C S Z B s v).2 := by
  unfold opSet
  split
  · exact ok
  · rename_i h1
    split
    · exact ok
    · rename_i h2
      split
      · exact ok
      · exact okA_upd ok (okS_set ok.1 (Classical.not_not.mp h1) (Classical.not_not.mp h2))
theorem okA_append (ok : okA (mk xs ys C S Z B)) (c : Int) : okA (opAppend xs ys C S Z B c).2 := by
  obtain ⟨okS1, okZ, okB1, okB2⟩ := okA.un ok
  unfold opAppend
  split
  · exact ok
  · rename_i h1
    split
    · exact ok
    · exact ⟨ok.1, okZ, by show (B ++ [c]).length ≤ 60; simp; omega, bnd_snoc okB2 (Classical.not_not.mp h1)⟩
theorem okA_clear (ok : okA (mk xs ys C S Z B)) : okA (opClear xs ys C S Z B).2 := ⟨ok.1, ok.2.1, by show ([] : List Int).length ≤ 60; simp, fun z hz => (by cases hz)⟩
theorem okA_undo (ok : okA (mk xs ys C S Z B)) : okA (opUndo xs ys C S Z B).2 := by
  obtain ⟨okS1, okZ, okB1⟩ := okA.un ok
  unfold opUndo
  split
  · exact ok
  · exact ⟨okZ.2 _ (getZ_mem (by omega)), ⟨by show Z.dropLast.length ≤ 6; rw [List.length_dropLast]; omega, fun τ ht => okZ.2 τ (List.dropLast_subset _ ht)⟩, okB1⟩
end PY
