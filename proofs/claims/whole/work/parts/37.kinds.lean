/-! ===== kinds and results ===== -/
section PR2
variable {G : GT} {l : Launch} {N : Nat} {sh : Nat → ShT} {μ μ' : Mem} {xs ys S D Ln : List Int} {C : List (List Int)} {v lo hi : Int}
variable {Z : List St} {B : List Int}
theorem t_thrown (hst : l.stackTraces = false) (hm : isM N sh) : Zi G l N sh M_X8_thrown [.ref (gB G + 273)] μ (fun r μ' => r = μ 273 5 ∧ μ' = μ) := by
  refine Fx.of hst rfl (by decide +kernel) (Nat.le_of_ble_eq_true rfl) rfl ?_
  refine VW.aload_n dX8_thrown_0 rfl ?_
  refine VW.getI dX8_thrown_1 fa_X8_43 (by have := hm.1; omega) hm.2.1 rfl ?_
  refine VW.ireturn dX8_thrown_4 rfl rfl ?_
  exact fxP.ii ⟨rfl, rfl⟩
theorem k_point (ok : okA (mk xs ys C S Z B)) (x y : Int) : ((opPoint xs ys C S Z B x y).1.1 = 0 ∨ (opPoint xs ys C S Z B x y).1.1 = 1 ∨ (opPoint xs ys C S Z B x y).1.1 = 2) ∧ R32 (opPoint xs ys C S Z B x y).1.2 := by
  obtain ⟨⟨⟨ok1, ok2, ok3, ok4⟩, okC, okw⟩, okZ, okB⟩ := okA.un ok
  unfold opPoint
  split
  · exact ⟨by simp, R32_0⟩
  · split
    · exact ⟨by simp, R32_0⟩
    · exact ⟨by simp, by show R32 ((xs.length : Int) + 1); exact ⟨by omega, by omega⟩⟩
theorem k_back (ok : okA (mk xs ys C S Z B)) (m : Int) : ((opBack xs ys C S Z B m).1.1 = 0 ∨ (opBack xs ys C S Z B m).1.1 = 1) ∧ R32 (opBack xs ys C S Z B m).1.2 := by
  obtain ⟨⟨⟨ok1, ok2, ok3, ok4⟩, okC, okw⟩, okZ, okB⟩ := okA.un ok
  unfold opBack
  split
  · exact ⟨by simp, R32_0⟩
  · exact ⟨by simp, by show R32 ((xs.length : Int) - m); exact ⟨by omega, by omega⟩⟩
theorem k_append (ok : okA (mk xs ys C S Z B)) (c : Int) : ((opAppend xs ys C S Z B c).1.1 = 0 ∨ (opAppend xs ys C S Z B c).1.1 = 1 ∨ (opAppend xs ys C S Z B c).1.1 = 2) ∧ R32 (opAppend xs ys C S Z B c).1.2 := by
  obtain ⟨⟨⟨ok1, ok2, ok3, ok4⟩, okC, okw⟩, okZ, okB, okB2⟩ := okA.un ok
  unfold opAppend
  split
  · exact ⟨by simp, R32_0⟩
  · split
    · exact ⟨by simp, R32_0⟩
    · exact ⟨by simp, by show R32 ((B.length : Int) + 1); exact ⟨by omega, by omega⟩⟩
end PR2
