/-! ===== floats: exact steps ===== -/
section FPX
theorem fp_nearest {c d : Nat} (hd : 0 < d) : Jvm.FP.Core.nearest (c * d) d = c := by
  unfold Jvm.FP.Core.nearest
  rw [Nat.mul_mod_left, Nat.mul_div_cancel _ hd, if_pos (by omega)]
theorem fp_leading {n : Nat} (h : n ≠ 0) : Jvm.FP.Core.leading n 1 = (n.log2 : Int) := by
  have h2 : 2 ^ n.log2 ≤ n := Nat.log2_self_le h
  have h1 : Nat.log2 1 = 0 := by decide
  unfold Jvm.FP.Core.leading
  simp only [h1]
  rw [if_pos (by rw [show (((n.log2 : Nat) : Int) - ((0 : Nat) : Int)).toNat = n.log2 by omega, show (-(((n.log2 : Nat) : Int) - ((0 : Nat) : Int))).toNat = 0 by omega]; omega)]
  omega
theorem fp_log2 {c a b : Nat} (h1 : 2 ^ a ≤ c) (h2 : c < 2 ^ (a + 1)) : (c * 2 ^ b).log2 = a + b := by
  have hc : c ≠ 0 := fun e => by subst e; have := Nat.pow_pos (n := a) (show 0 < 2 by decide); omega
  have hb : 0 < 2 ^ b := Nat.pow_pos (by decide)
  refine (Nat.log2_eq_iff (by intro e; rcases Nat.mul_eq_zero.mp e with q | q <;> omega)).mpr ⟨?_, ?_⟩
  · rw [Nat.pow_add]
    exact Nat.mul_le_mul_right _ h1
  · rw [show a + b + 1 = (a + 1) + b by omega, Nat.pow_add]
    exact Nat.mul_lt_mul_of_pos_right h2 hb
end FPX
