/-! ===== floats: exact steps ===== -/
section FPX
theorem fp_nearest {c d : Nat} (hd : 0 < d) : Jvm.FP.Core.nearest (c * d) d = c := by
  unfold Jvm.FP.Core.nearest
  rw [Nat.mul_mod_left, Nat.mul_div_cancel _ hd, if_pos (by omega)]
theorem fp_leading {n : Nat} (h : n ≠ 0) : Jvm.FP.Core.leading n 1 = (n.log2 : Int) := by
  have h2 : 2 ^ n.log2 ≤ n := Nat.log2_self_le h
  have h1 : Nat.log2 1 = 0 := by decide
  unfold Jvm.FP.Core.leading
  simp only [h1]
  rw [if_pos (by rw [show (((n.log2 : Nat) : Int) - ((0 : Nat) : Int)).toNat = n.log2 by omega, show (-(((n.log2 : Nat) : Int) - ((0 : Nat) : Int))).toNat = 0 by omega]; omega)]
  omega
theorem fp_log2 {c a b : Nat} (h1 : 2 ^ a ≤ c) (h2 : c < 2 ^ (a + 1)) : (c * 2 ^ b).log2 = a + b := by
  have hc : c ≠ 0 := fun e => by subst e; have := Nat.pow_pos (n := a) (show 0 < 2 by decide); omega
  have hb : 0 < 2 ^ b := Nat.pow_pos (by decide)
  refine (Nat.log2_eq_iff (by intro e; rcases Nat.mul_eq_zero.mp e with q | q <;> omega)).mpr ⟨?_, ?_⟩
  · rw [Nat.pow_add]
    exact Nat.mul_le_mul_right _ h1
  · rw [show a + b + 1 = (a + 1) + b by omega, Nat.pow_add]
    exact Nat.mul_lt_mul_of_pos_right h2 hb
theorem fp_round {f : Jvm.FP.Core.Fmt} {s : Bool} {c k : Nat} {e : Int} (hp : 1 ≤ f.p) (h1 : 2 ^ (f.p - 1) ≤ c) (h2 : c < 2 ^ f.p) (hq : f.qmin ≤ e + k) : Jvm.FP.Core.roundRatio f s (c * 2 ^ k) 1 e = Jvm.FP.Core.bound f s c (e + k) := by
  have hk : 0 < 2 ^ k := Nat.pow_pos (by decide)
  have hc : c ≠ 0 := fun q => by subst q; have := Nat.pow_pos (n := f.p - 1) (show 0 < 2 by decide); omega
  have hn : c * 2 ^ k ≠ 0 := fun q => by rcases Nat.mul_eq_zero.mp q with q | q <;> omega
  have hl : Jvm.FP.Core.leading (c * 2 ^ k) 1 = ((f.p - 1 + k : Nat) : Int) := by
    rw [fp_leading hn, fp_log2 h1 (by rw [show f.p - 1 + 1 = f.p by omega]; exact h2)]
  have hqu : Jvm.FP.Core.quantum f (c * 2 ^ k) 1 e = e + k := by
    unfold Jvm.FP.Core.quantum
    rw [hl]
    omega
  unfold Jvm.FP.Core.roundRatio
  rw [if_neg hn, hqu]
  unfold Jvm.FP.Core.roundAt Jvm.FP.Core.unitsNum Jvm.FP.Core.unitsDen
  rw [show (e - (e + (k : Int))).toNat = 0 by omega, show (e + (k : Int) - e).toNat = k by omega, Nat.pow_zero, Nat.mul_one, Nat.one_mul, fp_nearest hk]
  unfold Jvm.FP.Core.settle
  rw [if_pos h2]
end FPX
