/-! ===== floats: exact steps ===== -/
section FPX
theorem fp_nearest {c d : Nat} (hd : 0 < d) : Jvm.FP.Core.nearest (c * d) d = c := by
  unfold Jvm.FP.Core.nearest
  rw [Nat.mul_mod_left, Nat.mul_div_cancel _ hd, if_pos (by omega)]
theorem fp_leading {n : Nat} (h : n ≠ 0) : Jvm.FP.Core.leading n 1 = (n.log2 : Int) := by
  have h2 : 2 ^ n.log2 ≤ n := Nat.log2_self_le h
  have h1 : Nat.log2 1 = 0 := by decide
  unfold Jvm.FP.Core.leading
  simp only [h1]
  rw [if_pos (by rw [show (((n.log2 : Nat) : Int) - ((0 : Nat) : Int)).toNat = n.log2 by omega, show (-(((n.log2 : Nat) : Int) - ((0 : Nat) : Int))).toNat = 0 by omega]; omega)]
  omega
theorem fp_log2 {c a b : Nat} (h1 : 2 ^ a ≤ c) (h2 : c < 2 ^ (a + 1)) : (c * 2 ^ b).log2 = a + b := by
  have hc : c ≠ 0 := fun e => by subst e; have := Nat.pow_pos (n := a) (show 0 < 2 by decide); omega
  have hb : 0 < 2 ^ b := Nat.pow_pos (by decide)
  refine (Nat.log2_eq_iff (by intro e; rcases Nat.mul_eq_zero.mp e with q | q <;> omega)).mpr ⟨?_, ?_⟩
  · rw [Nat.pow_add]
    exact Nat.mul_le_mul_right _ h1
  · rw [show a + b + 1 = (a + 1) + b by omega, Nat.pow_add]
    exact Nat.mul_lt_mul_of_pos_right h2 hb
theorem fp_round {f : Jvm.FP.Core.Fmt} {s : Bool} {c k : Nat} {e : Int} (hp : 1 ≤ f.p) (h1 : 2 ^ (f.p - 1) ≤ c) (h2 : c < 2 ^ f.p) (hq : f.qmin ≤ e + k) : Jvm.FP.Core.roundRatio f s (c * 2 ^ k) 1 e = Jvm.FP.Core.bound f s c (e + k) := by
  have hk : 0 < 2 ^ k := Nat.pow_pos (by decide)
  have hc : c ≠ 0 := fun q => by subst q; have := Nat.pow_pos (n := f.p - 1) (show 0 < 2 by decide); omega
  have hn : c * 2 ^ k ≠ 0 := fun q => by rcases Nat.mul_eq_zero.mp q with q | q <;> omega
  have hl : Jvm.FP.Core.leading (c * 2 ^ k) 1 = ((f.p - 1 + k : Nat) : Int) := by
    rw [fp_leading hn, fp_log2 h1 (by rw [show f.p - 1 + 1 = f.p by omega]; exact h2)]
  have hqu : Jvm.FP.Core.quantum f (c * 2 ^ k) 1 e = e + k := by
    unfold Jvm.FP.Core.quantum
    rw [hl]
    omega
  unfold Jvm.FP.Core.roundRatio
  rw [if_neg hn, hqu]
  unfold Jvm.FP.Core.roundAt Jvm.FP.Core.unitsNum Jvm.FP.Core.unitsDen
  rw [show (e - (e + (k : Int))).toNat = 0 by omega, show (e + (k : Int) - e).toNat = k by omega, Nat.pow_zero, Nat.mul_one, Nat.one_mul, fp_nearest hk]
  unfold Jvm.FP.Core.settle
  rw [if_pos h2]
theorem dec32 {E T : Nat} (h : 1 ≤ E ∧ E < 255) (hT : T < 8388608) : Jvm.FP.Core.decode Jvm.FP.Core.b32 (E * 8388608 + T) = .fin false (8388608 + T) ((E : Int) - 150) := by
  have ht : Jvm.FP.Core.b32.tails = 8388608 := by decide
  have he : Jvm.FP.Core.b32.exps = 256 := by decide
  have hq : Jvm.FP.Core.b32.qmin = -149 := by decide
  unfold Jvm.FP.Core.decode Jvm.FP.Core.fieldE Jvm.FP.Core.fieldT Jvm.FP.Core.fieldS
  rw [ht, he, hq, show (E * 8388608 + T) / 8388608 = E by omega, show (E * 8388608 + T) % 8388608 = T by omega, show E % 256 = E by omega, show E / 256 = 0 by omega]
  rw [if_neg (by omega), if_neg (by omega), show (-149 + ((E : Int) - 1)) = (E : Int) - 150 by omega]
  rfl
theorem enc32 {E T : Nat} (h : 1 ≤ E ∧ E < 255) (hT : T < 8388608) : Jvm.FP.Core.encode Jvm.FP.Core.b32 (.fin false (8388608 + T) ((E : Int) - 150)) = E * 8388608 + T := by
  have ht : Jvm.FP.Core.b32.tails = 8388608 := by decide
  have he : Jvm.FP.Core.b32.exps = 256 := by decide
  have hq : Jvm.FP.Core.b32.qmin = -149 := by decide
  unfold Jvm.FP.Core.encode Jvm.FP.Core.assemble
  simp only [ht, he, hq]
  rw [if_neg (by omega), show ((E : Int) - 150 - -149).toNat + 1 = E by omega]
  simp
theorem dbl32 {E T : Nat} (h : 1 ≤ E ∧ E < 254) (hT : T < 8388608) : Jvm.FP.Core.mul Jvm.FP.Core.b32 (E * 8388608 + T) 1073741824 = (E + 1) * 8388608 + T := by
  unfold Jvm.FP.Core.mul
  rw [dec32 (by omega) hT, show Jvm.FP.Core.decode Jvm.FP.Core.b32 1073741824 = .fin false 8388608 (-22) from by decide +kernel]
  have hr := fp_round (f := Jvm.FP.Core.b32) (s := false) (c := 8388608 + T) (k := 23) (e := (E : Int) - 150 + -22) (by decide) (by show 8388608 ≤ 8388608 + T; omega) (by show 8388608 + T < 16777216; omega) (by show (-149 : Int) ≤ _; omega)
  show Jvm.FP.Core.encode Jvm.FP.Core.b32 (Jvm.FP.Core.roundRatio Jvm.FP.Core.b32 false ((8388608 + T) * 2 ^ 23) 1 ((E : Int) - 150 + -22)) = _
  rw [hr]
  unfold Jvm.FP.Core.bound
  rw [if_pos (by show _ ≤ (104 : Int); omega), show ((E : Int) - 150 + -22 + ((23 : Nat) : Int)) = ((E + 1 : Nat) : Int) - 150 by omega]
  exact enc32 (by omega) hT
theorem dec64 {E T : Nat} (h : 1 ≤ E ∧ E < 2047) (hT : T < 4503599627370496) : Jvm.FP.Core.decode Jvm.FP.Core.b64 (E * 4503599627370496 + T) = .fin false (4503599627370496 + T) ((E : Int) - 1075) := by
  have ht : Jvm.FP.Core.b64.tails = 4503599627370496 := by decide
  have he : Jvm.FP.Core.b64.exps = 2048 := by decide
  have hq : Jvm.FP.Core.b64.qmin = -1074 := by decide
  unfold Jvm.FP.Core.decode Jvm.FP.Core.fieldE Jvm.FP.Core.fieldT Jvm.FP.Core.fieldS
  rw [ht, he, hq, show (E * 4503599627370496 + T) / 4503599627370496 = E by omega, show (E * 4503599627370496 + T) % 4503599627370496 = T by omega, show E % 2048 = E by omega, show E / 2048 = 0 by omega]
  rw [if_neg (by omega), if_neg (by omega), show (-1074 + ((E : Int) - 1)) = (E : Int) - 1075 by omega]
  rfl
theorem enc64 {E T : Nat} (h : 1 ≤ E ∧ E < 2047) (hT : T < 4503599627370496) : Jvm.FP.Core.encode Jvm.FP.Core.b64 (.fin false (4503599627370496 + T) ((E : Int) - 1075)) = E * 4503599627370496 + T := by
  have ht : Jvm.FP.Core.b64.tails = 4503599627370496 := by decide
  have he : Jvm.FP.Core.b64.exps = 2048 := by decide
  have hq : Jvm.FP.Core.b64.qmin = -1074 := by decide
  unfold Jvm.FP.Core.encode Jvm.FP.Core.assemble
  simp only [ht, he, hq]
  rw [if_neg (by omega), show ((E : Int) - 1075 - -1074).toNat + 1 = E by omega]
  simp
theorem dbl64 {E T : Nat} (h : 1 ≤ E ∧ E < 2046) (hT : T < 4503599627370496) : Jvm.FP.Core.mul Jvm.FP.Core.b64 (E * 4503599627370496 + T) 4611686018427387904 = (E + 1) * 4503599627370496 + T := by
  unfold Jvm.FP.Core.mul
  rw [dec64 (by omega) hT, show Jvm.FP.Core.decode Jvm.FP.Core.b64 4611686018427387904 = .fin false 4503599627370496 (-51) from by decide +kernel]
  have hr := fp_round (f := Jvm.FP.Core.b64) (s := false) (c := 4503599627370496 + T) (k := 52) (e := (E : Int) - 1075 + -51) (by decide) (by show 4503599627370496 ≤ 4503599627370496 + T; omega) (by show 4503599627370496 + T < 9007199254740992; omega) (by show (-1074 : Int) ≤ _; omega)
  show Jvm.FP.Core.encode Jvm.FP.Core.b64 (Jvm.FP.Core.roundRatio Jvm.FP.Core.b64 false ((4503599627370496 + T) * 2 ^ 52) 1 ((E : Int) - 1075 + -51)) = _
  rw [hr]
  unfold Jvm.FP.Core.bound
  rw [if_pos (by show _ ≤ (971 : Int); omega), show ((E : Int) - 1075 + -51 + ((52 : Nat) : Int)) = ((E + 1 : Nat) : Int) - 1075 by omega]
  exact enc64 (by omega) hT
end FPX
