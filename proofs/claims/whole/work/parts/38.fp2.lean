/-! ===== floats: what a share of whole numbers is, and its bits ===== -/
section FPY
theorem fp_up {f : Jvm.FP.Core.Fmt} {s : Bool} {n a : Nat} {e : Int} (h1 : 2 ^ a ≤ n) (h2 : n < 2 ^ (a + 1)) (ha : a + 1 ≤ f.p) (hq : f.qmin ≤ e + a - ((f.p : Int) - 1)) : Jvm.FP.Core.roundRatio f s n 1 e = Jvm.FP.Core.bound f s (n * 2 ^ (f.p - 1 - a)) (e + a - ((f.p : Int) - 1)) := by
  have hn : n ≠ 0 := fun q => by subst q; have := Nat.pow_pos (n := a) (show 0 < 2 by decide); omega
  have hl : Jvm.FP.Core.leading n 1 = (a : Int) := by rw [fp_leading hn, (Nat.log2_eq_iff hn).mpr ⟨h1, h2⟩]
  have hqu : Jvm.FP.Core.quantum f n 1 e = e + a - ((f.p : Int) - 1) := by
    unfold Jvm.FP.Core.quantum
    rw [hl]
    omega
  have hnr : Jvm.FP.Core.nearest (n * 2 ^ (f.p - 1 - a)) 1 = n * 2 ^ (f.p - 1 - a) := by
    have := fp_nearest (c := n * 2 ^ (f.p - 1 - a)) (d := 1) (by decide)
    rwa [Nat.mul_one] at this
  have hlt : n * 2 ^ (f.p - 1 - a) < 2 ^ f.p := by
    have h3 := Nat.mul_lt_mul_of_pos_right h2 (Nat.pow_pos (n := f.p - 1 - a) (show 0 < 2 by decide))
    rw [← Nat.pow_add, show a + 1 + (f.p - 1 - a) = f.p by omega] at h3
    exact h3
  unfold Jvm.FP.Core.roundRatio
  rw [if_neg hn, hqu]
  unfold Jvm.FP.Core.roundAt Jvm.FP.Core.unitsNum Jvm.FP.Core.unitsDen
  rw [show (e - (e + (a : Int) - ((f.p : Int) - 1))).toNat = f.p - 1 - a by omega, show (e + (a : Int) - ((f.p : Int) - 1) - e).toNat = 0 by omega, Nat.pow_zero, hnr]
  unfold Jvm.FP.Core.settle
  rw [if_pos hlt]
theorem fp_near_b {n d L U : Nat} (hd : 0 < d) (h1 : L * d ≤ n) (h2 : n < U * d) : L ≤ Jvm.FP.Core.nearest n d ∧ Jvm.FP.Core.nearest n d ≤ U := by
  have a1 : L ≤ n / d := (Nat.le_div_iff_mul_le hd).mpr h1
  have a2 : n / d < U := (Nat.div_lt_iff_lt_mul hd).mpr h2
  unfold Jvm.FP.Core.nearest
  generalize n / d = z at a1 a2
  generalize n % d = y
  split
  · omega
  · split
    · omega
    · omega
/-- a quotient of two normal numbers, the first one not greater -/
theorem fp_div {f : Jvm.FP.Core.Fmt} {ca cb t : Nat} {e : Int} (hp : 2 ≤ f.p) (ht : 2 ^ (f.p - 1) = t) (h2t : 2 ^ f.p = 2 * t) (a1 : t ≤ ca) (a2 : ca < 2 * t) (b1 : t ≤ cb) (b2 : cb < 2 * t) (hq : f.qmin ≤ e - f.p) (hm : 1 - (f.p : Int) ≤ f.qmax) (hle : e < 0 ∨ (e = 0 ∧ ca ≤ cb)) :
    ∃ (c : Nat) (q : Int), Jvm.FP.Core.roundRatio f false ca cb e = .fin false c q ∧ (t ≤ c ∧ c < 2 * t) ∧ e - f.p ≤ q ∧ q ≤ 1 - (f.p : Int) := by
  have ht0 : 0 < t := by rw [← ht]; exact Nat.pow_pos (by decide)
  have hca : ca ≠ 0 := by omega
  have hcb : cb ≠ 0 := by omega
  have la : ca.log2 = f.p - 1 := (Nat.log2_eq_iff hca).mpr ⟨by rw [ht]; exact a1, by rw [show f.p - 1 + 1 = f.p by omega, h2t]; exact a2⟩
  have lb : cb.log2 = f.p - 1 := (Nat.log2_eq_iff hcb).mpr ⟨by rw [ht]; exact b1, by rw [show f.p - 1 + 1 = f.p by omega, h2t]; exact b2⟩
  have htl : f.tails = t := ht
  have fin : ∀ (c : Nat) (q : Int), t ≤ c → c ≤ 2 * t → e - f.p ≤ q → (q ≤ 1 - (f.p : Int) ∧ (c < 2 * t ∨ q + 1 ≤ 1 - (f.p : Int))) → ∃ (c' : Nat) (q' : Int), Jvm.FP.Core.settle f false c q = .fin false c' q' ∧ (t ≤ c' ∧ c' < 2 * t) ∧ e - f.p ≤ q' ∧ q' ≤ 1 - (f.p : Int) := by
    intro c q h1 h2 h3 h4
    unfold Jvm.FP.Core.settle
    rw [h2t, htl]
    by_cases hc : c < 2 * t
    · rw [if_pos hc]
      unfold Jvm.FP.Core.bound
      rw [if_pos (by omega)]
      exact ⟨c, q, rfl, ⟨h1, hc⟩, h3, h4.1⟩
    · rw [if_neg hc]
      unfold Jvm.FP.Core.bound
      rw [if_pos (by omega)]
      exact ⟨t, q + 1, rfl, ⟨Nat.le_refl _, by omega⟩, by omega, by omega⟩
  unfold Jvm.FP.Core.roundRatio
  rw [if_neg hca]
  unfold Jvm.FP.Core.roundAt Jvm.FP.Core.unitsNum Jvm.FP.Core.unitsDen
  by_cases hc : cb ≤ ca
  · have hl : Jvm.FP.Core.leading ca cb = 0 := by
      unfold Jvm.FP.Core.leading
      simp only [la, lb, Int.sub_self]
      rw [if_pos (by simpa using hc)]
    have hqu : Jvm.FP.Core.quantum f ca cb e = e - ((f.p : Int) - 1) := by
      unfold Jvm.FP.Core.quantum
      rw [hl]
      omega
    rw [hqu, show (e - (e - ((f.p : Int) - 1))).toNat = f.p - 1 by omega, show (e - ((f.p : Int) - 1) - e).toNat = 0 by omega, Nat.pow_zero, Nat.mul_one, ht]
    have n1 : t * cb ≤ ca * t := by rw [Nat.mul_comm ca t]; exact Nat.mul_le_mul_left _ hc
    have n2 : ca * t < 2 * t * cb := by
      have : ca * t < (2 * cb) * t := Nat.mul_lt_mul_of_pos_right (by omega) ht0
      rw [Nat.mul_assoc, Nat.mul_comm cb t, ← Nat.mul_assoc] at this
      exact this
    have nb := fp_near_b (by omega) n1 n2
    refine fin _ _ nb.1 nb.2 (by omega) ⟨by omega, ?_⟩
    rcases hle with hle | ⟨he, hle⟩
    · right; omega
    · left
      have : ca = cb := by omega
      subst this
      rw [Nat.mul_comm ca t, fp_nearest (by omega)]
      omega
  · have hl : Jvm.FP.Core.leading ca cb = -1 := by
      unfold Jvm.FP.Core.leading
      simp only [la, lb, Int.sub_self]
      rw [if_neg (by simpa using hc)]
      rfl
    have hqu : Jvm.FP.Core.quantum f ca cb e = e - f.p := by
      unfold Jvm.FP.Core.quantum
      rw [hl]
      omega
    rw [hqu, show (e - (e - (f.p : Int))).toNat = f.p by omega, show (e - (f.p : Int) - e).toNat = 0 by omega, Nat.pow_zero, Nat.mul_one, h2t]
    have n1 : t * cb ≤ ca * (2 * t) := by
      have : cb * t ≤ (ca * 2) * t := Nat.mul_le_mul_right _ (by omega)
      rw [Nat.mul_comm t cb, ← Nat.mul_assoc]
      exact this
    have n2 : ca * (2 * t) < 2 * t * cb := by
      rw [Nat.mul_comm ca]
      exact Nat.mul_lt_mul_of_pos_left (by omega) (by omega)
    have nb := fp_near_b (by omega) n1 n2
    exact fin _ _ nb.1 nb.2 (by omega) ⟨by omega, by omega⟩
theorem quo_fin {f : Jvm.FP.Core.Fmt} {c d : Nat} {q r : Int} (hd : ¬ d = 0) : Jvm.FP.Core.quotient f (.fin false c q) (.fin false d r) = Jvm.FP.Core.roundRatio f false c d (q - r) := if_neg hd
theorem ord_fin {c d : Nat} {q r : Int} : Jvm.FP.Core.order (.fin false c q) (.fin false d r) = some (compare ((c * 2 ^ (q - min q r).toNat : Nat) : Int) ((d * 2 ^ (r - min q r).toNat : Nat) : Int)) := rfl
theorem toi_fin {lo hi : Int} {c : Nat} {q : Int} : Jvm.FP.Core.toInt lo hi (.fin false c q) = max lo (min hi ((c * 2 ^ q.toNat / 2 ^ (-q).toNat : Nat) : Int)) := rfl
theorem mul_fin {c d : Nat} {q r : Int} : Jvm.FP.Core.exactProduct (.fin false c q) (.fin false d r) = .fin false (c * d) (q + r) := rfl
theorem rnd_fin {f : Jvm.FP.Core.Fmt} {c : Nat} {q : Int} : Jvm.FP.Core.round f (.fin false c q) = Jvm.FP.Core.roundRatio f false c 1 q := rfl
theorem fp_log {a b : Nat} (h1 : 1 ≤ a) (h2 : a ≤ b) : 2 ^ a.log2 ≤ a ∧ a < 2 ^ (a.log2 + 1) ∧ a.log2 ≤ b.log2 := by
  have k1 : 2 ^ a.log2 ≤ a := Nat.log2_self_le (by omega)
  have k2 : a < 2 ^ (a.log2 + 1) := Nat.lt_log2_self
  have k3 : b < 2 ^ (b.log2 + 1) := Nat.lt_log2_self
  refine ⟨k1, k2, ?_⟩
  have : 2 ^ a.log2 < 2 ^ (b.log2 + 1) := by omega
  have := (Nat.pow_lt_pow_iff_right (by decide : 1 < 2)).mp this
  omega
theorem nrm32 {c : Nat} {q : Int} (h1 : 8388608 ≤ c ∧ c < 16777216) (h2 : -149 ≤ q ∧ q ≤ 104) : Jvm.FP.Core.encode Jvm.FP.Core.b32 (.fin false c q) = (q + 150).toNat * 8388608 + (c - 8388608) := by
  have h := enc32 (E := (q + 150).toNat) (T := c - 8388608) (by omega) (by omega)
  rw [show 8388608 + (c - 8388608) = c by omega, show (((q + 150).toNat : Nat) : Int) - 150 = q by omega] at h
  exact h
theorem dnr32 {c : Nat} {q : Int} (h1 : 8388608 ≤ c ∧ c < 16777216) (h2 : -149 ≤ q ∧ q ≤ 104) : Jvm.FP.Core.decode Jvm.FP.Core.b32 ((q + 150).toNat * 8388608 + (c - 8388608)) = .fin false c q := by
  have h := dec32 (E := (q + 150).toNat) (T := c - 8388608) (by omega) (by omega)
  rw [show 8388608 + (c - 8388608) = c by omega, show (((q + 150).toNat : Nat) : Int) - 150 = q by omega] at h
  exact h
/-- the bits of a normal number -/
def nb32 (E T : Nat) : UInt32 := UInt32.ofNat (E * 8388608 + T)
theorem nb32_t {E T : Nat} (hE : E < 255) (hT : T < 8388608) : (nb32 E T).toNat = E * 8388608 + T := by
  unfold nb32
  rw [UInt32.toNat_ofNat_of_lt']
  show _ < 4294967296
  omega
theorem up32 {n k : Nat} {e : Int} (h1 : 2 ^ k ≤ n) (h2 : n < 2 ^ (k + 1)) (hk : k ≤ 23) (hq : -149 ≤ e + k - 23) (hm : e + k - 23 ≤ 104) : Jvm.FP.Core.roundRatio Jvm.FP.Core.b32 false n 1 e = .fin false (n * 2 ^ (23 - k)) (e + k - 23) ∧ (8388608 ≤ n * 2 ^ (23 - k) ∧ n * 2 ^ (23 - k) < 16777216) := by
  have hr := fp_up (f := Jvm.FP.Core.b32) (s := false) (e := e) h1 h2 (by show k + 1 ≤ 24; omega) (by show (-149 : Int) ≤ e + k - ((24 : Nat) - 1 : Int); omega)
  have hp1 : Jvm.FP.Core.b32.p - 1 - k = 23 - k := rfl
  have hp2 : ((Jvm.FP.Core.b32.p : Nat) : Int) - 1 = 23 := rfl
  rw [hr, hp1, hp2]
  refine ⟨if_pos hm, ?_, ?_⟩
  · have := Nat.mul_le_mul_right (2 ^ (23 - k)) h1
    rw [← Nat.pow_add, show k + (23 - k) = 23 by omega] at this
    exact this
  · have := Nat.mul_lt_mul_of_pos_right h2 (Nat.pow_pos (n := 23 - k) (show 0 < 2 by decide))
    rw [← Nat.pow_add, show k + 1 + (23 - k) = 24 by omega] at this
    exact this
theorem i2_32 {a : Nat} (h1 : 1 ≤ a) (h2 : a < 65536) : Jvm.FP.Core.decode Jvm.FP.Core.b32 (Jvm.FP.i2f (Int32.ofInt (a : Int))).toNat = .fin false (a * 2 ^ (23 - a.log2)) ((a.log2 : Int) - 23) ∧ (8388608 ≤ a * 2 ^ (23 - a.log2) ∧ a * 2 ^ (23 - a.log2) < 16777216) := by
  have k := fp_log h1 (Nat.le_refl _)
  have k15 : a.log2 ≤ 15 := by
    have h : 2 ^ a.log2 < 2 ^ 16 := by have : (2 : Nat) ^ 16 = 65536 := rfl; omega
    have := (Nat.pow_lt_pow_iff_right (by decide : 1 < 2)).mp h
    omega
  have u := up32 (e := 0) k.1 k.2.1 (by omega) (by omega) (by omega)
  rw [Int.zero_add] at u
  have hf : Jvm.FP.Core.fromInt Jvm.FP.Core.b32 (a : Int) = (((a.log2 : Int) - 23) + 150).toNat * 8388608 + (a * 2 ^ (23 - a.log2) - 8388608) := by
    unfold Jvm.FP.Core.fromInt Jvm.FP.Core.ofInt Jvm.FP.Core.round
    rw [show decide ((a : Int) < 0) = false from decide_eq_false (by omega), show ((a : Int)).natAbs = a from rfl]
    show Jvm.FP.Core.encode Jvm.FP.Core.b32 (Jvm.FP.Core.roundRatio Jvm.FP.Core.b32 false a 1 0) = _
    rw [u.1]
    exact nrm32 u.2 (by omega)
  refine ⟨?_, u.2⟩
  have hb : Jvm.FP.i2f (Int32.ofInt (a : Int)) = nb32 (((a.log2 : Int) - 23) + 150).toNat (a * 2 ^ (23 - a.log2) - 8388608) := by
    show UInt32.ofNat (Jvm.FP.Core.fromInt Jvm.FP.Core.b32 (Int32.ofInt (a : Int)).toInt) = _
    rw [i32_t ⟨by omega, by omega⟩, hf]
    rfl
  rw [hb, nb32_t (by omega) (by omega)]
  exact dnr32 u.2 (by omega)
/-- a share of two whole numbers -/
def sh32 (a t : Int) : UInt32 := Jvm.FP.fdiv (Jvm.FP.i2f (Int32.ofInt a)) (Jvm.FP.i2f (Int32.ofInt t))
theorem sh32_p {a t : Nat} (h1 : 1 ≤ a) (h2 : a ≤ t) (h3 : t < 65536) : ∃ E T : Nat, sh32 (a : Int) (t : Int) = nb32 E T ∧ (1 ≤ E ∧ E ≤ 127) ∧ T < 8388608 := by
  have ka := fp_log h1 h2
  have kt := fp_log (show 1 ≤ t by omega) (Nat.le_refl t)
  have k15 : t.log2 ≤ 15 := by
    have h : 2 ^ t.log2 < 2 ^ 16 := by have : (2 : Nat) ^ 16 = 65536 := rfl; omega
    have := (Nat.pow_lt_pow_iff_right (by decide : 1 < 2)).mp h
    omega
  have ia := i2_32 h1 (by omega : a < 65536)
  have it := i2_32 (by omega : 1 ≤ t) h3
  have hd := fp_div (f := Jvm.FP.Core.b32) (ca := a * 2 ^ (23 - a.log2)) (cb := t * 2 ^ (23 - t.log2)) (t := 8388608) (e := ((a.log2 : Int) - 23) - ((t.log2 : Int) - 23)) (by decide) (by decide) (by decide) ia.2.1 ia.2.2 it.2.1 it.2.2 (by show (-149 : Int) ≤ _ - ((24 : Nat) : Int); omega) (by decide) (by
    by_cases he : a.log2 = t.log2
    · right
      exact ⟨by omega, by rw [he]; exact Nat.mul_le_mul_right _ h2⟩
    · left
      omega)
  obtain ⟨c, q, e1, e2, e3, e4⟩ := hd
  have e3 : ((a.log2 : Int) - 23) - ((t.log2 : Int) - 23) - ((24 : Nat) : Int) ≤ q := e3
  have e4 : q ≤ 1 - ((24 : Nat) : Int) := e4
  refine ⟨(q + 150).toNat, c - 8388608, ?_, by omega, by omega⟩
  unfold sh32
  show UInt32.ofNat (Jvm.FP.Core.div Jvm.FP.Core.b32 _ _) = _
  unfold Jvm.FP.Core.div
  rw [ia.1, it.1]
  rw [quo_fin (by have := it.2.1; omega), e1, nrm32 e2 (by omega)]
  rfl
theorem sh32_0 {t : Nat} (h1 : 1 ≤ t) (h3 : t < 65536) : sh32 0 (t : Int) = 0 := by
  have it := i2_32 h1 h3
  unfold sh32
  show UInt32.ofNat (Jvm.FP.Core.div Jvm.FP.Core.b32 _ _) = _
  unfold Jvm.FP.Core.div
  rw [it.1, show Jvm.FP.Core.decode Jvm.FP.Core.b32 (Jvm.FP.i2f (Int32.ofInt 0)).toNat = .fin false 0 (-149) from by decide +kernel]
  rw [quo_fin (by have := it.2.1; omega)]
  unfold Jvm.FP.Core.roundRatio
  rw [if_pos rfl]
  decide +kernel
theorem nn32 {E T : Nat} (hE : E < 255) (hT : T < 8388608) : vf_n32 (nb32 E T) := by
  unfold vf_n32
  rw [UInt32.le_iff_toNat_le, UInt32.toNat_and, nb32_t hE hT]
  refine Nat.le_trans Nat.and_le_left ?_
  show _ ≤ 2139095040
  omega
/-- with zero, and with one -/
theorem cm32_0 {E T : Nat} (h : 1 ≤ E ∧ E < 255) (hT : T < 8388608) : Jvm.FP.fcmp (nb32 E T) Jvm.FP.fconst0 = some .gt := by
  show Jvm.FP.Core.cmp Jvm.FP.Core.b32 _ _ = _
  unfold Jvm.FP.Core.cmp
  rw [nb32_t h.2 hT, dec32 h hT, show Jvm.FP.Core.decode Jvm.FP.Core.b32 Jvm.FP.fconst0.toNat = .fin false 0 (-149) from by decide +kernel]
  rw [ord_fin, Nat.zero_mul]
  have hp := Nat.pow_pos (n := ((E : Int) - 150 - min ((E : Int) - 150) (-149)).toNat) (show 0 < 2 by decide)
  have hx : 0 < (8388608 + T) * 2 ^ ((E : Int) - 150 - min ((E : Int) - 150) (-149)).toNat := Nat.mul_pos (by omega) hp
  generalize (8388608 + T) * 2 ^ ((E : Int) - 150 - min ((E : Int) - 150) (-149)).toNat = z at hx
  have : compare (z : Int) ((0 : Nat) : Int) = .gt := Int.compare_eq_gt.mpr (by omega)
  rw [this]
theorem cm32_1 {E T : Nat} (h : 1 ≤ E ∧ E < 127) (hT : T < 8388608) : Jvm.FP.fcmp (nb32 E T) Jvm.FP.fconst1 = some .lt := by
  show Jvm.FP.Core.cmp Jvm.FP.Core.b32 _ _ = _
  unfold Jvm.FP.Core.cmp
  rw [nb32_t (by omega) hT, dec32 (by omega) hT, show Jvm.FP.Core.decode Jvm.FP.Core.b32 Jvm.FP.fconst1.toNat = .fin false 8388608 (-23) from by decide +kernel]
  rw [ord_fin, show min ((E : Int) - 150) (-23) = (E : Int) - 150 by omega, show ((E : Int) - 150 - ((E : Int) - 150)).toNat = 0 by omega, show (-23 - ((E : Int) - 150)).toNat = (127 - E - 1) + 1 by omega, Nat.pow_zero, Nat.mul_one, Nat.pow_succ]
  have hp := Nat.pow_pos (n := 127 - E - 1) (show 0 < 2 by decide)
  have hx : 8388608 * 2 ≤ 8388608 * (2 ^ (127 - E - 1) * 2) := Nat.mul_le_mul_left _ (by omega)
  generalize 8388608 * (2 ^ (127 - E - 1) * 2) = z at hx
  have : compare ((8388608 + T : Nat) : Int) (z : Int) = .lt := Int.compare_eq_lt.mpr (by omega)
  rw [this]
theorem cm32_2 {T : Nat} (hT : T < 8388608) : ∃ x, 0 ≤ x ∧ x ≤ 1 ∧ ∀ op, Op.cmpValue (Jvm.FP.fcmp (nb32 127 T) Jvm.FP.fconst1) op = Int32.ofInt x := by
  have e : Jvm.FP.fcmp (nb32 127 T) Jvm.FP.fconst1 = some (compare ((8388608 + T : Nat) : Int) ((8388608 : Nat) : Int)) := by
    show Jvm.FP.Core.cmp Jvm.FP.Core.b32 _ _ = _
    unfold Jvm.FP.Core.cmp
    rw [nb32_t (by omega) hT, dec32 (by omega) hT, show Jvm.FP.Core.decode Jvm.FP.Core.b32 Jvm.FP.fconst1.toNat = .fin false 8388608 (-23) from by decide +kernel]
    rw [ord_fin, show min (((127 : Nat) : Int) - 150) (-23) = -23 by omega, show (((127 : Nat) : Int) - 150 - -23).toNat = 0 by omega, show ((-23 : Int) - -23).toNat = 0 by omega, Nat.pow_zero, Nat.mul_one, Nat.mul_one]
  by_cases h0 : T = 0
  · refine ⟨0, by omega, by omega, fun op => ?_⟩
    rw [e, Int.compare_eq_eq.mpr (by omega)]
    rfl
  · refine ⟨1, by omega, by omega, fun op => ?_⟩
    rw [e, Int.compare_eq_gt.mpr (by omega)]
    rfl
/-- one less: the tail alone; times its weight: a whole number -/
def tl32 (T : Nat) : UInt32 := if T = 0 then 0 else nb32 (T.log2 + (127 - 23)) (T * 2 ^ (23 - T.log2) - 8388608)
def tw32 (T : Nat) : UInt32 := if T = 0 then 0 else nb32 (T.log2 + 127) (T * 2 ^ (23 - T.log2) - 8388608)
theorem tl32_b {T : Nat} (hT : T < 8388608) (h0 : ¬ T = 0) : 2 ^ T.log2 ≤ T ∧ T < 2 ^ (T.log2 + 1) ∧ T.log2 < 23 := by
  have k := fp_log (show 1 ≤ T by omega) (Nat.le_refl T)
  refine ⟨k.1, k.2.1, ?_⟩
  have h : 2 ^ T.log2 < 2 ^ 23 := by have : (2 : Nat) ^ 23 = 8388608 := rfl; omega
  exact (Nat.pow_lt_pow_iff_right (by decide : 1 < 2)).mp h
theorem sub32 {T : Nat} (hT : T < 8388608) : Jvm.FP.fsub (nb32 127 T) Jvm.FP.fconst1 = tl32 T := by
  show UInt32.ofNat (Jvm.FP.Core.sub Jvm.FP.Core.b32 _ _) = _
  unfold Jvm.FP.Core.sub
  rw [nb32_t (by omega) hT, dec32 (by omega) hT, show Jvm.FP.Core.decode Jvm.FP.Core.b32 Jvm.FP.fconst1.toNat = .fin false 8388608 (-23) from by decide +kernel]
  unfold Jvm.FP.Core.negate Jvm.FP.Core.exactSum Jvm.FP.Core.sumUnits Jvm.FP.Core.sumSign Jvm.FP.Core.inUnits Jvm.FP.Core.signed
  have e1 : min (((127 : Nat) : Int) - 150) (-23) = -23 := by omega
  have e2 : (((127 : Nat) : Int) - 150 - -23).toNat = 0 := by omega
  have e3 : ((-23 : Int) - -23).toNat = 0 := by omega
  have e4 : (((8388608 + T : Nat) : Int) + -((8388608 : Nat) : Int)) = (T : Int) := by omega
  simp only [e1, e2, e3, Nat.pow_zero, Nat.mul_one, Bool.false_eq_true, if_false, Bool.not_false, if_true, e4]
  rw [show (if (T : Int) = 0 then false && true else decide ((T : Int) < 0)) = false from by split <;> simp]
  unfold Jvm.FP.Core.round tl32
  by_cases h0 : T = 0
  · subst h0
    rw [if_pos rfl]
    decide +kernel
  · rw [if_neg h0]
    have k := tl32_b hT h0
    have u := up32 (e := -23) k.1 k.2.1 (by omega) (by omega) (by omega)
    show UInt32.ofNat (Jvm.FP.Core.encode Jvm.FP.Core.b32 (Jvm.FP.Core.roundRatio Jvm.FP.Core.b32 false T 1 (-23))) = _
    rw [u.1, nrm32 u.2 (by omega), show (-23 + ((T.log2 : Nat) : Int) - 23 + 150).toNat = T.log2 + (127 - 23) by omega]
    rfl
theorem tln32 {T : Nat} (hT : T < 8388608) : vf_n32 (tl32 T) ∧ vf_n32 (tw32 T) := by
  unfold tl32 tw32
  by_cases h0 : T = 0
  · subst h0
    rw [if_pos rfl, if_pos rfl]
    unfold vf_n32
    exact ⟨by decide +kernel, by decide +kernel⟩
  · rw [if_neg h0, if_neg h0]
    have k := tl32_b hT h0
    have u := up32 (e := -23) k.1 k.2.1 (by omega) (by omega) (by omega)
    have u2 := u.2
    exact ⟨nn32 (by omega) (by omega), nn32 (by omega) (by omega)⟩
theorem wgt32 {T : Nat} (hT : T < 8388608) : Jvm.FP.fmul (tl32 T) 1258291200 = tw32 T := by
  unfold tl32 tw32
  by_cases h0 : T = 0
  · subst h0
    rw [if_pos rfl, if_pos rfl]
    decide +kernel
  · rw [if_neg h0, if_neg h0]
    have k := tl32_b hT h0
    have u := up32 (e := -23) k.1 k.2.1 (by omega) (by omega) (by omega)
    have u2 := u.2
    show UInt32.ofNat (Jvm.FP.Core.mul Jvm.FP.Core.b32 _ _) = _
    unfold Jvm.FP.Core.mul
    rw [nb32_t (by omega) (by omega), dec32 (by omega) (by omega), show Jvm.FP.Core.decode Jvm.FP.Core.b32 (1258291200 : UInt32).toNat = .fin false 8388608 0 from by decide +kernel]
    have hr := fp_round (f := Jvm.FP.Core.b32) (s := false) (c := 8388608 + (T * 2 ^ (23 - T.log2) - 8388608)) (k := 23) (e := ((T.log2 + (127 - 23) : Nat) : Int) - 150 + 0) (by decide) (by show 8388608 ≤ _; omega) (by show _ < 16777216; omega) (by show (-149 : Int) ≤ _; omega)
    rw [show (2 : Nat) ^ 23 = 8388608 from rfl] at hr
    rw [mul_fin, rnd_fin, hr]
    unfold Jvm.FP.Core.bound
    rw [if_pos (by show _ ≤ (104 : Int); omega), show (((T.log2 + (127 - 23) : Nat) : Int) - 150 + 0 + ((23 : Nat) : Int)) = ((T.log2 + 127 : Nat) : Int) - 150 by omega, enc32 (by omega) (by omega)]
    rfl
theorem whl32 {T : Nat} (hT : T < 8388608) : Jvm.FP.f2i (tw32 T) = Int32.ofInt (T : Int) := by
  unfold tw32
  by_cases h0 : T = 0
  · subst h0
    rw [if_pos rfl]
    decide +kernel
  · rw [if_neg h0]
    have k := tl32_b hT h0
    have u := up32 (e := -23) k.1 k.2.1 (by omega) (by omega) (by omega)
    have u2 := u.2
    show Jvm.FP.Core.toI (Jvm.FP.Core.decode Jvm.FP.Core.b32 _) = _
    rw [nb32_t (by omega) (by omega), dec32 (by omega) (by omega), show 8388608 + (T * 2 ^ (23 - T.log2) - 8388608) = T * 2 ^ (23 - T.log2) by omega]
    unfold Jvm.FP.Core.toI
    rw [toi_fin, show (((T.log2 + 127 : Nat) : Int) - 150).toNat = 0 by omega, show (-(((T.log2 + 127 : Nat) : Int) - 150)).toNat = 23 - T.log2 by omega, Nat.pow_zero, Nat.mul_one, Nat.mul_div_cancel _ (Nat.pow_pos (by decide))]
    congr 1
    omega
theorem nrm64 {c : Nat} {q : Int} (h1 : 4503599627370496 ≤ c ∧ c < 9007199254740992) (h2 : -1074 ≤ q ∧ q ≤ 971) : Jvm.FP.Core.encode Jvm.FP.Core.b64 (.fin false c q) = (q + 1075).toNat * 4503599627370496 + (c - 4503599627370496) := by
  have h := enc64 (E := (q + 1075).toNat) (T := c - 4503599627370496) (by omega) (by omega)
  rw [show 4503599627370496 + (c - 4503599627370496) = c by omega, show (((q + 1075).toNat : Nat) : Int) - 1075 = q by omega] at h
  exact h
theorem dnr64 {c : Nat} {q : Int} (h1 : 4503599627370496 ≤ c ∧ c < 9007199254740992) (h2 : -1074 ≤ q ∧ q ≤ 971) : Jvm.FP.Core.decode Jvm.FP.Core.b64 ((q + 1075).toNat * 4503599627370496 + (c - 4503599627370496)) = .fin false c q := by
  have h := dec64 (E := (q + 1075).toNat) (T := c - 4503599627370496) (by omega) (by omega)
  rw [show 4503599627370496 + (c - 4503599627370496) = c by omega, show (((q + 1075).toNat : Nat) : Int) - 1075 = q by omega] at h
  exact h
/-- the bits of a normal number -/
def nb64 (E T : Nat) : UInt64 := UInt64.ofNat (E * 4503599627370496 + T)
theorem nb64_t {E T : Nat} (hE : E < 2047) (hT : T < 4503599627370496) : (nb64 E T).toNat = E * 4503599627370496 + T := by
  unfold nb64
  rw [UInt64.toNat_ofNat_of_lt']
  show _ < 18446744073709551616
  omega
theorem up64 {n k : Nat} {e : Int} (h1 : 2 ^ k ≤ n) (h2 : n < 2 ^ (k + 1)) (hk : k ≤ 52) (hq : -1074 ≤ e + k - 52) (hm : e + k - 52 ≤ 971) : Jvm.FP.Core.roundRatio Jvm.FP.Core.b64 false n 1 e = .fin false (n * 2 ^ (52 - k)) (e + k - 52) ∧ (4503599627370496 ≤ n * 2 ^ (52 - k) ∧ n * 2 ^ (52 - k) < 9007199254740992) := by
  have hr := fp_up (f := Jvm.FP.Core.b64) (s := false) (e := e) h1 h2 (by show k + 1 ≤ 53; omega) (by show (-1074 : Int) ≤ e + k - ((53 : Nat) - 1 : Int); omega)
  have hp1 : Jvm.FP.Core.b64.p - 1 - k = 52 - k := rfl
  have hp2 : ((Jvm.FP.Core.b64.p : Nat) : Int) - 1 = 52 := rfl
  rw [hr, hp1, hp2]
  refine ⟨if_pos hm, ?_, ?_⟩
  · have := Nat.mul_le_mul_right (2 ^ (52 - k)) h1
    rw [← Nat.pow_add, show k + (52 - k) = 52 by omega] at this
    exact this
  · have := Nat.mul_lt_mul_of_pos_right h2 (Nat.pow_pos (n := 52 - k) (show 0 < 2 by decide))
    rw [← Nat.pow_add, show k + 1 + (52 - k) = 53 by omega] at this
    exact this
theorem i2_64 {a : Nat} (h1 : 1 ≤ a) (h2 : a < 65536) : Jvm.FP.Core.decode Jvm.FP.Core.b64 (Jvm.FP.i2d (Int32.ofInt (a : Int))).toNat = .fin false (a * 2 ^ (52 - a.log2)) ((a.log2 : Int) - 52) ∧ (4503599627370496 ≤ a * 2 ^ (52 - a.log2) ∧ a * 2 ^ (52 - a.log2) < 9007199254740992) := by
  have k := fp_log h1 (Nat.le_refl _)
  have k15 : a.log2 ≤ 15 := by
    have h : 2 ^ a.log2 < 2 ^ 16 := by have : (2 : Nat) ^ 16 = 65536 := rfl; omega
    have := (Nat.pow_lt_pow_iff_right (by decide : 1 < 2)).mp h
    omega
  have u := up64 (e := 0) k.1 k.2.1 (by omega) (by omega) (by omega)
  rw [Int.zero_add] at u
  have hf : Jvm.FP.Core.fromInt Jvm.FP.Core.b64 (a : Int) = (((a.log2 : Int) - 52) + 1075).toNat * 4503599627370496 + (a * 2 ^ (52 - a.log2) - 4503599627370496) := by
    unfold Jvm.FP.Core.fromInt Jvm.FP.Core.ofInt Jvm.FP.Core.round
    rw [show decide ((a : Int) < 0) = false from decide_eq_false (by omega), show ((a : Int)).natAbs = a from rfl]
    show Jvm.FP.Core.encode Jvm.FP.Core.b64 (Jvm.FP.Core.roundRatio Jvm.FP.Core.b64 false a 1 0) = _
    rw [u.1]
    exact nrm64 u.2 (by omega)
  refine ⟨?_, u.2⟩
  have hb : Jvm.FP.i2d (Int32.ofInt (a : Int)) = nb64 (((a.log2 : Int) - 52) + 1075).toNat (a * 2 ^ (52 - a.log2) - 4503599627370496) := by
    show UInt64.ofNat (Jvm.FP.Core.fromInt Jvm.FP.Core.b64 (Int32.ofInt (a : Int)).toInt) = _
    rw [i32_t ⟨by omega, by omega⟩, hf]
    rfl
  rw [hb, nb64_t (by omega) (by omega)]
  exact dnr64 u.2 (by omega)
/-- a share of two whole numbers -/
def sh64 (a t : Int) : UInt64 := Jvm.FP.ddiv (Jvm.FP.i2d (Int32.ofInt a)) (Jvm.FP.i2d (Int32.ofInt t))
theorem sh64_p {a t : Nat} (h1 : 1 ≤ a) (h2 : a ≤ t) (h3 : t < 65536) : ∃ E T : Nat, sh64 (a : Int) (t : Int) = nb64 E T ∧ (1 ≤ E ∧ E ≤ 1023) ∧ T < 4503599627370496 := by
  have ka := fp_log h1 h2
  have kt := fp_log (show 1 ≤ t by omega) (Nat.le_refl t)
  have k15 : t.log2 ≤ 15 := by
    have h : 2 ^ t.log2 < 2 ^ 16 := by have : (2 : Nat) ^ 16 = 65536 := rfl; omega
    have := (Nat.pow_lt_pow_iff_right (by decide : 1 < 2)).mp h
    omega
  have ia := i2_64 h1 (by omega : a < 65536)
  have it := i2_64 (by omega : 1 ≤ t) h3
  have hd := fp_div (f := Jvm.FP.Core.b64) (ca := a * 2 ^ (52 - a.log2)) (cb := t * 2 ^ (52 - t.log2)) (t := 4503599627370496) (e := ((a.log2 : Int) - 52) - ((t.log2 : Int) - 52)) (by decide) (by decide) (by decide) ia.2.1 ia.2.2 it.2.1 it.2.2 (by show (-1074 : Int) ≤ _ - ((53 : Nat) : Int); omega) (by decide) (by
    by_cases he : a.log2 = t.log2
    · right
      exact ⟨by omega, by rw [he]; exact Nat.mul_le_mul_right _ h2⟩
    · left
      omega)
  obtain ⟨c, q, e1, e2, e3, e4⟩ := hd
  have e3 : ((a.log2 : Int) - 52) - ((t.log2 : Int) - 52) - ((53 : Nat) : Int) ≤ q := e3
  have e4 : q ≤ 1 - ((53 : Nat) : Int) := e4
  refine ⟨(q + 1075).toNat, c - 4503599627370496, ?_, by omega, by omega⟩
  unfold sh64
  show UInt64.ofNat (Jvm.FP.Core.div Jvm.FP.Core.b64 _ _) = _
  unfold Jvm.FP.Core.div
  rw [ia.1, it.1]
  rw [quo_fin (by have := it.2.1; omega), e1, nrm64 e2 (by omega)]
  rfl
theorem sh64_0 {t : Nat} (h1 : 1 ≤ t) (h3 : t < 65536) : sh64 0 (t : Int) = 0 := by
  have it := i2_64 h1 h3
  unfold sh64
  show UInt64.ofNat (Jvm.FP.Core.div Jvm.FP.Core.b64 _ _) = _
  unfold Jvm.FP.Core.div
  rw [it.1, show Jvm.FP.Core.decode Jvm.FP.Core.b64 (Jvm.FP.i2d (Int32.ofInt 0)).toNat = .fin false 0 (-1074) from by decide +kernel]
  rw [quo_fin (by have := it.2.1; omega)]
  unfold Jvm.FP.Core.roundRatio
  rw [if_pos rfl]
  decide +kernel
theorem nn64 {E T : Nat} (hE : E < 2047) (hT : T < 4503599627370496) : vf_n64 (nb64 E T) := by
  unfold vf_n64
  rw [UInt64.le_iff_toNat_le, UInt64.toNat_and, nb64_t hE hT]
  refine Nat.le_trans Nat.and_le_left ?_
  show _ ≤ 9218868437227405312
  omega
/-- with zero, and with one -/
theorem cm64_0 {E T : Nat} (h : 1 ≤ E ∧ E < 2047) (hT : T < 4503599627370496) : Jvm.FP.dcmp (nb64 E T) Jvm.FP.dconst0 = some .gt := by
  show Jvm.FP.Core.cmp Jvm.FP.Core.b64 _ _ = _
  unfold Jvm.FP.Core.cmp
  rw [nb64_t h.2 hT, dec64 h hT, show Jvm.FP.Core.decode Jvm.FP.Core.b64 Jvm.FP.dconst0.toNat = .fin false 0 (-1074) from by decide +kernel]
  rw [ord_fin, Nat.zero_mul]
  have hp := Nat.pow_pos (n := ((E : Int) - 1075 - min ((E : Int) - 1075) (-1074)).toNat) (show 0 < 2 by decide)
  have hx : 0 < (4503599627370496 + T) * 2 ^ ((E : Int) - 1075 - min ((E : Int) - 1075) (-1074)).toNat := Nat.mul_pos (by omega) hp
  generalize (4503599627370496 + T) * 2 ^ ((E : Int) - 1075 - min ((E : Int) - 1075) (-1074)).toNat = z at hx
  have : compare (z : Int) ((0 : Nat) : Int) = .gt := Int.compare_eq_gt.mpr (by omega)
  rw [this]
theorem cm64_1 {E T : Nat} (h : 1 ≤ E ∧ E < 1023) (hT : T < 4503599627370496) : Jvm.FP.dcmp (nb64 E T) Jvm.FP.dconst1 = some .lt := by
  show Jvm.FP.Core.cmp Jvm.FP.Core.b64 _ _ = _
  unfold Jvm.FP.Core.cmp
  rw [nb64_t (by omega) hT, dec64 (by omega) hT, show Jvm.FP.Core.decode Jvm.FP.Core.b64 Jvm.FP.dconst1.toNat = .fin false 4503599627370496 (-52) from by decide +kernel]
  rw [ord_fin, show min ((E : Int) - 1075) (-52) = (E : Int) - 1075 by omega, show ((E : Int) - 1075 - ((E : Int) - 1075)).toNat = 0 by omega, show (-52 - ((E : Int) - 1075)).toNat = (1023 - E - 1) + 1 by omega, Nat.pow_zero, Nat.mul_one, Nat.pow_succ]
  have hp := Nat.pow_pos (n := 1023 - E - 1) (show 0 < 2 by decide)
  have hx : 4503599627370496 * 2 ≤ 4503599627370496 * (2 ^ (1023 - E - 1) * 2) := Nat.mul_le_mul_left _ (by omega)
  generalize 4503599627370496 * (2 ^ (1023 - E - 1) * 2) = z at hx
  have : compare ((4503599627370496 + T : Nat) : Int) (z : Int) = .lt := Int.compare_eq_lt.mpr (by omega)
  rw [this]
theorem cm64_2 {T : Nat} (hT : T < 4503599627370496) : ∃ x, 0 ≤ x ∧ x ≤ 1 ∧ ∀ op, Op.cmpValue (Jvm.FP.dcmp (nb64 1023 T) Jvm.FP.dconst1) op = Int32.ofInt x := by
  have e : Jvm.FP.dcmp (nb64 1023 T) Jvm.FP.dconst1 = some (compare ((4503599627370496 + T : Nat) : Int) ((4503599627370496 : Nat) : Int)) := by
    show Jvm.FP.Core.cmp Jvm.FP.Core.b64 _ _ = _
    unfold Jvm.FP.Core.cmp
    rw [nb64_t (by omega) hT, dec64 (by omega) hT, show Jvm.FP.Core.decode Jvm.FP.Core.b64 Jvm.FP.dconst1.toNat = .fin false 4503599627370496 (-52) from by decide +kernel]
    rw [ord_fin, show min (((1023 : Nat) : Int) - 1075) (-52) = -52 by omega, show (((1023 : Nat) : Int) - 1075 - -52).toNat = 0 by omega, show ((-52 : Int) - -52).toNat = 0 by omega, Nat.pow_zero, Nat.mul_one, Nat.mul_one]
  by_cases h0 : T = 0
  · refine ⟨0, by omega, by omega, fun op => ?_⟩
    rw [e, Int.compare_eq_eq.mpr (by omega)]
    rfl
  · refine ⟨1, by omega, by omega, fun op => ?_⟩
    rw [e, Int.compare_eq_gt.mpr (by omega)]
    rfl
/-- one less: the tail alone; times its weight: a whole number -/
def tl64 (T : Nat) : UInt64 := if T = 0 then 0 else nb64 (T.log2 + (1023 - 52)) (T * 2 ^ (52 - T.log2) - 4503599627370496)
def tw64 (T : Nat) : UInt64 := if T = 0 then 0 else nb64 (T.log2 + 1023) (T * 2 ^ (52 - T.log2) - 4503599627370496)
theorem tl64_b {T : Nat} (hT : T < 4503599627370496) (h0 : ¬ T = 0) : 2 ^ T.log2 ≤ T ∧ T < 2 ^ (T.log2 + 1) ∧ T.log2 < 52 := by
  have k := fp_log (show 1 ≤ T by omega) (Nat.le_refl T)
  refine ⟨k.1, k.2.1, ?_⟩
  have h : 2 ^ T.log2 < 2 ^ 52 := by have : (2 : Nat) ^ 52 = 4503599627370496 := rfl; omega
  exact (Nat.pow_lt_pow_iff_right (by decide : 1 < 2)).mp h
theorem sub64 {T : Nat} (hT : T < 4503599627370496) : Jvm.FP.dsub (nb64 1023 T) Jvm.FP.dconst1 = tl64 T := by
  show UInt64.ofNat (Jvm.FP.Core.sub Jvm.FP.Core.b64 _ _) = _
  unfold Jvm.FP.Core.sub
  rw [nb64_t (by omega) hT, dec64 (by omega) hT, show Jvm.FP.Core.decode Jvm.FP.Core.b64 Jvm.FP.dconst1.toNat = .fin false 4503599627370496 (-52) from by decide +kernel]
  unfold Jvm.FP.Core.negate Jvm.FP.Core.exactSum Jvm.FP.Core.sumUnits Jvm.FP.Core.sumSign Jvm.FP.Core.inUnits Jvm.FP.Core.signed
  have e1 : min (((1023 : Nat) : Int) - 1075) (-52) = -52 := by omega
  have e2 : (((1023 : Nat) : Int) - 1075 - -52).toNat = 0 := by omega
  have e3 : ((-52 : Int) - -52).toNat = 0 := by omega
  have e4 : (((4503599627370496 + T : Nat) : Int) + -((4503599627370496 : Nat) : Int)) = (T : Int) := by omega
  simp only [e1, e2, e3, Nat.pow_zero, Nat.mul_one, Bool.false_eq_true, if_false, Bool.not_false, if_true, e4]
  rw [show (if (T : Int) = 0 then false && true else decide ((T : Int) < 0)) = false from by split <;> simp]
  unfold Jvm.FP.Core.round tl64
  by_cases h0 : T = 0
  · subst h0
    rw [if_pos rfl]
    decide +kernel
  · rw [if_neg h0]
    have k := tl64_b hT h0
    have u := up64 (e := -52) k.1 k.2.1 (by omega) (by omega) (by omega)
    show UInt64.ofNat (Jvm.FP.Core.encode Jvm.FP.Core.b64 (Jvm.FP.Core.roundRatio Jvm.FP.Core.b64 false T 1 (-52))) = _
    rw [u.1, nrm64 u.2 (by omega), show (-52 + ((T.log2 : Nat) : Int) - 52 + 1075).toNat = T.log2 + (1023 - 52) by omega]
    rfl
theorem tln64 {T : Nat} (hT : T < 4503599627370496) : vf_n64 (tl64 T) ∧ vf_n64 (tw64 T) := by
  unfold tl64 tw64
  by_cases h0 : T = 0
  · subst h0
    rw [if_pos rfl, if_pos rfl]
    unfold vf_n64
    exact ⟨by decide +kernel, by decide +kernel⟩
  · rw [if_neg h0, if_neg h0]
    have k := tl64_b hT h0
    have u := up64 (e := -52) k.1 k.2.1 (by omega) (by omega) (by omega)
    have u2 := u.2
    exact ⟨nn64 (by omega) (by omega), nn64 (by omega) (by omega)⟩
theorem wgt64 {T : Nat} (hT : T < 4503599627370496) : Jvm.FP.dmul (tl64 T) 4841369599423283200 = tw64 T := by
  unfold tl64 tw64
  by_cases h0 : T = 0
  · subst h0
    rw [if_pos rfl, if_pos rfl]
    decide +kernel
  · rw [if_neg h0, if_neg h0]
    have k := tl64_b hT h0
    have u := up64 (e := -52) k.1 k.2.1 (by omega) (by omega) (by omega)
    have u2 := u.2
    show UInt64.ofNat (Jvm.FP.Core.mul Jvm.FP.Core.b64 _ _) = _
    unfold Jvm.FP.Core.mul
    rw [nb64_t (by omega) (by omega), dec64 (by omega) (by omega), show Jvm.FP.Core.decode Jvm.FP.Core.b64 (4841369599423283200 : UInt64).toNat = .fin false 4503599627370496 0 from by decide +kernel]
    have hr := fp_round (f := Jvm.FP.Core.b64) (s := false) (c := 4503599627370496 + (T * 2 ^ (52 - T.log2) - 4503599627370496)) (k := 52) (e := ((T.log2 + (1023 - 52) : Nat) : Int) - 1075 + 0) (by decide) (by show 4503599627370496 ≤ _; omega) (by show _ < 9007199254740992; omega) (by show (-1074 : Int) ≤ _; omega)
    rw [show (2 : Nat) ^ 52 = 4503599627370496 from rfl] at hr
    rw [mul_fin, rnd_fin, hr]
    unfold Jvm.FP.Core.bound
    rw [if_pos (by show _ ≤ (971 : Int); omega), show (((T.log2 + (1023 - 52) : Nat) : Int) - 1075 + 0 + ((52 : Nat) : Int)) = ((T.log2 + 1023 : Nat) : Int) - 1075 by omega, enc64 (by omega) (by omega)]
    rfl
theorem whl64 {T : Nat} (hT : T < 4503599627370496) : Jvm.FP.d2l (tw64 T) = Int64.ofInt (T : Int) := by
  unfold tw64
  by_cases h0 : T = 0
  · subst h0
    rw [if_pos rfl]
    decide +kernel
  · rw [if_neg h0]
    have k := tl64_b hT h0
    have u := up64 (e := -52) k.1 k.2.1 (by omega) (by omega) (by omega)
    have u2 := u.2
    show Jvm.FP.Core.toL (Jvm.FP.Core.decode Jvm.FP.Core.b64 _) = _
    rw [nb64_t (by omega) (by omega), dec64 (by omega) (by omega), show 4503599627370496 + (T * 2 ^ (52 - T.log2) - 4503599627370496) = T * 2 ^ (52 - T.log2) by omega]
    unfold Jvm.FP.Core.toL
    rw [toi_fin, show (((T.log2 + 1023 : Nat) : Int) - 1075).toNat = 0 by omega, show (-(((T.log2 + 1023 : Nat) : Int) - 1075)).toNat = 52 - T.log2 by omega, Nat.pow_zero, Nat.mul_one, Nat.mul_div_cancel _ (Nat.pow_pos (by decide))]
    congr 1
    omega
end FPY
