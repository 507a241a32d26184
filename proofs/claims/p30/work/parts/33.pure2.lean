/-! ===== pure lemmas ===== -/
section PX2
variable {xs ys S D Ln : List Int} {C : List (List Int)} {v lo hi : Int}
theorem rat_snoc {L : List Int} {v k : Int} : rat (L ++ [v]) k = if k = L.length then v else rat L k := by
  unfold rat
  rw [List.length_append, List.length_singleton]
  by_cases h : k = L.length
  · subst h
    rw [if_pos (by omega), if_pos rfl]
    unfold List.getD
    rw [List.getElem?_append_right (by omega)]
    simp
  · rw [if_neg h]
    by_cases h2 : 0 ≤ k ∧ k < L.length
    · rw [if_pos h2, if_pos (by omega)]
      unfold List.getD
      rw [List.getElem?_append_left (by omega)]
    · rw [if_neg h2, if_neg (by omega)]
theorem rat_erase {L : List Int} {p k : Int} (hp : 0 ≤ p ∧ p < L.length) (hk : 0 ≤ k ∧ k + 1 < L.length) : rat (L.eraseIdx p.toNat) k = if k < p then rat L k else rat L (k + 1) := by
  have e1 : (L.eraseIdx p.toNat).length = L.length - 1 := by rw [List.length_eraseIdx, if_pos (by omega)]
  have e2 : rat (L.eraseIdx p.toNat) k = (L.eraseIdx p.toNat).getD k.toNat 0 := by unfold rat; rw [if_pos (by omega)]
  have e3 : rat L k = L.getD k.toNat 0 := by unfold rat; rw [if_pos (by omega)]
  have e4 : rat L (k + 1) = L.getD (k.toNat + 1) 0 := by unfold rat; rw [if_pos (by omega), show (k + 1).toNat = k.toNat + 1 by omega]
  rw [e2, e3, e4]
  unfold List.getD
  rw [List.getElem?_eraseIdx]
  by_cases e : k < p
  · rw [if_pos e, if_pos (by omega)]
  · rw [if_neg e, if_neg (by omega)]
theorem bR2 (b : Bool) : R32 (bI b) := ⟨by have := bI_b b; omega, by have := bI_b b; omega⟩
theorem bI0d {p : Prop} [Decidable p] : bI (decide p) = 0 ↔ ¬ p := by rw [bI0, decide_eq_true_eq]
theorem set_last {L : List Int} {a b : Int} : (L ++ [a]).set L.length b = L ++ [b] := by
  apply List.ext_getElem?
  intro j
  rw [List.getElem?_set]
  by_cases h : L.length = j
  · subst h
    simp
  · rw [if_neg h]
    by_cases h2 : j < L.length
    · rw [List.getElem?_append_left h2, List.getElem?_append_left h2]
    · rw [List.getElem?_eq_none (by simp; omega), List.getElem?_eq_none (by simp; omega)]
theorem eig_c {a b : Int} (ha : 0 ≤ a ∧ a ≤ 7) (hb : 0 ≤ b ∧ b ≤ 7) : eig a b = eig b a := by
  unfold eig
  split <;> split <;> omega
theorem dropA_len {K L : List Int} {p : Int} (h : 0 ≤ p ∧ p < K.length) : (dropA K L p).1.length + 1 ≤ K.length := by
  unfold dropA
  split
  · show ((K.eraseIdx p.toNat).eraseIdx p.toNat).length + 1 ≤ K.length
    rw [List.length_eraseIdx]
    have : (K.eraseIdx p.toNat).length = K.length - 1 := by rw [List.length_eraseIdx, if_pos (by omega)]
    split <;> omega
  · show (K.eraseIdx p.toNat).length + 1 ≤ K.length
    rw [List.length_eraseIdx, if_pos (by omega)]
    omega
theorem okS.un (h : okS ((xs, ys), C, S)) : (ys.length = xs.length ∧ xs.length ≤ 40 ∧ bnd xs 0 31 ∧ bnd ys 0 31) ∧ (C.length ≤ 10 ∧ (∀ L ∈ C, L.length ≤ 8 ∧ bnd L 0 7) ∧ C.Nodup) ∧ wfS S := h
theorem dsD_b {S D : List Int} {C : List (List Int)} (hw : wfS S) (hD : D.length ≤ 40) (h8 : ∀ L ∈ C, L.length ≤ 8 ∧ bnd L 0 7) : bnd (C.map (dstOf S D)) 0 1000 := fun z hz => by
  obtain ⟨L, hL, rfl⟩ := List.mem_map.mp hz
  exact dstOf_b hw _ _ hD (h8 L hL).1
theorem getZ_mem {Z : List St} {k : Nat} (h : k < Z.length) : Z.getD k (([], []), [], []) ∈ Z := by simp [List.getD, h]
theorem tnF_iff (C : List (List Int)) (S D : List Int) : ∀ (n : Nat) (i : Int), tnF C S D n i = true ↔ ∃ j, i ≤ j ∧ j < i + n ∧ dstOf S D (C.getD j.toNat []) ≤ 2 * rat S 4
  | 0, i => ⟨fun h => (by cases h), fun ⟨j, a, b, _⟩ => (by omega)⟩
  | n + 1, i => by
    show (if dstOf S D (C.getD i.toNat []) ≤ 2 * rat S 4 then true else tnF C S D n (i + 1)) = true ↔ _
    by_cases h : dstOf S D (C.getD i.toNat []) ≤ 2 * rat S 4
    · rw [if_pos h]
      exact ⟨fun _ => ⟨i, by omega, by omega, h⟩, fun _ => rfl⟩
    · rw [if_neg h, tnF_iff C S D n (i + 1)]
      exact ⟨fun ⟨j, a, b, c⟩ => ⟨j, by omega, by omega, c⟩, fun ⟨j, a, b, c⟩ => ⟨j, by by_cases e : j = i; { rw [e] at c; exact absurd c h }; { omega }, by omega, c⟩⟩
theorem okS_set {s v : Int} (ok : okS ((xs, ys), C, S)) (hs : 0 ≤ s ∧ s < 5) (hv : tbo 1 s ≤ v ∧ v ≤ tbo 2 s) : okS ((xs, ys), C, S.set s.toNat v) := ⟨ok.1, ok.2.1, wfS_set ok.2.2 hs hv⟩
theorem bnd_goL {L : List Int} {dx : Int} {k : Nat} (h : bnd L 0 31) (hd : -1 ≤ dx ∧ dx ≤ 1) (hk : (k : Int) ≤ stepsW (lastOf L) dx) : bnd (L ++ goL (lastOf L) dx k) 0 31 := fun z hz => by
  rcases List.mem_append.mp hz with hz | hz
  · exact h z hz
  · obtain ⟨j, hj, rfl⟩ := List.mem_map.mp hz
    have := List.mem_range.mp hj
    exact stepW_on (last_b h) hd ⟨by omega, by omega⟩
theorem dst_self {S D : List Int} : ∀ n, n ≤ D.length → costF (rat S 3) (rat S 2) (D.take n) (KL D) n ≤ 0
  | 0, _ => by show ((0 : Nat) : Int) * rat S 3 ≤ 0; simp
  | n + 1, hn => by
    have e : D.take (n + 1) = D.take n ++ [D.getD n 0] := by rw [List.take_add_one, List.getElem?_eq_getElem (by omega)]; simp [List.getD, show n < D.length by omega]
    rw [e, costF_snoc]
    have ih := dst_self (S := S) (D := D) n (by omega)
    have z : eig (D.getD n 0) (KL D n) = 0 := by
      show eig (D.getD n 0) (D.getD n 0) = 0
      unfold eig
      rw [Int.sub_self]
      decide
    show min (costF (rat S 3) (rat S 2) (D.take n) (KL D) n + rat S 2 * eig (D.getD n 0) (KL D n)) (min _ _) ≤ 0
    rw [z, Int.mul_zero]
    omega
theorem dst_same {S D : List Int} : dstOf S D D ≤ 0 := by
  have h := dst_self (S := S) (D := D) D.length (Nat.le_refl _)
  rw [List.take_length] at h
  exact h
end PX2
