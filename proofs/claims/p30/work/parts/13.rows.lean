/-! ===== rows as lists: what each call leaves, and what it doesn't touch ===== -/
def frm (μ μ' : Mem) (lo hi : Nat) : Prop := ∀ i : Nat, (i < lo ∨ hi ≤ i) → μ' i = μ i
theorem frm.rf {μ : Mem} {lo hi : Nat} : frm μ μ lo hi := fun _ _ => rfl
theorem frm.tr {μ μ' μ'' : Mem} {lo hi : Nat} (h1 : frm μ μ' lo hi) (h2 : frm μ' μ'' lo hi) : frm μ μ'' lo hi := fun i hi => (h2 i hi).trans (h1 i hi)
theorem frm.wid {μ μ' : Mem} {lo hi lo' hi' : Nat} (h : frm μ μ' lo' hi') (h1 : lo ≤ lo') (h2 : hi' ≤ hi) : frm μ μ' lo hi := fun i hi => h i (by omega)
def hasRow (μ : Mem) (a cap : Nat) (L : List Int) : Prop := wfR μ a cap ∧ rowOf μ a = L
theorem hasRow.len {μ : Mem} {a cap : Nat} {L : List Int} (h : hasRow μ a cap L) : μ a 1 = (L.length : Int) := by
  rw [← h.2, rowOf_len]
  have := h.1.1
  omega
theorem hasRow.cap {μ : Mem} {a cap : Nat} {L : List Int} (h : hasRow μ a cap L) : L.length ≤ cap := by
  have h1 := h.len
  have h2 := h.1.2
  omega
theorem hasRow.keep {μ μ' : Mem} {a cap lo hi : Nat} {L : List Int} (h : hasRow μ a cap L) (f : frm μ μ' lo hi) (hd : a + 2 ≤ lo ∨ hi ≤ a) : hasRow μ' a cap L := by
  have h1 : μ' a = μ a := f a (by omega)
  have h2 : μ' (a + 1) = μ (a + 1) := f (a + 1) (by omega)
  exact ⟨⟨by rw [h1]; exact h.1.1, by rw [h1]; exact h.1.2⟩, by rw [rowOf_same h1 h2]; exact h.2⟩
theorem wfR.keep {μ μ' : Mem} {a cap lo hi : Nat} (h : wfR μ a cap) (f : frm μ μ' lo hi) (hd : a + 2 ≤ lo ∨ hi ≤ a) : wfR μ' a cap := (hasRow.keep (L := rowOf μ a) ⟨h, rfl⟩ f hd).1
theorem hasRow.get {μ : Mem} {a cap : Nat} {L : List Int} (h : hasRow μ a cap L) {i : Nat} (hi : i < L.length) : some (μ (a + 1) i) = L[i]? := by
  rw [← h.2, rowOf_get?, if_pos]
  have := h.len
  omega
theorem hasRow.of {μ : Mem} {a cap : Nat} {L : List Int} (h1 : μ a 1 = L.length) (hc : L.length ≤ cap) (h2 : ∀ i, i < L.length → some (μ (a + 1) i) = L[i]?) : hasRow μ a cap L :=
  ⟨⟨by omega, by omega⟩, rowOf_ext h1 h2⟩
theorem frm_mup {μ : Mem} {a k lo hi : Nat} {z : Int} (h : lo ≤ a ∧ a < hi) : frm μ (mup μ a k z) lo hi := fun i hi => mup_n (by omega)
section RL
variable {G : GT} {l : Launch} {N : Nat} {sh : Nat → ShT} {μ : Mem}
variable {a b cap capb : Nat} {L L2 : List Int}
theorem hr_add (h : hasRow μ a cap L) (hlt : L.length < cap) (v : Int) : hasRow (mAdd μ a cap v) a cap (L ++ [v]) := by
  have hl := h.len
  unfold mAdd
  rw [if_pos (by omega)]
  refine hasRow.of (by rw [mup_s, hl]; simp) (by simp; omega) (fun i hi => ?_)
  rw [mup_n (by omega)]
  simp only [List.length_append, List.length_singleton] at hi
  by_cases hi2 : i < L.length
  · rw [mup_k (by omega), List.getElem?_append_left hi2, h.get hi2]
  · rw [show i = (μ a 1).toNat by omega, mup_s, List.getElem?_append_right (by omega), show (μ a 1).toNat - L.length = 0 by omega]
    rfl
theorem fr_add (v : Int) : frm μ (mAdd μ a cap v) a (a + 2) := by
  unfold mAdd
  by_cases h : μ a 1 < cap
  · rw [if_pos h]; exact (frm_mup (by omega)).tr (frm_mup (by omega))
  · rw [if_neg h]; exact frm.rf
theorem hr_put (h : hasRow μ a cap L) {i v : Int} (h0 : 0 ≤ i) : hasRow (mPut μ a i v) a cap (L.set i.toNat v) := by
  have hl := h.len
  unfold mPut
  by_cases hi : 0 ≤ i ∧ i < μ a 1
  · rw [if_pos hi]
    refine hasRow.of (by rw [mup_n (by omega), hl]; simp) (by simp; exact h.cap) (fun j hj => ?_)
    simp only [List.length_set] at hj
    rw [List.getElem?_set]
    by_cases hji : i.toNat = j
    · subst hji
      rw [mup_s, if_pos rfl, if_pos hj]
    · rw [mup_k (fun q => hji q.symm), if_neg hji, h.get hj]
  · rw [if_neg hi, List.set_eq_of_length_le (by omega)]
    exact h
theorem fr_put (i v : Int) : frm μ (mPut μ a i v) a (a + 2) := by
  unfold mPut
  by_cases h : 0 ≤ i ∧ i < μ a 1
  · rw [if_pos h]; exact frm_mup (by omega)
  · rw [if_neg h]; exact frm.rf
theorem hr_cut (h : hasRow μ a cap L) {n : Int} (h0 : 0 ≤ n) : hasRow (mCut μ a n) a cap (L.take n.toNat) := by
  have hl := h.len
  unfold mCut
  by_cases hi : 0 ≤ n ∧ n < μ a 1
  · rw [if_pos hi]
    refine hasRow.of (by rw [mup_s]; simp; omega) (by simp; have := h.cap; omega) (fun j hj => ?_)
    simp only [List.length_take] at hj
    rw [mup_n (by omega), List.getElem?_take, if_pos (by omega), h.get (by omega)]
  · rw [if_neg hi, List.take_of_length_le (by omega)]
    exact h
theorem fr_cut (n : Int) : frm μ (mCut μ a n) a (a + 2) := by
  unfold mCut
  by_cases h : 0 ≤ n ∧ n < μ a 1
  · rw [if_pos h]; exact frm_mup (by omega)
  · rw [if_neg h]; exact frm.rf
theorem hr_clear : hasRow (mup μ a 1 0) a cap [] := hasRow.of (by rw [mup_s]; rfl) (by simp) (fun i hi => by simp at hi)
theorem hr_rem (h : hasRow μ a cap L) {p : Int} (h0 : 0 ≤ p ∧ p < L.length) : hasRow (mRem μ a p) a cap (L.eraseIdx p.toNat) := by
  have hl := h.len
  unfold mRem
  rw [if_pos (by omega)]
  have hlen : (L.eraseIdx p.toNat).length = L.length - 1 := by rw [List.length_eraseIdx, if_pos (by omega)]
  refine hasRow.of (by rw [mup_s, hlen]; omega) (by rw [hlen]; have := h.cap; omega) (fun j hj => ?_)
  rw [hlen] at hj
  rw [mup_n (by omega), fup_s, List.getElem?_eraseIdx]
  unfold shl1
  by_cases hjp : j < p.toNat
  · rw [if_neg (by omega), if_pos hjp, h.get (by omega)]
  · rw [if_pos (by omega), if_neg hjp, h.get (by omega)]
theorem frm_fup {a lo hi : Nat} {f : Nat → Int} (h : lo ≤ a ∧ a < hi) : frm μ (fup μ a f) lo hi := fun i hi => fup_n (by omega)
theorem fr_rem (p : Int) : frm μ (mRem μ a p) a (a + 2) := by
  unfold mRem
  by_cases h : 0 ≤ p ∧ p < μ a 1
  · rw [if_pos h]; exact (frm_fup (by omega)).tr (frm_mup (by omega))
  · rw [if_neg h]; exact frm.rf
theorem hr_cpy (hb : hasRow μ b capb L2) (hc : L2.length ≤ cap) : hasRow (mCpy μ a b) a cap L2 := by
  have hl := hb.len
  unfold mCpy mCpI
  refine hasRow.of (by rw [mup_s, hl]) hc (fun j hj => ?_)
  rw [mup_n (by omega), fup_s]
  show some (if (j : Int) < μ b 1 then _ else _) = _
  rw [if_pos (by omega), hb.get hj]
theorem fr_cpy : frm μ (mCpy μ a b) a (a + 2) := by
  unfold mCpy mCpI
  exact (frm_fup (by omega)).tr (frm_mup (by omega))
theorem hr_at (h : hasRow μ a cap L) (i : Int) : rat (rowOf μ a) i = rat L i := by rw [h.2]
-- the calls
theorem r_held (hst : l.stackTraces = false) (hr : isRow N sh a cap) (h : hasRow μ a cap L) : Zi G l N sh M_X4_held [.ref (gB G + a)] μ (fun r μ' => r = (L.length : Int) ∧ μ' = μ) := by
  rw [← h.len]; exact s_X4_held hst hr
theorem r_at (hst : l.stackTraces = false) (hr : isRow N sh a cap) (h : hasRow μ a cap L) {i : Int} (hi : R32 i) : Zi G l N sh M_X4_at [.ref (gB G + a), vI i] μ (fun r μ' => r = rat L i ∧ μ' = μ) := by
  rw [← h.2]; exact s_X4_at hst hr h.1 hi
theorem r_sum (hst : l.stackTraces = false) (hr : isRow N sh a cap) (h : hasRow μ a cap L) : Zi G l N sh M_X4_sum [.ref (gB G + a)] μ (fun r μ' => r = L.sum ∧ μ' = μ) := by
  rw [← h.2]; exact s_X4_sum hst hr h.1
theorem r_add (hst : l.stackTraces = false) (hr : isRow N sh a cap) (h : hasRow μ a cap L) (hlt : L.length < cap) {v : Int} : Zv G l N sh M_X4_add [.ref (gB G + a), vI v] μ (fun μ' => hasRow μ' a cap (L ++ [v]) ∧ frm μ μ' a (a + 2)) :=
  Fx.mono (s_X4_add hst hr h.1) (by rintro o μ' ⟨v, rfl, rfl, rfl⟩; exact ⟨_, rfl, rfl, hr_add h hlt _, fr_add _⟩)
theorem r_put (hst : l.stackTraces = false) (hr : isRow N sh a cap) (h : hasRow μ a cap L) {i v : Int} (hi : R32 i) (h0 : 0 ≤ i) : Zv G l N sh M_X4_put [.ref (gB G + a), vI i, vI v] μ (fun μ' => hasRow μ' a cap (L.set i.toNat v) ∧ frm μ μ' a (a + 2)) :=
  Fx.mono (s_X4_put hst hr h.1 hi) (by rintro o μ' ⟨v, rfl, rfl, rfl⟩; exact ⟨_, rfl, rfl, hr_put h h0, fr_put _ _⟩)
theorem r_cut (hst : l.stackTraces = false) (hr : isRow N sh a cap) (h : hasRow μ a cap L) {i : Int} (hi : R32 i) (h0 : 0 ≤ i) : Zv G l N sh M_X4_cut [.ref (gB G + a), vI i] μ (fun μ' => hasRow μ' a cap (L.take i.toNat) ∧ frm μ μ' a (a + 2)) :=
  Fx.mono (s_X4_cut hst hr h.1 hi) (by rintro o μ' ⟨v, rfl, rfl, rfl⟩; exact ⟨_, rfl, rfl, hr_cut h h0, fr_cut _⟩)
theorem r_clear (hst : l.stackTraces = false) (hr : isRow N sh a cap) : Zv G l N sh M_X4_clear [.ref (gB G + a)] μ (fun μ' => hasRow μ' a cap [] ∧ frm μ μ' a (a + 2)) :=
  Fx.mono (s_X4_clear hst hr) (by rintro o μ' ⟨v, rfl, rfl, rfl⟩; exact ⟨_, rfl, rfl, hr_clear, frm_mup (by omega)⟩)
theorem r_remove (hst : l.stackTraces = false) (hr : isRow N sh a cap) (h : hasRow μ a cap L) {p : Int} (h0 : 0 ≤ p ∧ p < L.length) : Zv G l N sh M_X4_remove [.ref (gB G + a), vI p] μ (fun μ' => hasRow μ' a cap (L.eraseIdx p.toNat) ∧ frm μ μ' a (a + 2)) :=
  Fx.mono (s_X4_remove hst hr h.1 (p := p) (by have := h.cap; have := hr.2.2.2.2; exact ⟨by omega, by omega⟩)) (by rintro o μ' ⟨v, rfl, rfl, rfl⟩; exact ⟨_, rfl, rfl, hr_rem h h0, fr_rem _⟩)
theorem r_copy (hst : l.stackTraces = false) (hr : isRow N sh a cap) (hrb : isRow N sh b capb) (hb : hasRow μ b capb L2) (hc : L2.length ≤ cap) (hab : a ≠ b ∧ a + 1 ≠ b ∧ a ≠ b + 1) : Zv G l N sh M_X4_copy [.ref (gB G + a), .ref (gB G + b)] μ (fun μ' => hasRow μ' a cap L2 ∧ frm μ μ' a (a + 2)) :=
  Fx.mono (s_X4_copy hst hr hrb hb.1 hab (by rw [hb.len]; omega)) (by rintro o μ' ⟨v, rfl, rfl, rfl⟩; exact ⟨_, rfl, rfl, hr_cpy hb hc, fr_cpy⟩)
end RL
