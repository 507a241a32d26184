/-! ===== distances are a metric; what is least; the numbers of the law: pure ===== -/
def edR (g t x : Int) (f : List Int → Int) : List Int → Int
  | [] => f [] + g
  | y :: b => min (f b + t * eig x y) (min (f (y :: b) + g) (edR g t x f b + g))
def edg (g t : Int) : List Int → List Int → Int
  | [] => fun b => g * (b.length : Int)
  | x :: a => edR g t x (edg g t a)
theorem edg_n (g t : Int) : ∀ a : List Int, edg g t a [] = g * (a.length : Int)
  | [] => rfl
  | x :: a => by
    show edg g t a [] + g = g * (((x :: a).length : Nat) : Int)
    rw [edg_n g t a, List.length_cons]
    push_cast
    rw [Int.mul_add, Int.mul_one]
theorem eig_s (a b : Int) : eig a b = eig b a := by unfold eig; split <;> split <;> omega
theorem eig_t (a b c : Int) : eig a c ≤ eig a b + eig b c := by unfold eig; split <;> split <;> split <;> omega
theorem mul_nn {a b : Int} (ha : 0 ≤ a) (hb : 0 ≤ b) : 0 ≤ a * b := Int.mul_nonneg ha hb
theorem edg_s (g t : Int) : ∀ a b : List Int, edg g t a b = edg g t b a
  | [], [] => rfl
  | [], y :: b => by rw [edg_n]; rfl
  | x :: a, [] => by rw [edg_n]; rfl
  | x :: a, y :: b => by
    show min (edg g t a b + t * eig x y) (min (edg g t a (y :: b) + g) (edg g t (x :: a) b + g)) = min (edg g t b a + t * eig y x) (min (edg g t b (x :: a) + g) (edg g t (y :: b) a + g))
    rw [edg_s g t a b, edg_s g t a (y :: b), edg_s g t (x :: a) b, eig_s x y]
    omega
theorem edg_lo {g t : Int} (hg : 0 ≤ g) (ht : 0 ≤ t) : ∀ a b : List Int, g * (b.length : Int) ≤ g * (a.length : Int) + edg g t a b
  | [], b => by show g * (b.length : Int) ≤ g * (([] : List Int).length : Int) + g * (b.length : Int); simp
  | x :: a, [] => by
    have h := mul_nn hg (Int.natCast_nonneg (x :: a).length)
    rw [edg_n]
    show g * ((([] : List Int).length : Nat) : Int) ≤ _
    simp only [List.length_nil]
    omega
  | x :: a, y :: b => by
    have h1 := edg_lo hg ht a b
    have h2 := edg_lo hg ht a (y :: b)
    have h3 := edg_lo hg ht (x :: a) b
    have h4 := mul_nn ht (eig_b x y).1
    have e1 : g * (((x :: a).length : Nat) : Int) = g * (a.length : Int) + g := by rw [List.length_cons]; push_cast; rw [Int.mul_add, Int.mul_one]
    have e2 : g * (((y :: b).length : Nat) : Int) = g * (b.length : Int) + g := by rw [List.length_cons]; push_cast; rw [Int.mul_add, Int.mul_one]
    show _ ≤ _ + min (edg g t a b + t * eig x y) (min (edg g t a (y :: b) + g) (edg g t (x :: a) b + g))
    omega
theorem edg_hi {g t : Int} (hg : 0 ≤ g) : ∀ a b : List Int, edg g t a b ≤ g * (a.length : Int) + g * (b.length : Int)
  | [], b => by show g * (b.length : Int) ≤ g * (([] : List Int).length : Int) + g * (b.length : Int); simp
  | x :: a, [] => by rw [edg_n]; simp
  | x :: a, y :: b => by
    have h2 := edg_hi (t := t) hg a (y :: b)
    have e1 : g * (((x :: a).length : Nat) : Int) = g * (a.length : Int) + g := by rw [List.length_cons]; push_cast; rw [Int.mul_add, Int.mul_one]
    show min (edg g t a b + t * eig x y) (min (edg g t a (y :: b) + g) (edg g t (x :: a) b + g)) ≤ _
    omega
theorem edg_t {g t : Int} (hg : 0 ≤ g) (ht : 0 ≤ t) : ∀ (n : Nat) (a b c : List Int), a.length + b.length + c.length ≤ n → edg g t a c ≤ edg g t a b + edg g t b c
  | 0, a, b, c, h => by
    obtain rfl : a = [] := List.eq_nil_of_length_eq_zero (by omega)
    obtain rfl : b = [] := List.eq_nil_of_length_eq_zero (by omega)
    obtain rfl : c = [] := List.eq_nil_of_length_eq_zero (by omega)
    show g * _ ≤ g * _ + g * _
    simp
  | n + 1, [], b, c, h => edg_lo hg ht b c
  | n + 1, x :: a, b, [], h => by
    have h1 := edg_lo hg ht b (x :: a)
    rw [edg_n, edg_n, edg_s g t (x :: a) b]
    omega
  | n + 1, x :: a, [], z :: c, h => by
    rw [edg_n]
    exact edg_hi hg (x :: a) (z :: c)
  | n + 1, x :: a, y :: b, z :: c, h => by
    simp only [List.length_cons] at h
    have i1 := edg_t hg ht n a (y :: b) (z :: c) (by simp only [List.length_cons]; omega)
    have i2 := edg_t hg ht n (x :: a) (y :: b) c (by simp only [List.length_cons]; omega)
    have i3 := edg_t hg ht n (x :: a) b (z :: c) (by simp only [List.length_cons]; omega)
    have i4 := edg_t hg ht n (x :: a) b c (by simp only [List.length_cons]; omega)
    have i5 := edg_t hg ht n a b (z :: c) (by simp only [List.length_cons]; omega)
    have i6 := edg_t hg ht n a b c (by omega)
    have q1 := mul_nn ht (eig_b x y).1
    have q2 := mul_nn ht (eig_b y z).1
    have q3 : t * eig x z ≤ t * eig x y + t * eig y z := by
      rw [← Int.mul_add]
      exact Int.mul_le_mul_of_nonneg_left (eig_t x y z) ht
    have d1 : edg g t (x :: a) (z :: c) = min (edg g t a c + t * eig x z) (min (edg g t a (z :: c) + g) (edg g t (x :: a) c + g)) := rfl
    have d2 : edg g t (x :: a) (y :: b) = min (edg g t a b + t * eig x y) (min (edg g t a (y :: b) + g) (edg g t (x :: a) b + g)) := rfl
    have d3 : edg g t (y :: b) (z :: c) = min (edg g t b c + t * eig y z) (min (edg g t b (z :: c) + g) (edg g t (y :: b) c + g)) := rfl
    rw [d1, d2, d3]
    omega
/-- the row of numbers is that distance of what is turned round -/
theorem cost_edg (g t : Int) (L : List Int) : ∀ (R : List Int) (j : Nat), j ≤ L.length → costF g t R.reverse (KL L) j = edg g t R (L.take j).reverse
  | [], j, h => by
    show (j : Int) * g = g * (((L.take j).reverse).length : Int)
    rw [List.length_reverse, List.length_take, Nat.min_eq_left h, Int.mul_comm]
  | x :: R, 0, h => by
    have h1 := cost_edg g t L R 0 h
    rw [List.reverse_cons, costF_snoc]
    show costF g t R.reverse (KL L) 0 + g = edg g t R [] + g
    rw [h1]
    rfl
  | x :: R, j + 1, h => by
    have h1 := cost_edg g t L R (j + 1) h
    have h2 := cost_edg g t L R j (by omega)
    have h3 := cost_edg g t L (x :: R) j (by omega)
    have e : (L.take (j + 1)).reverse = L.getD j 0 :: (L.take j).reverse := by
      have := take_snoc L (i := (j : Int)) (by omega)
      rw [show ((j : Int) + 1).toNat = j + 1 by omega, Int.toNat_natCast] at this
      rw [this, List.reverse_append, rat_nat (by omega)]
      rfl
    rw [List.reverse_cons] at h3 ⊢
    rw [costF_snoc] at h3 ⊢
    have e2 := nc_succ g t x (KL L) (costF g t R.reverse (KL L)) (j := (j : Int) + 1) (by omega)
    rw [show ((j : Int) + 1).toNat = j + 1 by omega, show ((j : Int) + 1 - 1).toNat = j by omega, h1, h2, h3, e] at e2
    rw [e2, e]
    rfl
theorem dst_edg (S D L : List Int) : dstOf S D L = edg (rat S 3) (rat S 2) D.reverse L.reverse := by
  have := cost_edg (rat S 3) (rat S 2) L D.reverse L.length (Nat.le_refl _)
  rw [List.reverse_reverse, List.take_length] at this
  exact this
theorem dst_s (S D L : List Int) : dstOf S D L = dstOf S L D := by rw [dst_edg, dst_edg, edg_s]
theorem dst_t {S : List Int} (hw : wfS S) (A B L : List Int) : dstOf S A L ≤ dstOf S A B + dstOf S B L := by
  obtain ⟨-, h0, h1, h2, h3, h4⟩ := hw
  rw [dst_edg, dst_edg, dst_edg]
  exact edg_t (by omega) (by omega) _ _ _ _ (Nat.le_refl _)
/-- each two commands are more than twice what is forgiven apart -/
def PW (S : List Int) (C : List (List Int)) : Prop := ∀ a b : Int, 0 ≤ a → a < b → b < C.length → 2 * rat S 4 < dstOf S (C.getD a.toNat []) (C.getD b.toNat [])
theorem PW.ne {S : List Int} {C : List (List Int)} (h : PW S C) {a b : Int} (ha : 0 ≤ a ∧ a < C.length) (hb : 0 ≤ b ∧ b < C.length) (hab : a ≠ b) : 2 * rat S 4 < dstOf S (C.getD a.toNat []) (C.getD b.toNat []) := by
  rcases (by omega : a < b ∨ b < a) with q | q
  · exact h a b ha.1 q hb.2
  · rw [dst_s]; exact h b a hb.1 q ha.2
/-- at most one command is as near as that -/
theorem PW.one {S D : List Int} {C : List (List Int)} (hw : wfS S) (h : PW S C) {a b : Int} (ha : 0 ≤ a ∧ a < C.length) (hb : 0 ≤ b ∧ b < C.length) (h1 : dstOf S D (C.getD a.toNat []) ≤ rat S 4) (h2 : dstOf S D (C.getD b.toNat []) ≤ rat S 4) : a = b := by
  by_cases e : a = b
  · exact e
  · have q1 := h.ne ha hb e
    have q2 := dst_t hw (C.getD a.toNat []) D (C.getD b.toNat [])
    rw [dst_s S (C.getD a.toNat []) D] at q2
    omega
theorem PW.snoc {S D : List Int} {C : List (List Int)} (h : PW S C) (hd : ∀ a : Int, 0 ≤ a ∧ a < C.length → 2 * rat S 4 < dstOf S D (C.getD a.toNat [])) : PW S (C ++ [D]) := fun a b h0 h1 h2 => by
  rw [List.length_append, List.length_singleton] at h2
  have e1 : (C ++ [D]).getD a.toNat [] = C.getD a.toNat [] := by
    unfold List.getD
    rw [List.getElem?_append_left (by omega)]
  rw [e1]
  by_cases e : b = C.length
  · have e2 : (C ++ [D]).getD b.toNat [] = D := by
      unfold List.getD
      rw [List.getElem?_append_right (by omega), show b.toNat - C.length = 0 by omega]
      rfl
    rw [e2, dst_s]
    exact hd a (by omega)
  · have e2 : (C ++ [D]).getD b.toNat [] = C.getD b.toNat [] := by
      unfold List.getD
      rw [List.getElem?_append_left (by omega)]
    rw [e2]
    exact h a b h0 h1 (by omega)
theorem getD_erase {C : List (List Int)} {p a : Int} (hp : 0 ≤ p ∧ p < C.length) (ha : 0 ≤ a) : (C.eraseIdx p.toNat).getD a.toNat [] = C.getD (if a < p then a else a + 1).toNat [] := by
  unfold List.getD
  rw [List.getElem?_eraseIdx]
  by_cases e : a < p
  · rw [if_pos e, if_pos (by omega)]
  · rw [if_neg e, if_neg (by omega), show (a + 1).toNat = a.toNat + 1 by omega]
theorem PW.erase {S : List Int} {C : List (List Int)} (h : PW S C) {p : Int} (hp : 0 ≤ p ∧ p < C.length) : PW S (C.eraseIdx p.toNat) := fun a b h0 h1 h2 => by
  rw [List.length_eraseIdx, if_pos (by omega)] at h2
  rw [getD_erase hp h0, getD_erase hp (by omega)]
  exact h _ _ (by split <;> omega) (by split <;> split <;> omega) (by split <;> omega)
theorem PW.nil (S : List Int) : PW S [] := fun a b h0 h1 h2 => by simp at h2; omega
/-- the least distance of a stroke: the law's -/
def lsF (S D : List Int) (C : List (List Int)) : Nat → Int → Int → Int
  | 0, _, b => b
  | n + 1, c, b => lsF S D C n (c + 1) (if dstOf S D (C.getD c.toNat []) < b then dstOf S D (C.getD c.toNat []) else b)
theorem lsF_le (S D : List Int) (C : List (List Int)) : ∀ (n : Nat) (c b : Int), lsF S D C n c b ≤ b ∧ ∀ j, c ≤ j → j < c + n → lsF S D C n c b ≤ dstOf S D (C.getD j.toNat [])
  | 0, c, b => ⟨Int.le_refl _, fun j h1 h2 => by omega⟩
  | n + 1, c, b => by
    obtain ⟨h1, h2⟩ := lsF_le S D C n (c + 1) (if dstOf S D (C.getD c.toNat []) < b then dstOf S D (C.getD c.toNat []) else b)
    refine ⟨?_, fun j h3 h4 => ?_⟩
    · show lsF S D C n (c + 1) _ ≤ b
      split at h1 <;> rename_i q
      · rw [if_pos q]; omega
      · rw [if_neg q]; omega
    · by_cases e : j = c
      · subst e
        show lsF S D C n (j + 1) _ ≤ _
        split at h1 <;> rename_i q
        · rw [if_pos q]; omega
        · rw [if_neg q]; omega
      · exact h2 j (by omega) (by omega)
theorem lsF_in (S D : List Int) (C : List (List Int)) : ∀ (n : Nat) (c b : Int), lsF S D C n c b = b ∨ ∃ j, c ≤ j ∧ j < c + n ∧ lsF S D C n c b = dstOf S D (C.getD j.toNat [])
  | 0, c, b => Or.inl rfl
  | n + 1, c, b => by
    have e : lsF S D C (n + 1) c b = lsF S D C n (c + 1) (if dstOf S D (C.getD c.toNat []) < b then dstOf S D (C.getD c.toNat []) else b) := rfl
    rcases lsF_in S D C n (c + 1) (if dstOf S D (C.getD c.toNat []) < b then dstOf S D (C.getD c.toNat []) else b) with h | ⟨j, h1, h2, h3⟩
    · rw [e, h]
      split
      · exact Or.inr ⟨c, by omega, by omega, rfl⟩
      · exact Or.inl rfl
    · exact Or.inr ⟨j, by omega, by omega, by rw [e]; exact h3⟩
/-- the least distance of two commands: the law's -/
def prI (S : List Int) (C : List (List Int)) (c : Int) : Nat → Int → Int → Int
  | 0, _, b => b
  | n + 1, o, b => prI S C c n (o + 1) (if dstOf S (C.getD o.toNat []) (C.getD c.toNat []) < b then dstOf S (C.getD o.toNat []) (C.getD c.toNat []) else b)
def prO (S : List Int) (C : List (List Int)) : Nat → Int → Int → Int
  | 0, _, b => b
  | n + 1, c, b => prO S C n (c + 1) (prI S C c c.toNat 0 b)
def big (b : Int) : Int := if b = -1 then 9999 else b
theorem prI_la {S : List Int} {C : List (List Int)} (H : ∀ x ∈ C, ∀ y ∈ C, 0 ≤ dstOf S x y ∧ dstOf S x y ≤ 1000) {c : Int} (hc : 0 ≤ c ∧ c < C.length) : ∀ (n : Nat) (o b : Int), 0 ≤ o → o + n ≤ C.length → prI S C c n o (big b) = big (laI C S c n o b)
  | 0, o, b, _, _ => rfl
  | n + 1, o, b, h0, h1 => by
    have hd := H _ (getD_mem C (i := o.toNat) (by omega)) _ (getD_mem C (i := c.toNat) (by omega))
    show prI S C c n (o + 1) (if dstOf S (C.getD o.toNat []) (C.getD c.toNat []) < big b then dstOf S (C.getD o.toNat []) (C.getD c.toNat []) else big b) = big (laI C S c n (o + 1) (if b = -1 ∨ dstOf S (C.getD o.toNat []) (C.getD c.toNat []) < b then dstOf S (C.getD o.toNat []) (C.getD c.toNat []) else b))
    rw [← prI_la H hc n (o + 1) _ (by omega) (by omega)]
    congr 1
    unfold big
    by_cases e : b = -1
    · rw [if_pos e, if_pos (by omega), if_pos (Or.inl e), if_neg (by omega)]
    · rw [if_neg e]
      by_cases q : dstOf S (C.getD o.toNat []) (C.getD c.toNat []) < b
      · rw [if_pos q, if_pos (Or.inr q), if_neg (by omega)]
      · rw [if_neg q, if_neg (by omega), if_neg (by omega)]
theorem prO_la {S : List Int} {C : List (List Int)} (H : ∀ x ∈ C, ∀ y ∈ C, 0 ≤ dstOf S x y ∧ dstOf S x y ≤ 1000) : ∀ (n : Nat) (c b : Int), 0 ≤ c → c + n ≤ C.length → prO S C n c (big b) = big (laO C S n c b)
  | 0, c, b, _, _ => rfl
  | n + 1, c, b, h0, h1 => by
    show prO S C n (c + 1) (prI S C c c.toNat 0 (big b)) = big (laO C S n (c + 1) (laI C S c c.toNat 0 b))
    rw [prI_la H (by omega) c.toNat 0 b (by omega) (by omega), prO_la H n (c + 1) _ (by omega) (by omega)]
def pairsF (S : List Int) (C : List (List Int)) : Int := prO S C C.length 0 9999
theorem pairs_la {S : List Int} {C : List (List Int)} (hw : wfS S) (h8 : ∀ L ∈ C, L.length ≤ 8 ∧ bnd L 0 7) : pairsF S C = big (leastA C S) := by
  have h := prO_la (S := S) (C := C) (fun x hx y hy => dstOf_b hw x y (by have := (h8 x hx).1; omega) (h8 y hy).1) C.length 0 (-1) (by omega) (by omega)
  rw [show big (-1) = 9999 from if_pos rfl] at h
  exact h
/-- what the least of two commands says -/
theorem prI_le (S : List Int) (C : List (List Int)) (c : Int) : ∀ (n : Nat) (o b : Int), prI S C c n o b ≤ b ∧ ∀ j, o ≤ j → j < o + n → prI S C c n o b ≤ dstOf S (C.getD j.toNat []) (C.getD c.toNat [])
  | 0, o, b => ⟨Int.le_refl _, fun j h1 h2 => by omega⟩
  | n + 1, o, b => by
    have e : prI S C c (n + 1) o b = prI S C c n (o + 1) (if dstOf S (C.getD o.toNat []) (C.getD c.toNat []) < b then dstOf S (C.getD o.toNat []) (C.getD c.toNat []) else b) := rfl
    obtain ⟨h1, h2⟩ := prI_le S C c n (o + 1) (if dstOf S (C.getD o.toNat []) (C.getD c.toNat []) < b then dstOf S (C.getD o.toNat []) (C.getD c.toNat []) else b)
    rw [← e] at h1 h2
    refine ⟨by split at h1 <;> omega, fun j h3 h4 => ?_⟩
    by_cases ej : j = o
    · subst ej
      split at h1 <;> omega
    · exact h2 j (by omega) (by omega)
theorem prO_le (S : List Int) (C : List (List Int)) : ∀ (n : Nat) (c b : Int), prO S C n c b ≤ b ∧ ∀ o j, c ≤ j → j < c + n → 0 ≤ o → o < j → prO S C n c b ≤ dstOf S (C.getD o.toNat []) (C.getD j.toNat [])
  | 0, c, b => ⟨Int.le_refl _, fun o j h1 h2 => by omega⟩
  | n + 1, c, b => by
    have e : prO S C (n + 1) c b = prO S C n (c + 1) (prI S C c c.toNat 0 b) := rfl
    obtain ⟨h1, h2⟩ := prO_le S C n (c + 1) (prI S C c c.toNat 0 b)
    obtain ⟨h3, h4⟩ := prI_le S C c c.toNat 0 b
    rw [← e] at h1 h2
    refine ⟨by omega, fun o j h5 h6 h7 h8 => ?_⟩
    by_cases ej : j = c
    · subst ej
      have := h4 o h7 (by omega)
      omega
    · exact h2 o j (by omega) (by omega) h7 h8
theorem pairs_pw {S : List Int} {C : List (List Int)} (h : 2 * rat S 4 < pairsF S C) : PW S C := fun a b h0 h1 h2 => by
  have := (prO_le S C C.length 0 9999).2 a b (by omega) (by omega) h0 h1
  unfold pairsF at h
  omega
theorem pairs_few {S : List Int} {C : List (List Int)} (h : C.length < 2) : pairsF S C = 9999 := by
  unfold pairsF
  rcases (by omega : C.length = 0 ∨ C.length = 1) with e | e
  · rw [e]; rfl
  · rw [e]; rfl
theorem pairs_two {S : List Int} {C : List (List Int)} (hw : wfS S) (h8 : ∀ L ∈ C, L.length ≤ 8 ∧ bnd L 0 7) (h : 2 ≤ C.length) : pairsF S C ≤ 1000 := by
  have h1 := (prO_le S C C.length 0 9999).2 0 1 (by omega) (by omega) (by omega) (by omega)
  have l0 := h8 _ (getD_mem C (i := (0 : Int).toNat) (by show 0 < _; omega))
  have l1 := h8 _ (getD_mem C (i := (1 : Int).toNat) (by show 1 < _; omega))
  have h2 := dstOf_b hw (C.getD (0 : Int).toNat []) (C.getD (1 : Int).toNat []) (by omega) l1.1
  unfold pairsF
  omega
/-- count(7) of the class is the law's -/
theorem least_pairs {S : List Int} {C : List (List Int)} (hw : wfS S) (h8 : ∀ L ∈ C, L.length ≤ 8 ∧ bnd L 0 7) : leastA C S = if C.length < 2 then -1 else pairsF S C := by
  have h1 := pairs_la hw h8
  have h2 := least_b hw h8
  unfold big at h1
  by_cases e : C.length < 2
  · rw [if_pos e]
    rw [pairs_few e] at h1
    split at h1 <;> omega
  · rw [if_neg e]
    have h3 := pairs_two hw h8 (by omega)
    split at h1
    · omega
    · exact h1.symm
theorem least_gt {S : List Int} {C : List (List Int)} (hw : wfS S) (h8 : ∀ L ∈ C, L.length ≤ 8 ∧ bnd L 0 7) (h : 2 * rat S 4 < pairsF S C) : leastA C S = -1 ∨ 2 * rat S 4 < leastA C S := by
  rw [least_pairs hw h8]
  split
  · exact Or.inl rfl
  · exact Or.inr h
/-- the nearest command -/
theorem nbF_le (D : List Int) : ∀ (n : Nat) (o b : Int), 0 ≤ o → (b ≠ -1 → nbF D (-1) n o b ≠ -1 ∧ rat D (nbF D (-1) n o b) ≤ rat D b) ∧ ∀ j, o ≤ j → j < o + n → nbF D (-1) n o b ≠ -1 ∧ rat D (nbF D (-1) n o b) ≤ rat D j
  | 0, o, b, h0 => ⟨fun h => ⟨h, Int.le_refl _⟩, fun j h1 h2 => by omega⟩
  | n + 1, o, b, h0 => by
    have e : nbF D (-1) (n + 1) o b = nbF D (-1) n (o + 1) (nbS D (-1) o b) := rfl
    obtain ⟨h1, h2⟩ := nbF_le D n (o + 1) (nbS D (-1) o b) (by omega)
    rw [← e] at h1 h2
    unfold nbS at h1
    by_cases q : o ≠ -1 ∧ (b = -1 ∨ rat D o < rat D b)
    · rw [if_pos q] at h1
      have h3 := h1 (by omega)
      refine ⟨fun hb => ⟨h3.1, by omega⟩, fun j h4 h5 => ?_⟩
      by_cases ej : j = o
      · subst ej; exact h3
      · exact h2 j (by omega) (by omega)
    · rw [if_neg q] at h1
      refine ⟨h1, fun j h4 h5 => ?_⟩
      by_cases ej : j = o
      · subst ej
        have h3 := h1 (by omega)
        exact ⟨h3.1, by omega⟩
      · exact h2 j (by omega) (by omega)
theorem nbut_le (D : List Int) {j : Int} (h : 0 ≤ j ∧ j < D.length) : nbut D (-1) ≠ -1 ∧ rat D (nbut D (-1)) ≤ rat D j := (nbF_le D D.length 0 (-1) (by omega)).2 j h.1 (by omega)
section LW
variable {xs ys S : List Int} {C : List (List Int)}
theorem dsts_r (xs ys S : List Int) {C : List (List Int)} {c : Int} (h : 0 ≤ c ∧ c < C.length) : rat (dsts xs ys C S) c = dstOf S (stk xs ys S) (C.getD c.toNat []) := rat_map _ h
theorem dsts_l (xs ys S : List Int) (C : List (List Int)) : (dsts xs ys C S).length = C.length := List.length_map _
theorem rsts_r (xs ys S : List Int) {C : List (List Int)} {c : Int} (h : 0 ≤ c ∧ c < C.length) : rat (rsts xs ys C S) c = rstOf S (stk xs ys S) (C.getD c.toNat []) := rat_map _ h
theorem rsts_l (xs ys S : List Int) (C : List (List Int)) : (rsts xs ys C S).length = C.length := List.length_map _
/-- near: against tells it -/
theorem agn_near (hw : wfS S) (h : lsF S (stk xs ys S) C C.length 0 9999 ≤ 2 * rat S 4) : 0 ≤ agn xs ys C S := by
  obtain ⟨-, h0, h1, h2, h3, h4⟩ := hw
  rcases lsF_in S (stk xs ys S) C C.length 0 9999 with e | ⟨j, j0, j1, e⟩
  · omega
  · obtain ⟨n1, n2⟩ := nbut_le (dsts xs ys C S) (j := j) (by rw [dsts_l]; omega)
    have nb := nbut_b (dsts xs ys C S) (-1)
    rw [dsts_r xs ys S (by omega : 0 ≤ j ∧ j < C.length)] at n2
    unfold agn
    rw [if_neg (by omega)]
    omega
theorem agn_far (h : 2 * rat S 4 < lsF S (stk xs ys S) C C.length 0 9999) : agn xs ys C S = -1 ∧ tooN C S (stk xs ys S) = false ∧ ∀ a : Int, 0 ≤ a ∧ a < C.length → 2 * rat S 4 < dstOf S (stk xs ys S) (C.getD a.toNat []) := by
  have h1 : ∀ a : Int, 0 ≤ a ∧ a < C.length → 2 * rat S 4 < dstOf S (stk xs ys S) (C.getD a.toNat []) := fun a ha => by
    have := (lsF_le S (stk xs ys S) C C.length 0 9999).2 a ha.1 (by omega)
    omega
  refine ⟨?_, ?_, h1⟩
  · have nb := nbut_b (dsts xs ys C S) (-1)
    rw [dsts_l] at nb
    unfold agn
    by_cases e : nbut (dsts xs ys C S) (-1) = -1
    · rw [if_pos (Or.inl e)]
    · have := h1 (nbut (dsts xs ys C S) (-1)) (by omega)
      rw [← dsts_r xs ys S (by omega)] at this
      rw [if_pos (Or.inr this)]
  · cases ht : tooN C S (stk xs ys S) with
    | false => rfl
    | true =>
      obtain ⟨j, j0, j1, j2⟩ := (tnF_iff C S (stk xs ys S) C.length 0).mp ht
      have := h1 j (by omega)
      omega
/-- what is read: the law's -/
def rdF (S D : List Int) (C : List (List Int)) : Nat → Int → Int → Int
  | 0, _, r => r
  | n + 1, c, r => rdF S D C n (c + 1) (if 0 < D.length ∧ dstOf S D (C.getD c.toNat []) ≤ rat S 4 then c else r)
theorem rdF_no {S D : List Int} {C : List (List Int)} : ∀ (n : Nat) (c r : Int), (∀ j, c ≤ j → j < c + n → ¬ (0 < D.length ∧ dstOf S D (C.getD j.toNat []) ≤ rat S 4)) → rdF S D C n c r = r
  | 0, c, r, _ => rfl
  | n + 1, c, r, h => by
    show rdF S D C n (c + 1) (if 0 < D.length ∧ dstOf S D (C.getD c.toNat []) ≤ rat S 4 then c else r) = r
    rw [if_neg (h c (by omega) (by omega))]
    exact rdF_no n (c + 1) r (fun j h1 h2 => h j (by omega) (by omega))
theorem rdF_one {S D : List Int} {C : List (List Int)} {a : Int} (h0 : 0 < D.length) (ha : dstOf S D (C.getD a.toNat []) ≤ rat S 4) : ∀ (n : Nat) (c r : Int), c ≤ a → a < c + n → (∀ j, c ≤ j → j < c + n → dstOf S D (C.getD j.toNat []) ≤ rat S 4 → j = a) → rdF S D C n c r = a
  | 0, c, r, h1, h2, _ => by omega
  | n + 1, c, r, h1, h2, h => by
    show rdF S D C n (c + 1) (if 0 < D.length ∧ dstOf S D (C.getD c.toNat []) ≤ rat S 4 then c else r) = a
    by_cases e : c = a
    · subst e
      rw [if_pos ⟨h0, ha⟩]
      exact rdF_no n (c + 1) c (fun j h3 h4 h5 => by
        have := h j (by omega) (by omega) h5.2
        omega)
    · exact rdF_one h0 ha n (c + 1) _ (by omega) (by omega) (fun j h3 h4 => h j (by omega) (by omega))
theorem fgv_pos (s0 s1 : Int) : ∀ (n : Nat) (q : (List Int × List Int) × Int), (0 < q.1.1.length → 0 < (fgv s0 s1 n q).1.1.length) ∧ (q.1.1.length = 0 → (fgv s0 s1 n q).1.1.length = 0)
  | 0, q => ⟨fun h => h, fun h => h⟩
  | n + 1, q => by
    have e : fgv s0 s1 (n + 1) q = if q.1.1.length ≤ 1 then q else if fdrop q.1.1 q.1.2 s0 s1 = -1 then q else fgv s0 s1 n (dropA q.1.1 q.1.2 (fdrop q.1.1 q.1.2 s0 s1), q.2 + 1) := rfl
    rw [e]
    by_cases c1 : q.1.1.length ≤ 1
    · rw [if_pos c1]
      exact ⟨fun h => h, fun h => h⟩
    · rw [if_neg c1]
      by_cases c2 : fdrop q.1.1 q.1.2 s0 s1 = -1
      · rw [if_pos c2]
        exact ⟨fun h => h, fun h => h⟩
      · rw [if_neg c2]
        have hb := fdrop_b q.1.1 q.1.2 s0 s1
        obtain ⟨i1, i2⟩ := fgv_pos s0 s1 n (dropA q.1.1 q.1.2 (fdrop q.1.1 q.1.2 s0 s1), q.2 + 1)
        refine ⟨fun _ => i1 ?_, fun h => by omega⟩
        show 0 < (dropA q.1.1 q.1.2 (fdrop q.1.1 q.1.2 s0 s1)).1.length
        have l1 : (q.1.1.eraseIdx (fdrop q.1.1 q.1.2 s0 s1).toNat).length = q.1.1.length - 1 := by rw [List.length_eraseIdx, if_pos (by omega)]
        unfold dropA
        split
        · show 0 < ((q.1.1.eraseIdx (fdrop q.1.1 q.1.2 s0 s1).toNat).eraseIdx (fdrop q.1.1 q.1.2 s0 s1).toNat).length
          rename_i hh
          rw [List.length_eraseIdx, if_pos (by omega)]
          omega
        · show 0 < (q.1.1.eraseIdx (fdrop q.1.1 q.1.2 s0 s1).toNat).length
          omega
theorem stk_pos (xs ys S : List Int) : 0 < (rnD xs ys).length ↔ 0 < (stk xs ys S).length := by
  obtain ⟨h1, h2⟩ := fgv_pos (rat S 0) (rat S 1) 40 ((rnD xs ys, rnL xs ys), 0)
  unfold stk fgvOf
  constructor
  · exact h1
  · intro h
    rcases Nat.eq_zero_or_pos (rnD xs ys).length with e | e
    · have := h2 e
      omega
    · exact e
theorem read_law (hw : wfS S) (hp : PW S C) : readOf (rnD xs ys).length (dsts xs ys C S) (rat S 4) = rdF S (stk xs ys S) C C.length 0 (-1) := by
  have nb := nbut_b (dsts xs ys C S) (-1)
  rw [dsts_l] at nb
  unfold readOf
  by_cases h0 : 0 < (rnD xs ys).length
  · have h1 := (stk_pos xs ys S).mp h0
    by_cases hx : ∃ a : Int, (0 ≤ a ∧ a < C.length) ∧ dstOf S (stk xs ys S) (C.getD a.toNat []) ≤ rat S 4
    · obtain ⟨a, ha, hd⟩ := hx
      have hn := nbut_le (dsts xs ys C S) (j := a) (by rw [dsts_l]; exact ha)
      rw [dsts_r xs ys S ha] at hn
      have hn2 : dstOf S (stk xs ys S) (C.getD (nbut (dsts xs ys C S) (-1)).toNat []) ≤ rat S 4 := by
        rw [← dsts_r xs ys S (by omega)]
        omega
      have e := hp.one hw (a := nbut (dsts xs ys C S) (-1)) (b := a) (by omega) ha hn2 hd
      rw [if_pos ⟨by omega, by omega⟩, e]
      exact (rdF_one h1 hd C.length 0 (-1) (by omega) (by omega) (fun j j0 j1 j2 => hp.one hw (by omega) ha j2 hd)).symm
    · rw [rdF_no C.length 0 (-1) (fun j j0 j1 j2 => hx ⟨j, ⟨j0, by omega⟩, j2.2⟩)]
      by_cases e : nbut (dsts xs ys C S) (-1) = -1
      · rw [e]
        split <;> rfl
      · rw [if_neg]
        rintro ⟨-, q⟩
        rw [dsts_r xs ys S (by omega)] at q
        exact hx ⟨_, by omega, q⟩
  · rw [if_neg (by omega), rdF_no C.length 0 (-1) (fun j j0 j1 j2 => h0 ((stk_pos xs ys S).mpr j2.1))]
/-- what it can still become: the law's -/
def hitB (S D L : List Int) : Bool := decide (∃ j : Nat, j ≤ L.length ∧ costF (rat S 3) (rat S 2) D (KL L) j ≤ rat S 4)
theorem lrF_hit (c : Nat → Int) (n f : Int) : ∀ (k : Nat) (r : Int), 0 ≤ r → (lrF c n f k r ≠ -1 ↔ ∃ j : Int, r ≤ j ∧ j < r + k ∧ c (n - j).toNat ≤ f)
  | 0, r, _ => ⟨fun h => absurd rfl h, fun ⟨j, a, b, _⟩ => by omega⟩
  | k + 1, r, h0 => by
    have i := lrF_hit c n f k (r + 1) (by omega)
    show (if c (n - r).toNat ≤ f then r else lrF c n f k (r + 1)) ≠ -1 ↔ _
    by_cases q : c (n - r).toNat ≤ f
    · rw [if_pos q]
      exact ⟨fun _ => ⟨r, by omega, by omega, q⟩, fun _ => by omega⟩
    · rw [if_neg q, i]
      exact ⟨fun ⟨j, a, b, d⟩ => ⟨j, by omega, by omega, d⟩, fun ⟨j, a, b, d⟩ => ⟨j, by by_cases e : j = r; { rw [e] at d; exact absurd d q }; { omega }, by omega, d⟩⟩
theorem rst_hit (S D L : List Int) : rstOf S D L ≠ -1 ↔ ∃ j : Nat, j ≤ L.length ∧ costF (rat S 3) (rat S 2) D (KL L) j ≤ rat S 4 := by
  unfold rstOf
  rw [lrF_hit _ _ _ _ _ (by omega)]
  constructor
  · rintro ⟨j, a, b, h⟩
    exact ⟨((L.length : Int) - j).toNat, by omega, h⟩
  · rintro ⟨j, a, h⟩
    exact ⟨(L.length : Int) - j, by omega, by omega, by rw [show ((L.length : Int) - ((L.length : Int) - (j : Int))).toNat = j by omega]; exact h⟩
/-- a bit that may stand already -/
def orB (m : Int) (c : Nat) (h : Prop) [Decidable h] : Int := if h then m + 2 ^ c else m
end LW
theorem ior_bit1 : ∀ c : Fin 10, ∀ m : Fin 512, m.val < 2 ^ c.val → Int32.ofInt ((m.val + 2 ^ c.val : Nat) : Int) ||| Int32.ofInt ((2 ^ c.val : Nat) : Int) = Int32.ofInt ((m.val + 2 ^ c.val : Nat) : Int) := by decide +kernel
theorem ior_bit2 {c m : Int} (hc : 0 ≤ c ∧ c < 10) (hm : 0 ≤ m ∧ m < 2 ^ c.toNat) : Int32.ofInt (m + 2 ^ c.toNat) ||| Int32.ofInt (2 ^ c.toNat) = Int32.ofInt (m + 2 ^ c.toNat) := by
  have hb := pow_b c.toNat (by omega)
  have h2 : m.toNat < 2 ^ c.toNat := by have := pow_c c.toNat; omega
  have h := ior_bit1 ⟨c.toNat, by omega⟩ ⟨m.toNat, by omega⟩ h2
  simp only [] at h
  rw [Int.natCast_add, pow_c, show ((m.toNat : Nat) : Int) = m by omega] at h
  exact h
