/-! ===== what each call asks: pure ===== -/
abbrev AS : Type := St × List St × List Int
abbrev QS : Type := (Int × Int) × AS
abbrev mk (xs ys : List Int) (C : List (List Int)) (S : List Int) (Z : List St) (B : List Int) : AS := (((xs, ys), C, S), Z, B)
def kp (Z : List St) (σ : St) : List St := (if Z.length = 6 then Z.drop 1 else Z) ++ [σ]
abbrev mk2 (xs' ys' : List Int) (C' : List (List Int)) (S' : List Int) (xs ys : List Int) (C : List (List Int)) (S : List Int) (Z : List St) (B : List Int) : AS := (((xs', ys'), C', S'), kp Z ((xs, ys), C, S), B)
section OPS
variable (xs ys : List Int) (C : List (List Int)) (S : List Int) (Z : List St) (B : List Int)
def opPoint (x y : Int) : QS :=
  if ¬ onLat x y = true then ((1, 0), mk xs ys C S Z B) else if 40 ≤ xs.length then ((2, 0), mk xs ys C S Z B)
  else ((0, (xs.length : Int) + 1), mk2 (xs ++ [x]) (ys ++ [y]) C S xs ys C S Z B)
def lastOf (L : List Int) : Int := if L.length = 0 then 0 else rat L ((L.length : Int) - 1)
def goN (d many : Int) : Int := min many (min (stepsW (lastOf xs) (tbo 3 d)) (stepsW (lastOf ys) (tbo 4 d)))
def goL (x dx : Int) (n : Nat) : List Int := (List.range n).map (fun k : Nat => x + ((k : Int) + 1) * dx)
def goB (L : List Int) : List Int := if L.length = 0 then [0] else L
def opGo (d many : Int) : QS :=
  if ¬ ((0 ≤ d ∧ d < 8) ∧ 1 ≤ many ∧ many ≤ 31) then ((1, 0), mk xs ys C S Z B)
  else if 40 < ((goB xs).length : Int) + goN xs ys d many then ((2, 0), mk xs ys C S Z B)
  else ((0, goN xs ys d many), mk2 (goB xs ++ goL (lastOf xs) (tbo 3 d) (goN xs ys d many).toNat) (goB ys ++ goL (lastOf ys) (tbo 4 d) (goN xs ys d many).toNat) C S xs ys C S Z B)
def opBack (many : Int) : QS :=
  if ¬ (1 ≤ many ∧ many ≤ xs.length) then ((1, 0), mk xs ys C S Z B)
  else ((0, (xs.length : Int) - many), mk2 (xs.take ((xs.length : Int) - many).toNat) (ys.take ((xs.length : Int) - many).toNat) C S xs ys C S Z B)
def opBegin : QS := ((0, (xs.length : Int)), mk2 [] [] C S xs ys C S Z B)
def tX (e i x : Int) : Int := if sDir xs ys i = -1 then x else x + tbo 3 ((sDir xs ys i + e) % 8) * sLen xs ys i
def tY (e i y : Int) : Int := if sDir xs ys i = -1 then y else y + tbo 4 ((sDir xs ys i + e) % 8) * sLen xs ys i
def tnL (e : Int) : Nat → Int → Int → Int → List Int → List Int → Option (List Int × List Int)
  | 0, _, _, _, tx, ty => some (tx, ty)
  | n + 1, i, x, y, tx, ty => if isEven xs ys i = true ∧ onLat (tX xs ys e i x) (tY xs ys e i y) = true then tnL e n (i + 1) (tX xs ys e i x) (tY xs ys e i y) (tx ++ [tX xs ys e i x]) (ty ++ [tY xs ys e i y]) else none
def turnOf (e : Int) : Option (List Int × List Int) := tnL xs ys e xs.length 0 (rat xs 0) (rat ys 0) [] []
def opTurn (e : Int) : QS :=
  if ¬ (1 ≤ e ∧ e < 8) then ((1, 0), mk xs ys C S Z B) else if (turnOf xs ys e).isNone = true then ((2, 0), mk xs ys C S Z B)
  else ((0, (xs.length : Int)), mk2 ((turnOf xs ys e).getD ([], [])).1 ((turnOf xs ys e).getD ([], [])).2 C S xs ys C S Z B)
def tnF (D : List Int) : Nat → Int → Bool
  | 0, _ => false
  | n + 1, i => if dstOf S D (C.getD i.toNat []) ≤ 2 * rat S 4 then true else tnF D n (i + 1)
def tooN (D : List Int) : Bool := tnF C S D C.length 0
def opLearn : QS :=
  if ¬ (C.length < 10 ∧ 1 ≤ (stk xs ys S).length ∧ (stk xs ys S).length ≤ 8 ∧ tooN C S (stk xs ys S) = false) then ((1, 0), mk xs ys C S Z B)
  else ((0, (C.length : Int)), mk2 xs ys (C ++ [stk xs ys S]) S xs ys C S Z B)
def feF : Nat → Int → Int
  | 0, i => i
  | n + 1, i => if 8 ≤ i ∨ ¬ (48 ≤ rat B i ∧ rat B i ≤ 55) ∨ (0 < i ∧ rat B (i - 1) = rat B i) then i else feF n (i + 1)
def fErr : Int := feF B B.length 0
def dig : List Int := B.map (fun c => c - 48)
def opRead : QS :=
  if ¬ (0 < B.length ∧ fErr B = B.length) then ((1, 0), mk xs ys C S Z B)
  else if ¬ (C.length < 10 ∧ tooN C S (dig B) = false) then ((2, 0), mk xs ys C S Z B)
  else ((0, (C.length : Int)), mk2 xs ys (C ++ [dig B]) S xs ys C S Z [])
def opForget (c : Int) : QS :=
  if ¬ (0 ≤ c ∧ c < C.length) then ((1, 0), mk xs ys C S Z B)
  else ((0, (C.length : Int) - 1), mk2 xs ys (C.eraseIdx c.toNat) S xs ys C S Z B)
def laI (c : Int) : Nat → Int → Int → Int
  | 0, _, b => b
  | n + 1, o, b => laI c n (o + 1) (if b = -1 ∨ dstOf S (C.getD o.toNat []) (C.getD c.toNat []) < b then dstOf S (C.getD o.toNat []) (C.getD c.toNat []) else b)
def laO : Nat → Int → Int → Int
  | 0, _, b => b
  | n + 1, c, b => laO n (c + 1) (laI C S c c.toNat 0 b)
def leastA : Int := laO C S C.length 0 (-1)
def opSet (s v : Int) : QS :=
  if ¬ (0 ≤ s ∧ s < 5) then ((1, 0), mk xs ys C S Z B) else if ¬ (tbo 1 s ≤ v ∧ v ≤ tbo 2 s) then ((2, 0), mk xs ys C S Z B)
  else if ¬ (leastA C (S.set s.toNat v) = -1 ∨ 2 * rat (S.set s.toNat v) 4 < leastA C (S.set s.toNat v)) then ((3, 0), mk xs ys C S Z B)
  else ((0, rat S s), mk2 xs ys C (S.set s.toNat v) xs ys C S Z B)
def opAppend (c : Int) : QS :=
  if ¬ (33 ≤ c ∧ c ≤ 126) then ((1, 0), mk xs ys C S Z B) else if 60 ≤ B.length then ((2, 0), mk xs ys C S Z B)
  else ((0, (B.length : Int) + 1), mk xs ys C S Z (B ++ [c]))
def opClear : QS := ((0, (B.length : Int)), mk xs ys C S Z [])
def opUndo : QS :=
  if Z.length = 0 then ((1, 0), mk xs ys C S Z B) else ((0, (Z.length : Int) - 1), (Z.getD (Z.length - 1) (([], []), [], []), Z.dropLast, B))
-- looks
def lkPointOf (p w : Int) : Int × Int :=
  if ¬ (0 ≤ p ∧ p < xs.length) then (1, 0) else if ¬ (0 ≤ w ∧ w ≤ 3) then (2, 0)
  else (0, if w = 0 then rat xs p else if w = 1 then rat ys p else if w = 2 then sDir xs ys p else sLen xs ys p)
def lkRun (r w : Int) : Int × Int :=
  if ¬ (0 ≤ r ∧ 0 ≤ w ∧ w ≤ 3) then (1, 0) else if ((rnD xs ys).length : Int) ≤ r then (0, -1)
  else (0, if w = 0 then rat (rnD xs ys) r else if w = 1 then rat (rnL xs ys) r else if w = 2 then bI (decide (rat (rnL xs ys) r < rat S 0)) else bI (isCut (rnD xs ys) (rnL xs ys) r (rat S 1)))
def lkStroke (p : Int) : Int × Int := if p < 0 then (1, 0) else (0, rat (stk xs ys S) p)
def lkStrokeOf (c p : Int) : Int × Int := if ¬ (0 ≤ c ∧ c < C.length) then (1, 0) else if p < 0 then (2, 0) else (0, rat (C.getD c.toNat []) p)
def lkDistance (c o : Int) : Int × Int :=
  if ¬ ((0 ≤ c ∧ c < C.length) ∧ (o = -1 ∨ (0 ≤ o ∧ o < C.length))) then (1, 0)
  else (0, if o = -1 then dstOf S (stk xs ys S) (C.getD c.toNat []) else dstOf S (C.getD o.toNat []) (C.getD c.toNat []))
def dsts : List Int := C.map (dstOf S (stk xs ys S))
def rsts : List Int := C.map (rstOf S (stk xs ys S))
def lkReading (w : Int) : Int × Int :=
  if ¬ (0 ≤ w ∧ w ≤ 4) then (1, 0)
  else (0, if w = 0 then readOf (rnD xs ys).length (dsts xs ys C S) (rat S 4) else if w = 1 then nbut (dsts xs ys C S) (-1) else if w = 2 then rat (dsts xs ys C S) (nbut (dsts xs ys C S) (-1)) else if w = 3 then maskOf (rsts xs ys C S) else comeOf (rsts xs ys C S))
def lkCount (w : Int) : Int × Int :=
  if ¬ (0 ≤ w ∧ w ≤ 8) then (1, 0)
  else (0, if w = 0 then (xs.length : Int) else if w = 1 then ((rnD xs ys).length : Int) else if w = 2 then ((stk xs ys S).length : Int) else if w = 3 then (rnL xs ys).sum else if w = 4 then (fgvOf xs ys S).2 else if w = 5 then (C.length : Int) else if w = 6 then (C.map (fun L => (L.length : Int))).sum else if w = 7 then leastA C S else (Z.length : Int))
def lkSetting (s : Int) : Int × Int := if ¬ (0 ≤ s ∧ s < 5) then (1, 0) else (0, rat S s)
def ifP (x y : Int) : Int := readOf (rnD (xs ++ [x]) (ys ++ [y])).length (dsts (xs ++ [x]) (ys ++ [y]) C S) (rat S 4)
def lkIfPoint (x y : Int) : Int × Int := if ¬ onLat x y = true then (1, 0) else (0, ifP xs ys C S x y)
def agn : Int := if nbut (dsts xs ys C S) (-1) = -1 ∨ 2 * rat S 4 < rat (dsts xs ys C S) (nbut (dsts xs ys C S) (-1)) then -1 else nbut (dsts xs ys C S) (-1)
def mfF (b : Int) : Nat → Int → Int
  | 0, _ => -1
  | n + 1, v => if b = -1 ∨ 2 * v < b then v else mfF b n (v - 1)
def mostF : Int := mfF (leastA C S) 21 20
/-- all numbers of a state stand in their ranges, and no two commands are the same -/
def okS (σ : St) : Prop := (σ.1.2.length = σ.1.1.length ∧ σ.1.1.length ≤ 40 ∧ bnd σ.1.1 0 31 ∧ bnd σ.1.2 0 31) ∧ (σ.2.1.length ≤ 10 ∧ (∀ L ∈ σ.2.1, L.length ≤ 8 ∧ bnd L 0 7) ∧ σ.2.1.Nodup) ∧ wfS σ.2.2
def okA (A : AS) : Prop := okS A.1 ∧ (A.2.1.length ≤ 6 ∧ ∀ τ ∈ A.2.1, okS τ) ∧ A.2.2.length ≤ 60 ∧ bnd A.2.2 33 126
end OPS
theorem kp_ok {Z : List St} {σ : St} (h6 : Z.length ≤ 6) (hz : ∀ τ ∈ Z, okS τ) (hs : okS σ) : (kp Z σ).length ≤ 6 ∧ ∀ τ ∈ kp Z σ, okS τ := by
  unfold kp
  refine ⟨?_, fun τ ht => ?_⟩
  · rw [List.length_append]
    split
    · rw [List.length_drop]; simp; omega
    · simp; omega
  · rcases List.mem_append.mp ht with ht | ht
    · split at ht
      · exact hz τ (List.mem_of_mem_drop ht)
      · exact hz τ ht
    · rw [List.mem_singleton.mp ht]; exact hs
