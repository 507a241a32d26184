/-! ===== the law's distances: from a stroke, the least, the least of two commands ===== -/
def hasCo (μ : Mem) (C : List (List Int)) : Prop := ∀ c : Int, 0 ≤ c ∧ c < C.length → μ 276 (9 * c).toNat = ((C.getD c.toNat []).length : Int) ∧ ∀ j : Int, 0 ≤ j ∧ j < (C.getD c.toNat []).length → μ 276 (9 * c + 1 + j).toNat = rat (C.getD c.toNat []) j
def okC (C : List (List Int)) : Prop := C.length ≤ 7 ∧ ∀ L ∈ C, (1 ≤ L.length ∧ L.length ≤ 8) ∧ bnd L 0 7
def sumR (μ : Mem) (r : Nat) (c : Nat → Int) (n : Int) : Prop := ∀ j : Int, 0 ≤ j ∧ j ≤ n → μ r j.toNat = c j.toNat
theorem okC.at {C : List (List Int)} (h : okC C) {c : Int} (hc : 0 ≤ c ∧ c < C.length) : (1 ≤ (C.getD c.toNat []).length ∧ (C.getD c.toNat []).length ≤ 8) ∧ bnd (C.getD c.toNat []) 0 7 := h.2 _ (getD_mem C (by omega))
theorem okC.b8 {C : List (List Int)} (h : okC C) : ∀ L ∈ C, L.length ≤ 8 ∧ bnd L 0 7 := fun L hL => ⟨(h.2 L hL).1.2, (h.2 L hL).2⟩
theorem fup_ff {f : Nat → Int} {k : Nat} {x y : Int} : fup (fup f k x) k y = fup f k y := by
  funext j
  unfold fup
  by_cases h : j = k <;> simp [h]
section PLD
variable {G : GT} {l : Launch} {N : Nat} {sh : Nat → ShT} {μ μ' : Mem} {xs ys S D Ln : List Int} {C : List (List Int)} {d : Nat}
variable {v : Int}
theorem isL.los {N' : Nat} {sh' : Nat → ShT} (h : isL N sh) (f : los N sh sh') (hN : N ≤ N') : isL N' sh' :=
  ⟨fun i hi => by have := h.1 i hi; omega, (f 273 (h.1 273 (by decide))).trans h.2.1, (f 274 (h.1 274 (by decide))).trans h.2.2.1, (f 275 (h.1 275 (by decide))).trans h.2.2.2.1, (f 276 (h.1 276 (by decide))).trans h.2.2.2.2⟩
theorem hasCo.lo {n : Nat} (h : hasCo μ C) (f : lo n μ μ') (hn : 276 < n) : hasCo μ' C := by
  have e := f.at hn
  unfold hasCo
  rw [e]
  exact h
theorem hasCo.frm {a b : Nat} (h : hasCo μ C) (f : frm μ μ' a b) (hn : 276 < a) : hasCo μ' C := h.lo (f.lo (Nat.le_refl a)) hn
theorem sumR.set {r : Nat} {c : Nat → Int} {n k : Int} (h : sumR μ r c n) (hk : 0 ≤ k) : sumR (mup μ r k.toNat v) r (fup c k.toNat v) n := fun j hj => by
  by_cases e : j = k
  · rw [e, mup_s, fup_s]
  · rw [mup_k (by omega), fup_n (by omega)]
    exact h j hj
variable {r a cap k m : Nat} {z : Option Nat} {Φ : RT → Prop} {c b : Int}
theorem lp_L_ld3 (hst : l.stackTraces = false) (hl : isL N sh) (hs : hasNS μ S) (hw : wfS S) (hC : hasCo μ C) (okc : okC C) (hr : r < N ∧ sh r = sI 9) (hr9 : 276 < r ∧ a < r) (ha : a < N ∧ sh a = sI cap ∧ cap ≤ 40) (hD : arr μ a D) (hDl : D.length ≤ cap) (hDb : bnd D 0 7) (hc : 0 ≤ c ∧ c < C.length) (hb : 0 ≤ b ∧ b ≤ (C.getD c.toNat []).length) {i : Int} (hi : 0 ≤ i ∧ i < D.length) {B : Int} {w : Nat → Int} (hcb : ∀ j, 0 ≤ w j ∧ w j ≤ 9 * (j : Int) + B) (hB : B ≤ 1000) (kk : ∀ μ3 : Mem, sumR μ3 r (nc (rat S 3) (rat S 2) (rat D i) (KL (C.getD c.toNat [])) w) b → frm μ μ3 r (r + 1) → VW G l z M_L_distance 37 [(0, .ref (gB G + 273)), (1, .ref (gB G + a)), (2, vI (D.length : Int)), (3, .ref (gB G + 276)), (4, vI c), (5, vI b), (6, .ref (gB G + r)), (7, vI (i + 1))] [] (N, sh, μ3) k m Φ) : ∀ (n : Nat) (j : Int), (1 ≤ j ∧ j ≤ b + 1) → j + n = b + 1 → ∀ μ2 : Mem, sumR μ2 r (mixC (rat S 3) (rat S 2) (rat D i) (KL (C.getD c.toNat [])) w j) b → frm μ μ2 r (r + 1) → VW G l z M_L_distance 63 [(0, .ref (gB G + 273)), (1, .ref (gB G + a)), (2, vI (D.length : Int)), (3, .ref (gB G + 276)), (4, vI c), (5, vI b), (6, .ref (gB G + r)), (7, vI i), (8, vI (w (j - 1).toNat)), (9, vI j)] [] (N, sh, μ2) k m Φ := by
  obtain ⟨hw5, hw0, hw1, hw2, hw3, hw4⟩ := id hw
  have l8 := okc.at hc
  have zc := hC c hc
  have h7 := okc.1
  intro n
  induction n with
  | zero =>
    intro j h1 h2 μ2 hsr hf
    refine VW.iload dL_distance_63 rfl ?_
    refine VW.iload dL_distance_65 rfl ?_
    refine VW.icmp_gt 171 ⟨by omega, by omega⟩ ⟨by omega, by omega⟩ dL_distance_67 (by decide) (fun c67 => ?_) (fun c67 => by omega)
    obtain rfl : j = b + 1 := by omega
    refine VW.iinc (lv' := [(0, _), (1, _), (2, _), (3, _), (4, _), (5, _), (6, _), (7, _), (8, _), (9, _)]) dL_distance_171 rfl (by decide) rfl ?_
    refine VW.goto 37 dL_distance_174 (by decide) ?_
    refine VW.sub ?_ [0, 1, 2, 3, 4, 5, 6, 7] rfl
    refine kk _ (fun q hq => ?_) hf
    rw [hsr q hq]
    unfold mixC
    rw [if_pos (by omega)]
  | succ n ih =>
    intro j h1 h2 μ2 hsr hf
    refine VW.iload dL_distance_63 rfl ?_
    refine VW.iload dL_distance_65 rfl ?_
    refine VW.icmp_gt 171 ⟨by omega, by omega⟩ ⟨by omega, by omega⟩ dL_distance_67 (by decide) (fun c67 => by omega) (fun c67 => ?_)
    have z5 : μ2 273 (5 : Int).toNat = rat S 2 := (congrFun (hf 273 (by omega)) 5).trans hs.2.2.1
    have z6 : μ2 273 (6 : Int).toNat = rat S 3 := (congrFun (hf 273 (by omega)) 6).trans hs.2.2.2.1
    have hkd : μ2 a i.toNat = rat D i := (congrFun (hf a (by omega)) _).trans (hD i hi)
    have hco : μ2 276 (9 * c + j).toNat = rat (C.getD c.toNat []) (j - 1) := by
      rw [hf 276 (by omega), show 9 * c + j = 9 * c + 1 + (j - 1) by omega]
      exact zc.2 (j - 1) ⟨by omega, by omega⟩
    have bd := rat_b hDb hi.1 hi.2
    have bk := rat_b l8.2 (i := j - 1) (by omega) (by omega)
    have m4 := mul_b (a := rat S 2) (b := eig (rat D i) (rat (C.getD c.toNat []) (j - 1))) ⟨by omega, by omega⟩ (eig_b _ _)
    have s1 : μ2 r j.toNat = w j.toNat := by rw [hsr j (by omega)]; unfold mixC; rw [if_neg (by omega)]
    have s2 : μ2 r (j - 1).toNat = nc (rat S 3) (rat S 2) (rat D i) (KL (C.getD c.toNat [])) w (j - 1).toNat := by rw [hsr (j - 1) (by omega)]; unfold mixC; rw [if_pos (by omega)]
    have b1 := hcb j.toNat
    have b2 := hcb (j - 1).toNat
    have b3 := nc_b (d := rat D i) (K := KL (C.getD c.toNat [])) (gap := rat S 3) (turn := rat S 2) ⟨by omega, by omega⟩ ⟨by omega, by omega⟩ hcb (j - 1).toNat
    have hns := nc_succ (rat S 3) (rat S 2) (rat D i) (KL (C.getD c.toNat [])) w h1.1
    rw [← KL_rat (L := (C.getD c.toNat [])) (j := j - 1) (by omega)] at hns
    refine VW.iload dL_distance_70 rfl ?_
    refine VW.aload_n dL_distance_72 rfl ?_
    refine VW.iconst dL_distance_73 ?_
    refine VW.iaload dL_distance_74 (hl.1 273 (by decide)) hl.2.1 (by omega) (by omega) (by decide) ?_
    rw [z5]
    refine VW.aload_n dL_distance_75 rfl ?_
    refine VW.iload dL_distance_76 rfl ?_
    refine VW.iaload dL_distance_78 ha.1 ha.2.1 (by omega) (by omega) (by have := ha.2.2; omega) ?_
    rw [hkd]
    refine VW.aload_n dL_distance_79 rfl ?_
    refine VW.bipush dL_distance_80 rfl ?_
    refine VW.iload dL_distance_82 rfl ?_
    refine VW.imul dL_distance_84 ?_
    refine VW.iload dL_distance_85 rfl ?_
    refine VW.iadd dL_distance_87 ?_
    refine VW.iaload dL_distance_88 (hl.1 276 (by decide)) hl.2.2.2.2 (by omega) (by omega) (by decide) ?_
    rw [hco]
    refine VW.pS2 cs_L_distance_L_apart dL_distance_89 (Nat.le_of_ble_eq_true rfl) (l_apart hst (by omega) (by omega)) ?_
    refine VW.imul dL_distance_92 ?_
    refine VW.iadd dL_distance_93 ?_
    refine VW.istore (lv' := [(0, _), (1, _), (2, _), (3, _), (4, _), (5, _), (6, _), (7, _), (8, _), (9, _), (10, _)]) dL_distance_94 (by decide) rfl ?_
    refine VW.aload dL_distance_96 rfl ?_
    refine VW.iload dL_distance_98 rfl ?_
    refine VW.iaload dL_distance_100 hr.1 hr.2 (by omega) (by omega) (by decide) ?_
    rw [s1]
    refine VW.istore (lv' := [(0, _), (1, _), (2, _), (3, _), (4, _), (5, _), (6, _), (7, _), (8, _), (9, _), (10, _)]) dL_distance_101 (by decide) rfl ?_
    refine VW.aload dL_distance_103 rfl ?_
    refine VW.iload dL_distance_105 rfl ?_
    refine VW.aload dL_distance_107 rfl ?_
    refine VW.iload dL_distance_109 rfl ?_
    refine VW.iaload dL_distance_111 hr.1 hr.2 (by omega) (by omega) (by decide) ?_
    rw [s1]
    refine VW.aload dL_distance_112 rfl ?_
    refine VW.iload dL_distance_114 rfl ?_
    refine VW.iconst dL_distance_116 ?_
    refine VW.isub dL_distance_117 ?_
    refine VW.iaload dL_distance_118 hr.1 hr.2 (by omega) (by omega) (by decide) ?_
    rw [s2]
    refine VW.icmp_ge 135 ⟨by omega, by omega⟩ ⟨by omega, by omega⟩ dL_distance_119 (by decide) (fun c119 => ?_) (fun c119 => ?_)
    · refine VW.aload dL_distance_135 rfl ?_
      refine VW.iload dL_distance_137 rfl ?_
      refine VW.iconst dL_distance_139 ?_
      refine VW.isub dL_distance_140 ?_
      refine VW.iaload dL_distance_141 hr.1 hr.2 (by omega) (by omega) (by decide) ?_
      rw [s2]
      refine VW.aload_n dL_distance_142 rfl ?_
      refine VW.bipush dL_distance_143 rfl ?_
      refine VW.iaload dL_distance_145 (hl.1 273 (by decide)) hl.2.1 (by omega) (by omega) (by decide) ?_
      rw [z6]
      refine VW.iadd dL_distance_146 ?_
      refine VW.iastore dL_distance_147 hr.1 hr.2 (by omega) (by omega) (by decide) ?_
      refine VW.iload dL_distance_148 rfl ?_
      refine VW.aload dL_distance_150 rfl ?_
      refine VW.iload dL_distance_152 rfl ?_
      refine VW.iaload dL_distance_154 hr.1 hr.2 (by omega) (by omega) (by decide) ?_
      rw [mup_s]
      refine VW.icmp_ge 165 ⟨by omega, by omega⟩ ⟨by omega, by omega⟩ dL_distance_155 (by decide) (fun c155 => ?_) (fun c155 => ?_)
      · refine VW.iinc (lv' := [(0, _), (1, _), (2, _), (3, _), (4, _), (5, _), (6, _), (7, _), (8, _), (9, _), (10, _)]) dL_distance_165 rfl (by decide) rfl ?_
        refine VW.goto 63 dL_distance_168 (by decide) ?_
        have e9 : nc (rat S 3) (rat S 2) (rat D i) (KL (C.getD c.toNat [])) w (j - 1).toNat + rat S 3 = nc (rat S 3) (rat S 2) (rat D i) (KL (C.getD c.toNat [])) w j.toNat := by rw [hns]; omega
        have hs2 := hsr.set (k := j) (v := nc (rat S 3) (rat S 2) (rat D i) (KL (C.getD c.toNat [])) w (j - 1).toNat + rat S 3) (by omega)
        have hs3 := hs2
        rw [e9, mixC_step (by omega)] at hs3
        rw [e9]
        have key := ih (j + 1) (by omega) (by omega) _ hs3 (hf.tr (frm_mup ⟨by omega, by omega⟩))
        rw [show w (j + 1 - 1).toNat = w j.toNat by congr 1; omega] at key
        refine VW.sub ?_ [0, 1, 2, 3, 4, 5, 6, 7, 8, 9] rfl
        exact key
      · refine VW.aload dL_distance_158 rfl ?_
        refine VW.iload dL_distance_160 rfl ?_
        refine VW.iload dL_distance_162 rfl ?_
        refine VW.iastore dL_distance_164 hr.1 hr.2 (by omega) (by omega) (by decide) ?_
        refine VW.iinc (lv' := [(0, _), (1, _), (2, _), (3, _), (4, _), (5, _), (6, _), (7, _), (8, _), (9, _), (10, _)]) dL_distance_165 rfl (by decide) rfl ?_
        refine VW.goto 63 dL_distance_168 (by decide) ?_
        have e9 : w (j - 1).toNat + rat S 2 * eig (rat D i) (rat (C.getD c.toNat []) (j - 1)) = nc (rat S 3) (rat S 2) (rat D i) (KL (C.getD c.toNat [])) w j.toNat := by rw [hns]; omega
        have hs2 := hsr.set (k := j) (v := nc (rat S 3) (rat S 2) (rat D i) (KL (C.getD c.toNat [])) w (j - 1).toNat + rat S 3) (by omega)
        have hs3 := hs2.set (k := j) (v := w (j - 1).toNat + rat S 2 * eig (rat D i) (rat (C.getD c.toNat []) (j - 1))) (by omega)
        rw [fup_ff] at hs3
        rw [e9, mixC_step (by omega)] at hs3
        rw [e9]
        have key := ih (j + 1) (by omega) (by omega) _ hs3 (hf.tr ((frm_mup ⟨by omega, by omega⟩).tr (frm_mup ⟨by omega, by omega⟩)))
        rw [show w (j + 1 - 1).toNat = w j.toNat by congr 1; omega] at key
        refine VW.sub ?_ [0, 1, 2, 3, 4, 5, 6, 7, 8, 9] rfl
        exact key
    · refine VW.aload dL_distance_122 rfl ?_
      refine VW.iload dL_distance_124 rfl ?_
      refine VW.iaload dL_distance_126 hr.1 hr.2 (by omega) (by omega) (by decide) ?_
      rw [s1]
      refine VW.aload_n dL_distance_127 rfl ?_
      refine VW.bipush dL_distance_128 rfl ?_
      refine VW.iaload dL_distance_130 (hl.1 273 (by decide)) hl.2.1 (by omega) (by omega) (by decide) ?_
      rw [z6]
      refine VW.iadd dL_distance_131 ?_
      refine VW.goto 147 dL_distance_132 (by decide) ?_
      refine VW.iastore dL_distance_147 hr.1 hr.2 (by omega) (by omega) (by decide) ?_
      refine VW.iload dL_distance_148 rfl ?_
      refine VW.aload dL_distance_150 rfl ?_
      refine VW.iload dL_distance_152 rfl ?_
      refine VW.iaload dL_distance_154 hr.1 hr.2 (by omega) (by omega) (by decide) ?_
      rw [mup_s]
      refine VW.icmp_ge 165 ⟨by omega, by omega⟩ ⟨by omega, by omega⟩ dL_distance_155 (by decide) (fun c155 => ?_) (fun c155 => ?_)
      · refine VW.iinc (lv' := [(0, _), (1, _), (2, _), (3, _), (4, _), (5, _), (6, _), (7, _), (8, _), (9, _), (10, _)]) dL_distance_165 rfl (by decide) rfl ?_
        refine VW.goto 63 dL_distance_168 (by decide) ?_
        have e9 : w j.toNat + rat S 3 = nc (rat S 3) (rat S 2) (rat D i) (KL (C.getD c.toNat [])) w j.toNat := by rw [hns]; omega
        have hs2 := hsr.set (k := j) (v := w j.toNat + rat S 3) (by omega)
        have hs3 := hs2
        rw [e9, mixC_step (by omega)] at hs3
        rw [e9]
        have key := ih (j + 1) (by omega) (by omega) _ hs3 (hf.tr (frm_mup ⟨by omega, by omega⟩))
        rw [show w (j + 1 - 1).toNat = w j.toNat by congr 1; omega] at key
        refine VW.sub ?_ [0, 1, 2, 3, 4, 5, 6, 7, 8, 9] rfl
        exact key
      · refine VW.aload dL_distance_158 rfl ?_
        refine VW.iload dL_distance_160 rfl ?_
        refine VW.iload dL_distance_162 rfl ?_
        refine VW.iastore dL_distance_164 hr.1 hr.2 (by omega) (by omega) (by decide) ?_
        refine VW.iinc (lv' := [(0, _), (1, _), (2, _), (3, _), (4, _), (5, _), (6, _), (7, _), (8, _), (9, _), (10, _)]) dL_distance_165 rfl (by decide) rfl ?_
        refine VW.goto 63 dL_distance_168 (by decide) ?_
        have e9 : w (j - 1).toNat + rat S 2 * eig (rat D i) (rat (C.getD c.toNat []) (j - 1)) = nc (rat S 3) (rat S 2) (rat D i) (KL (C.getD c.toNat [])) w j.toNat := by rw [hns]; omega
        have hs2 := hsr.set (k := j) (v := w j.toNat + rat S 3) (by omega)
        have hs3 := hs2.set (k := j) (v := w (j - 1).toNat + rat S 2 * eig (rat D i) (rat (C.getD c.toNat []) (j - 1))) (by omega)
        rw [fup_ff] at hs3
        rw [e9, mixC_step (by omega)] at hs3
        rw [e9]
        have key := ih (j + 1) (by omega) (by omega) _ hs3 (hf.tr ((frm_mup ⟨by omega, by omega⟩).tr (frm_mup ⟨by omega, by omega⟩)))
        rw [show w (j + 1 - 1).toNat = w j.toNat by congr 1; omega] at key
        refine VW.sub ?_ [0, 1, 2, 3, 4, 5, 6, 7, 8, 9] rfl
        exact key
theorem lp_L_ld2 (hst : l.stackTraces = false) (hl : isL N sh) (hs : hasNS μ S) (hw : wfS S) (hC : hasCo μ C) (okc : okC C) (hr : r < N ∧ sh r = sI 9) (hr9 : 276 < r ∧ a < r) (ha : a < N ∧ sh a = sI cap ∧ cap ≤ 40) (hD : arr μ a D) (hDl : D.length ≤ cap) (hDb : bnd D 0 7) (hc : 0 ≤ c ∧ c < C.length) (hb : 0 ≤ b ∧ b ≤ (C.getD c.toNat []).length) (kk : ∀ μ3 : Mem, sumR μ3 r (costF (rat S 3) (rat S 2) D (KL (C.getD c.toNat []))) b → frm μ μ3 r (r + 1) → VW G l z M_L_distance 177 [(0, .ref (gB G + 273)), (1, .ref (gB G + a)), (2, vI (D.length : Int)), (3, .ref (gB G + 276)), (4, vI c), (5, vI b), (6, .ref (gB G + r)), (7, vI (D.length : Int))] [] (N, sh, μ3) k m Φ) : ∀ (n : Nat) (i : Int), 0 ≤ i → i + n = D.length → ∀ μ2 : Mem, sumR μ2 r (costF (rat S 3) (rat S 2) (D.take i.toNat) (KL (C.getD c.toNat []))) b → frm μ μ2 r (r + 1) → VW G l z M_L_distance 37 [(0, .ref (gB G + 273)), (1, .ref (gB G + a)), (2, vI (D.length : Int)), (3, .ref (gB G + 276)), (4, vI c), (5, vI b), (6, .ref (gB G + r)), (7, vI i)] [] (N, sh, μ2) k m Φ := by
  obtain ⟨hw5, hw0, hw1, hw2, hw3, hw4⟩ := id hw
  have l8 := okc.at hc
  have zc := hC c hc
  have h7 := okc.1
  intro n
  induction n with
  | zero =>
    intro i h1 h2 μ2 hsr hf
    refine VW.iload dL_distance_37 rfl ?_
    refine VW.iload_n dL_distance_39 rfl ?_
    refine VW.icmp_ge 177 ⟨by omega, by omega⟩ ⟨by omega, by omega⟩ dL_distance_40 (by decide) (fun c40 => ?_) (fun c40 => by omega)
    obtain rfl : i = (D.length : Int) := by omega
    rw [List.take_of_length_le (by omega)] at hsr
    exact kk μ2 hsr hf
  | succ n ih =>
    intro i h1 h2 μ2 hsr hf
    refine VW.iload dL_distance_37 rfl ?_
    refine VW.iload_n dL_distance_39 rfl ?_
    refine VW.icmp_ge 177 ⟨by omega, by omega⟩ ⟨by omega, by omega⟩ dL_distance_40 (by decide) (fun c40 => by omega) (fun c40 => ?_)
    have z5 : μ2 273 (5 : Int).toNat = rat S 2 := (congrFun (hf 273 (by omega)) 5).trans hs.2.2.1
    have z6 : μ2 273 (6 : Int).toNat = rat S 3 := (congrFun (hf 273 (by omega)) 6).trans hs.2.2.2.1
    have s0 : μ2 r (0 : Int).toNat = (costF (rat S 3) (rat S 2) (D.take i.toNat) (KL (C.getD c.toNat []))) 0 := hsr 0 (by omega)
    have hcb := costF_b (gap := rat S 3) (turn := rat S 2) (K := KL (C.getD c.toNat [])) ⟨by omega, by omega⟩ ⟨by omega, by omega⟩ (D.take i.toNat)
    refine VW.aload dL_distance_43 rfl ?_
    refine VW.iconst dL_distance_45 ?_
    refine VW.iaload dL_distance_46 hr.1 hr.2 (by omega) (by omega) (by decide) ?_
    rw [s0]
    refine VW.istore (lv' := [(0, _), (1, _), (2, _), (3, _), (4, _), (5, _), (6, _), (7, _), (8, _)]) dL_distance_47 (by decide) rfl ?_
    refine VW.aload dL_distance_49 rfl ?_
    refine VW.iconst dL_distance_51 ?_
    refine VW.dup2 dL_distance_52 rfl rfl ?_
    refine VW.iaload dL_distance_53 hr.1 hr.2 (by omega) (by omega) (by decide) ?_
    rw [s0]
    refine VW.aload_n dL_distance_54 rfl ?_
    refine VW.bipush dL_distance_55 rfl ?_
    refine VW.iaload dL_distance_57 (hl.1 273 (by decide)) hl.2.1 (by omega) (by omega) (by decide) ?_
    rw [z6]
    refine VW.iadd dL_distance_58 ?_
    refine VW.iastore dL_distance_59 hr.1 hr.2 (by omega) (by omega) (by decide) ?_
    refine VW.iconst dL_distance_60 ?_
    refine VW.istore (lv' := [(0, _), (1, _), (2, _), (3, _), (4, _), (5, _), (6, _), (7, _), (8, _), (9, _)]) dL_distance_61 (by decide) rfl ?_
    have hs2 := hsr.set (k := 0) (v := (costF (rat S 3) (rat S 2) (D.take i.toNat) (KL (C.getD c.toNat []))) 0 + rat S 3) (by omega)
    rw [show fup (costF (rat S 3) (rat S 2) (D.take i.toNat) (KL (C.getD c.toNat []))) (0 : Int).toNat ((costF (rat S 3) (rat S 2) (D.take i.toNat) (KL (C.getD c.toNat []))) 0 + rat S 3) = mixC (rat S 3) (rat S 2) (rat D i) (KL (C.getD c.toNat [])) (costF (rat S 3) (rat S 2) (D.take i.toNat) (KL (C.getD c.toNat []))) 1 from ?_] at hs2
    · refine lp_L_ld3 hst hl hs hw hC okc hr hr9 ha hD hDl hDb hc hb (i := i) ⟨by omega, by omega⟩ (w := (costF (rat S 3) (rat S 2) (D.take i.toNat) (KL (C.getD c.toNat [])))) hcb (by simp; omega) (fun μ3 h3 f3 => ?_) b.toNat 1 (by omega) (by omega) _ hs2 (hf.tr (frm_mup ⟨by omega, by omega⟩))
      rw [← costF_snoc, ← take_snoc D (by omega)] at h3
      exact ih (i + 1) (by omega) (by omega) μ3 h3 f3
    · funext q
      unfold fup mixC
      by_cases hq : q = 0
      · subst hq; rfl
      · rw [if_neg (show ¬ q = Int.toNat 0 from hq), if_neg (by omega)]
theorem lp_L_ld1 (hst : l.stackTraces = false) (hl : isL N sh) (hs : hasNS μ S) (hw : wfS S) (hC : hasCo μ C) (okc : okC C) (hr : r < N ∧ sh r = sI 9) (hr9 : 276 < r ∧ a < r) (ha : a < N ∧ sh a = sI cap ∧ cap ≤ 40) (hD : arr μ a D) (hDl : D.length ≤ cap) (hDb : bnd D 0 7) (hc : 0 ≤ c ∧ c < C.length) (hb : 0 ≤ b ∧ b ≤ (C.getD c.toNat []).length) (kk : ∀ μ3 : Mem, sumR μ3 r (costF (rat S 3) (rat S 2) D (KL (C.getD c.toNat []))) b → frm μ μ3 r (r + 1) → VW G l z M_L_distance 177 [(0, .ref (gB G + 273)), (1, .ref (gB G + a)), (2, vI (D.length : Int)), (3, .ref (gB G + 276)), (4, vI c), (5, vI b), (6, .ref (gB G + r)), (7, vI (D.length : Int))] [] (N, sh, μ3) k m Φ) : ∀ (n : Nat) (j : Int), 0 ≤ j → j + n = b + 1 → ∀ μ2 : Mem, (∀ q : Int, 0 ≤ q ∧ q < j → μ2 r q.toNat = q * rat S 3) → frm μ μ2 r (r + 1) → VW G l z M_L_distance 9 [(0, .ref (gB G + 273)), (1, .ref (gB G + a)), (2, vI (D.length : Int)), (3, .ref (gB G + 276)), (4, vI c), (5, vI b), (6, .ref (gB G + r)), (7, vI j)] [] (N, sh, μ2) k m Φ := by
  obtain ⟨hw5, hw0, hw1, hw2, hw3, hw4⟩ := id hw
  have l8 := okc.at hc
  have zc := hC c hc
  have h7 := okc.1
  intro n
  induction n with
  | zero =>
    intro j h1 h2 μ2 hsr hf
    refine VW.iload dL_distance_9 rfl ?_
    refine VW.iload dL_distance_11 rfl ?_
    refine VW.icmp_gt 34 ⟨by omega, by omega⟩ ⟨by omega, by omega⟩ dL_distance_13 (by decide) (fun c13 => ?_) (fun c13 => by omega)
    refine VW.iconst dL_distance_34 ?_
    refine VW.istore (lv' := [(0, _), (1, _), (2, _), (3, _), (4, _), (5, _), (6, _), (7, _)]) dL_distance_35 (by decide) rfl ?_
    refine lp_L_ld2 hst hl hs hw hC okc hr hr9 ha hD hDl hDb hc hb kk D.length 0 (by omega) (by omega) μ2 (fun q hq => ?_) hf
    rw [hsr q (by omega)]
    show q * rat S 3 = ((q.toNat : Nat) : Int) * rat S 3
    rw [show ((q.toNat : Nat) : Int) = q by omega]
  | succ n ih =>
    intro j h1 h2 μ2 hsr hf
    refine VW.iload dL_distance_9 rfl ?_
    refine VW.iload dL_distance_11 rfl ?_
    refine VW.icmp_gt 34 ⟨by omega, by omega⟩ ⟨by omega, by omega⟩ dL_distance_13 (by decide) (fun c13 => by omega) (fun c13 => ?_)
    have z5 : μ2 273 (5 : Int).toNat = rat S 2 := (congrFun (hf 273 (by omega)) 5).trans hs.2.2.1
    have z6 : μ2 273 (6 : Int).toNat = rat S 3 := (congrFun (hf 273 (by omega)) 6).trans hs.2.2.2.1
    have m9 := mul_b9 (a := j) (n := 9) ⟨by omega, by omega⟩ (b := rat S 3) ⟨by omega, by omega⟩
    refine VW.aload dL_distance_16 rfl ?_
    refine VW.iload dL_distance_18 rfl ?_
    refine VW.iload dL_distance_20 rfl ?_
    refine VW.aload_n dL_distance_22 rfl ?_
    refine VW.bipush dL_distance_23 rfl ?_
    refine VW.iaload dL_distance_25 (hl.1 273 (by decide)) hl.2.1 (by omega) (by omega) (by decide) ?_
    rw [z6]
    refine VW.imul dL_distance_26 ?_
    refine VW.iastore dL_distance_27 hr.1 hr.2 (by omega) (by omega) (by decide) ?_
    refine VW.iinc (lv' := [(0, _), (1, _), (2, _), (3, _), (4, _), (5, _), (6, _), (7, _)]) dL_distance_28 rfl (by decide) rfl ?_
    refine VW.goto 9 dL_distance_31 (by decide) ?_
    refine ih (j + 1) (by omega) (by omega) _ (fun q hq => ?_) (hf.tr (frm_mup ⟨by omega, by omega⟩))
    by_cases e : q = j
    · subst e
      exact mup_s _ _ _ _
    · rw [mup_k (by omega)]
      exact hsr q (by omega)
theorem l_distance (hst : l.stackTraces = false) (hl : isL N sh) (hs : hasNS μ S) (hw : wfS S) (hC : hasCo μ C) (okc : okC C) (ha : a < N ∧ sh a = sI cap ∧ cap ≤ 40) (hD : arr μ a D) (hDl : D.length ≤ cap) (hDb : bnd D 0 7) (hc : 0 ≤ c ∧ c < C.length) (hb : 0 ≤ b ∧ b ≤ (C.getD c.toNat []).length) : Xa G l N sh M_L_distance [.ref (gB G + 273), .ref (gB G + a), vI (D.length : Int), .ref (gB G + 276), vI c, vI b] μ 1 9 (fun x μ' => x = costF (rat S 3) (rat S 2) D (KL (C.getD c.toNat [])) b.toNat ∧ lo N μ μ') := by
  refine Xa.of hst rfl (by decide +kernel) (Nat.le_of_ble_eq_true rfl) rfl ?_
  have l8 := okc.at hc
  have n7 := hl.1 276 (by decide)
  refine VW.bipush dL_distance_0 rfl ?_
  refine VW.newI (n0 := N) dL_distance_2 wd_62 rfl (by omega) ⟨by omega, by omega⟩ ?_
  refine VW.nme (N' := N + 1) (k' := 1) (n' := 9) (by omega) (by omega) (by omega) (fun sh1 μ1 hs1 hm1 => ?_)
  have f1 : los N sh sh1 := by rw [hs1]; exact los.up (Nat.le_refl N)
  have g1 : lo N μ μ1 := by rw [hm1]; exact lo.up (Nat.le_refl N)
  refine VW.astore (lv' := [(0, _), (1, _), (2, _), (3, _), (4, _), (5, _), (6, _)]) dL_distance_4 (by decide) rfl ?_
  refine VW.iconst dL_distance_6 ?_
  refine VW.istore (lv' := [(0, _), (1, _), (2, _), (3, _), (4, _), (5, _), (6, _), (7, _)]) dL_distance_7 (by decide) rfl ?_
  have hr : N < N + 1 ∧ sh1 N = sI 9 := ⟨by omega, by rw [hs1]; exact fup_s _ _ _⟩
  refine lp_L_ld1 (r := N) (a := a) (cap := cap) hst (hl.los f1 (by omega)) (hs.lo g1 (by omega)) hw (hC.lo g1 (by omega)) okc hr ⟨by omega, ha.1⟩ ⟨by omega, (f1 a ha.1).trans ha.2.1, ha.2.2⟩ (hD.same (g1.at ha.1)) hDl hDb hc hb (fun μ3 h3 f3 => ?_) (b.toNat + 1) 0 (by omega) (by omega) μ1 (fun q hq => by omega) frm.rf
  refine VW.aload dL_distance_177 rfl ?_
  refine VW.iload dL_distance_179 rfl ?_
  refine VW.iaload dL_distance_181 hr.1 hr.2 (by omega) (by omega) (by decide) ?_
  refine VW.ireturn dL_distance_182 rfl rfl ?_
  rw [h3 b ⟨by omega, by omega⟩]
  exact xaP.i (by omega) (by omega) (by omega) f1 ⟨rfl, g1.tr (f3.lo (Nat.le_refl N)) (Nat.le_refl N)⟩
theorem lp_L_least (hst : l.stackTraces = false) (hl : isL N sh) (hs : hasNS μ S) (hw : wfS S) (hC : hasCo μ C) (h1n : μ 273 1 = (C.length : Int)) (okc : okC C) (ha : a < N ∧ sh a = sI cap ∧ cap ≤ 40) (hD : arr μ a D) (hDl : D.length ≤ cap) (hDb : bnd D 0 7) : ∀ (n : Nat) (c b : Int), 0 ≤ c → c + n = C.length → (0 ≤ b ∧ b ≤ 9999) → ∀ (N' : Nat) (sh' : Nat → ShT) (μ2 : Mem) (k m : Nat), N + k = N' → k ≤ c.toNat → m ≤ 9 * c.toNat → los N sh sh' → lo N μ μ2 → VW G l (some N) M_L_least 8 [(0, .ref (gB G + 273)), (1, .ref (gB G + a)), (2, vI (D.length : Int)), (3, .ref (gB G + 276)), (4, vI b), (5, vI c)] [] (N', sh', μ2) k m (xaP N sh 7 63 (fun x μ'' => x = lsF S D C n c b ∧ lo N μ μ'')) := by
  have h7 := okc.1
  intro n
  induction n with
  | zero =>
    intro c b h1 h2 hb N' sh' μ2 k m hN hk hm hsh hf
    have n7 := hl.1 276 (by decide)
    have hl2 := hl.los hsh (by omega : N ≤ N')
    have e1 : μ2 273 (1 : Int).toNat = (C.length : Int) := (congrFun (hf.at (by omega)) 1).trans h1n
    refine VW.iload dL_least_8 rfl ?_
    refine VW.aload_n dL_least_10 rfl ?_
    refine VW.iconst dL_least_11 ?_
    refine VW.iaload dL_least_12 (by have := hl.1 273 (by decide); omega) hl2.2.1 (by omega) (by omega) (by decide) ?_
    rw [e1]
    refine VW.icmp_ge 51 ⟨by omega, by omega⟩ ⟨by omega, by omega⟩ dL_least_13 (by decide) (fun c13 => ?_) (fun c13 => by omega)
    refine VW.iload dL_least_51 rfl ?_
    refine VW.ireturn dL_least_53 rfl rfl ?_
    exact xaP.i (by omega) (by omega) (by omega) hsh ⟨rfl, hf⟩
  | succ n ih =>
    intro c b h1 h2 hb N' sh' μ2 k m hN hk hm hsh hf
    have n7 := hl.1 276 (by decide)
    have hl2 := hl.los hsh (by omega : N ≤ N')
    have e1 : μ2 273 (1 : Int).toNat = (C.length : Int) := (congrFun (hf.at (by omega)) 1).trans h1n
    refine VW.iload dL_least_8 rfl ?_
    refine VW.aload_n dL_least_10 rfl ?_
    refine VW.iconst dL_least_11 ?_
    refine VW.iaload dL_least_12 (by have := hl.1 273 (by decide); omega) hl2.2.1 (by omega) (by omega) (by decide) ?_
    rw [e1]
    refine VW.icmp_ge 51 ⟨by omega, by omega⟩ ⟨by omega, by omega⟩ dL_least_13 (by decide) (fun c13 => by omega) (fun c13 => ?_)
    refine VW.aload_n dL_least_16 rfl ?_
    refine VW.aload_n dL_least_17 rfl ?_
    refine VW.iload_n dL_least_18 rfl ?_
    refine VW.aload_n dL_least_19 rfl ?_
    refine VW.iload dL_least_20 rfl ?_
    refine VW.aload_n dL_least_22 rfl ?_
    refine VW.bipush dL_least_23 rfl ?_
    refine VW.iload dL_least_25 rfl ?_
    refine VW.imul dL_least_27 ?_
    refine VW.iaload dL_least_28 (by have := hl.1 276 (by decide); omega) hl2.2.2.2.2 (by omega) (by omega) (by decide) ?_
    have zc := (hC.lo hf (by omega)) c ⟨by omega, by omega⟩
    rw [zc.1]
    refine VW.xS (av := [.ref (gB G + 273), .ref (gB G + a), vI (D.length : Int), .ref (gB G + 276), vI c, vI ((C.getD c.toNat []).length : Int)]) (n0 := N) cs_L_least_L_distance dL_least_29 rfl (Nat.le_of_ble_eq_true rfl) rfl (by omega) (l_distance hst hl2 (hs.lo hf (by omega)) hw (hC.lo hf (by omega)) okc ⟨by omega, (hsh a ha.1).trans ha.2.1, ha.2.2⟩ (hD.same (hf.at ha.1)) hDl hDb (c := c) ⟨by omega, by omega⟩ (b := (C.getD c.toNat []).length) ⟨by omega, Int.le_refl _⟩) (fun x3 c3 s3 sh3 μ3 hc3 hs3 hl3 h3 => ?_)
    obtain ⟨rfl, h3⟩ := h3
    rw [show costF (rat S 3) (rat S 2) D (KL (C.getD c.toNat [])) (((C.getD c.toNat []).length : Nat) : Int).toNat = dstOf S D (C.getD c.toNat []) from by rw [Int.toNat_natCast]; rfl]
    have l9 := okc.at (c := c) ⟨by omega, by omega⟩
    have hdb := dstOf_b hw D (C.getD c.toNat []) (by omega) l9.1.2
    refine VW.istore (lv' := [(0, _), (1, _), (2, _), (3, _), (4, _), (5, _), (6, _)]) dL_least_32 (by decide) rfl ?_
    refine VW.iload dL_least_34 rfl ?_
    refine VW.iload dL_least_36 rfl ?_
    refine VW.icmp_ge 45 ⟨by omega, by omega⟩ ⟨by omega, by omega⟩ dL_least_38 (by decide) (fun c38 => ?_) (fun c38 => ?_)
    · refine VW.iinc (lv' := [(0, _), (1, _), (2, _), (3, _), (4, _), (5, _), (6, _)]) dL_least_45 rfl (by decide) rfl ?_
      refine VW.goto 8 dL_least_48 (by decide) ?_
      refine VW.sub ?_ [0, 1, 2, 3, 4, 5] rfl
      rw [show lsF S D C (n + 1) c b = lsF S D C n (c + 1) b from by rw [show lsF S D C (n + 1) c b = lsF S D C n (c + 1) (if dstOf S D (C.getD c.toNat []) < b then dstOf S D (C.getD c.toNat []) else b) from rfl, if_neg (by omega)]]
      exact ih (c + 1) _ (by omega) (by omega) (by omega) _ sh3 μ3 _ _ (by omega) (by omega) (by omega) (hsh.tr hl3 (by omega)) (hf.tr h3 (by omega))
    · refine VW.iload dL_least_41 rfl ?_
      refine VW.istore (lv' := [(0, _), (1, _), (2, _), (3, _), (4, _), (5, _), (6, _)]) dL_least_43 (by decide) rfl ?_
      refine VW.iinc (lv' := [(0, _), (1, _), (2, _), (3, _), (4, _), (5, _), (6, _)]) dL_least_45 rfl (by decide) rfl ?_
      refine VW.goto 8 dL_least_48 (by decide) ?_
      refine VW.sub ?_ [0, 1, 2, 3, 4, 5] rfl
      rw [show lsF S D C (n + 1) c b = lsF S D C n (c + 1) (dstOf S D (C.getD c.toNat [])) from by rw [show lsF S D C (n + 1) c b = lsF S D C n (c + 1) (if dstOf S D (C.getD c.toNat []) < b then dstOf S D (C.getD c.toNat []) else b) from rfl, if_pos (by omega)]]
      exact ih (c + 1) _ (by omega) (by omega) (by omega) _ sh3 μ3 _ _ (by omega) (by omega) (by omega) (hsh.tr hl3 (by omega)) (hf.tr h3 (by omega))
theorem l_least (hst : l.stackTraces = false) (hl : isL N sh) (hs : hasNS μ S) (hw : wfS S) (hC : hasCo μ C) (h1n : μ 273 1 = (C.length : Int)) (okc : okC C) (ha : a < N ∧ sh a = sI cap ∧ cap ≤ 40) (hD : arr μ a D) (hDl : D.length ≤ cap) (hDb : bnd D 0 7) : Xa G l N sh M_L_least [.ref (gB G + 273), .ref (gB G + a), vI (D.length : Int), .ref (gB G + 276)] μ 7 63 (fun x μ' => x = lsF S D C C.length 0 9999 ∧ lo N μ μ') := by
  refine Xa.of hst rfl (by decide +kernel) (Nat.le_of_ble_eq_true rfl) rfl ?_
  refine VW.sipush dL_least_0 rfl ?_
  refine VW.istore (lv' := [(0, _), (1, _), (2, _), (3, _), (4, _)]) dL_least_3 (by decide) rfl ?_
  refine VW.iconst dL_least_5 ?_
  refine VW.istore (lv' := [(0, _), (1, _), (2, _), (3, _), (4, _), (5, _)]) dL_least_6 (by decide) rfl ?_
  exact lp_L_least hst hl hs hw hC h1n okc ha hD hDl hDb C.length 0 9999 (by omega) (by omega) (by omega) N sh μ 0 0 (by omega) (by omega) (by omega) los.rf lo.rf
variable {b9 q : Int}
theorem lp_L_pcopy (hst : l.stackTraces = false) (hl : isL N sh) (hs : hasNS μ S) (hw : wfS S) (hC : hasCo μ C) (h1n : μ 273 1 = (C.length : Int)) (okc : okC C) {N' : Nat} {sh' : Nat → ShT} (hl2 : isL N' sh') (hN : N < N') (hsn : sh' N = sI 8) (hq : 0 ≤ q ∧ q < C.length) (kk : ∀ μ3 : Mem, arr μ3 N (C.getD q.toNat []) → lo N μ μ3 → VW G l (some N) M_L_pairs 67 [(0, .ref (gB G + 273)), (1, .ref (gB G + 276)), (2, .ref (gB G + N)), (3, vI b), (4, vI c), (5, vI q), (6, vI ((C.getD q.toNat []).length : Int))] [] (N', sh', μ3) k m Φ) : ∀ (n : Nat) (j : Int), 0 ≤ j → j + n = (C.getD q.toNat []).length → ∀ μ2 : Mem, (∀ i : Int, 0 ≤ i ∧ i < j → μ2 N i.toNat = rat (C.getD q.toNat []) i) → lo N μ μ2 → VW G l (some N) M_L_pairs 33 [(0, .ref (gB G + 273)), (1, .ref (gB G + 276)), (2, .ref (gB G + N)), (3, vI b), (4, vI c), (5, vI q), (6, vI j)] [] (N', sh', μ2) k m Φ := by
  have l8 := okc.at hq
  have h7 := okc.1
  intro n
  induction n with
  | zero =>
    intro j h1 h2 μ2 hcp hf
    have n7 := hl.1 276 (by decide)
    have n3 := hl.1 273 (by decide)
    have hC2 := hC.lo hf (by omega)
    have zq := hC2 q hq
    refine VW.iload dL_pairs_33 rfl ?_
    refine VW.aload_n dL_pairs_35 rfl ?_
    refine VW.bipush dL_pairs_36 rfl ?_
    refine VW.iload dL_pairs_38 rfl ?_
    refine VW.imul dL_pairs_40 ?_
    refine VW.iaload dL_pairs_41 (by omega) hl2.2.2.2.2 (by omega) (by omega) (by decide) ?_
    rw [zq.1]
    refine VW.icmp_ge 67 ⟨by omega, by omega⟩ ⟨by omega, by omega⟩ dL_pairs_42 (by decide) (fun c42 => ?_) (fun c42 => by omega)
    obtain rfl : j = ((C.getD q.toNat []).length : Int) := by omega
    exact kk μ2 (fun i hi => hcp i hi) hf
  | succ n ih =>
    intro j h1 h2 μ2 hcp hf
    have n7 := hl.1 276 (by decide)
    have n3 := hl.1 273 (by decide)
    have hC2 := hC.lo hf (by omega)
    have zq := hC2 q hq
    refine VW.iload dL_pairs_33 rfl ?_
    refine VW.aload_n dL_pairs_35 rfl ?_
    refine VW.bipush dL_pairs_36 rfl ?_
    refine VW.iload dL_pairs_38 rfl ?_
    refine VW.imul dL_pairs_40 ?_
    refine VW.iaload dL_pairs_41 (by omega) hl2.2.2.2.2 (by omega) (by omega) (by decide) ?_
    rw [zq.1]
    refine VW.icmp_ge 67 ⟨by omega, by omega⟩ ⟨by omega, by omega⟩ dL_pairs_42 (by decide) (fun c42 => by omega) (fun c42 => ?_)
    refine VW.aload_n dL_pairs_45 rfl ?_
    refine VW.iload dL_pairs_46 rfl ?_
    refine VW.aload_n dL_pairs_48 rfl ?_
    refine VW.bipush dL_pairs_49 rfl ?_
    refine VW.iload dL_pairs_51 rfl ?_
    refine VW.imul dL_pairs_53 ?_
    refine VW.iconst dL_pairs_54 ?_
    refine VW.iadd dL_pairs_55 ?_
    refine VW.iload dL_pairs_56 rfl ?_
    refine VW.iadd dL_pairs_58 ?_
    refine VW.iaload dL_pairs_59 (by omega) hl2.2.2.2.2 (by omega) (by omega) (by decide) ?_
    rw [show 9 * q + 1 + j = 9 * q + 1 + j from rfl, zq.2 j ⟨by omega, by omega⟩]
    refine VW.iastore dL_pairs_60 (by omega) hsn (by omega) (by omega) (by decide) ?_
    refine VW.iinc (lv' := [(0, _), (1, _), (2, _), (3, _), (4, _), (5, _), (6, _)]) dL_pairs_61 rfl (by decide) rfl ?_
    refine VW.goto 33 dL_pairs_64 (by decide) ?_
    refine ih (j + 1) (by omega) (by omega) _ (fun i hi => ?_) (hf.tr (lo.mu (Nat.le_refl N)) (Nat.le_refl N))
    by_cases e : i = j
    · subst e
      exact mup_s _ _ _ _
    · rw [mup_k (by omega)]
      exact hcp i (by omega)
theorem lp_L_prI (hst : l.stackTraces = false) (hl : isL N sh) (hs : hasNS μ S) (hw : wfS S) (hC : hasCo μ C) (h1n : μ 273 1 = (C.length : Int)) (okc : okC C) (hc : 0 ≤ c ∧ c < C.length) (kk : ∀ b : Int, (0 ≤ b ∧ b ≤ 9999) → b = b9 → ∀ (N' : Nat) (sh' : Nat → ShT) (μ2 : Mem) (k m : Nat), N + k = N' → 1 ≤ k → k ≤ 1 + 7 * (c + 1).toNat → m + 1 ≤ 9 * (1 + 7 * (c + 1).toNat) → los N sh sh' → sh' N = sI 8 → lo N μ μ2 → VW G l (some N) M_L_pairs 12 [(0, .ref (gB G + 273)), (1, .ref (gB G + 276)), (2, .ref (gB G + N)), (3, vI b), (4, vI (c + 1))] [] (N', sh', μ2) k m Φ) : ∀ (n : Nat) (q b : Int), 0 ≤ q → q + n = c → (0 ≤ b ∧ b ≤ 9999) → prI S C c n q b = b9 → ∀ (N' : Nat) (sh' : Nat → ShT) (μ2 : Mem) (k m : Nat), N + k = N' → 1 ≤ k → k ≤ 1 + 7 * c.toNat + q.toNat → m + 1 ≤ 9 * (1 + 7 * c.toNat + q.toNat) → los N sh sh' → sh' N = sI 8 → lo N μ μ2 → VW G l (some N) M_L_pairs 23 [(0, .ref (gB G + 273)), (1, .ref (gB G + 276)), (2, .ref (gB G + N)), (3, vI b), (4, vI c), (5, vI q)] [] (N', sh', μ2) k m Φ := by
  have h7 := okc.1
  intro n
  induction n with
  | zero =>
    intro q b h1 h2 hb he N' sh' μ2 k m hN hk1 hk hm hsh hsn hf
    have n7 := hl.1 276 (by decide)
    have n3 := hl.1 273 (by decide)
    have hl2 := hl.los hsh (by omega : N ≤ N')
    have hC2 := hC.lo hf (by omega)
    refine VW.iload dL_pairs_23 rfl ?_
    refine VW.iload dL_pairs_25 rfl ?_
    refine VW.icmp_ge 106 ⟨by omega, by omega⟩ ⟨by omega, by omega⟩ dL_pairs_27 (by decide) (fun c27 => ?_) (fun c27 => by omega)
    refine VW.iinc (lv' := [(0, _), (1, _), (2, _), (3, _), (4, _), (5, _)]) dL_pairs_106 rfl (by decide) rfl ?_
    refine VW.goto 12 dL_pairs_109 (by decide) ?_
    refine VW.sub ?_ [0, 1, 2, 3, 4] rfl
    exact kk b hb he N' sh' μ2 k m hN hk1 (by omega) (by omega) hsh hsn hf
  | succ n ih =>
    intro q b h1 h2 hb he N' sh' μ2 k m hN hk1 hk hm hsh hsn hf
    have n7 := hl.1 276 (by decide)
    have n3 := hl.1 273 (by decide)
    have hl2 := hl.los hsh (by omega : N ≤ N')
    have hC2 := hC.lo hf (by omega)
    have lc := okc.at hc
    have lq := okc.at (c := q) ⟨by omega, by omega⟩
    refine VW.iload dL_pairs_23 rfl ?_
    refine VW.iload dL_pairs_25 rfl ?_
    refine VW.icmp_ge 106 ⟨by omega, by omega⟩ ⟨by omega, by omega⟩ dL_pairs_27 (by decide) (fun c27 => by omega) (fun c27 => ?_)
    refine VW.iconst dL_pairs_30 ?_
    refine VW.istore (lv' := [(0, _), (1, _), (2, _), (3, _), (4, _), (5, _), (6, _)]) dL_pairs_31 (by decide) rfl ?_
    refine lp_L_pcopy hst hl hs hw hC h1n okc hl2 (by omega) hsn (q := q) ⟨by omega, by omega⟩ (fun μ4 ha4 hf4 => ?_) (C.getD q.toNat []).length 0 (by omega) (by omega) μ2 (fun i hi => by omega) hf
    refine VW.aload_n dL_pairs_67 rfl ?_
    refine VW.aload_n dL_pairs_68 rfl ?_
    refine VW.aload_n dL_pairs_69 rfl ?_
    refine VW.bipush dL_pairs_70 rfl ?_
    refine VW.iload dL_pairs_72 rfl ?_
    refine VW.imul dL_pairs_74 ?_
    refine VW.iaload dL_pairs_75 (by omega) hl2.2.2.2.2 (by omega) (by omega) (by decide) ?_
    have hC4 := hC.lo hf4 (by omega)
    rw [(hC4 q ⟨by omega, by omega⟩).1]
    refine VW.aload_n dL_pairs_76 rfl ?_
    refine VW.iload dL_pairs_77 rfl ?_
    refine VW.aload_n dL_pairs_79 rfl ?_
    refine VW.bipush dL_pairs_80 rfl ?_
    refine VW.iload dL_pairs_82 rfl ?_
    refine VW.imul dL_pairs_84 ?_
    refine VW.iaload dL_pairs_85 (by omega) hl2.2.2.2.2 (by omega) (by omega) (by decide) ?_
    rw [(hC4 c ⟨by omega, by omega⟩).1]
    refine VW.xS (av := [.ref (gB G + 273), .ref (gB G + N), vI ((C.getD q.toNat []).length : Int), .ref (gB G + 276), vI c, vI ((C.getD c.toNat []).length : Int)]) (n0 := N) cs_L_pairs_L_distance dL_pairs_86 rfl (Nat.le_of_ble_eq_true rfl) rfl (by omega) (l_distance (D := (C.getD q.toNat [])) hst hl2 (hs.lo hf4 (by omega)) hw hC4 okc ⟨by omega, hsn, by omega⟩ ha4 (by omega) lq.2 (c := c) ⟨by omega, by omega⟩ (b := (C.getD c.toNat []).length) ⟨by omega, Int.le_refl _⟩) (fun x3 c3 s3 sh3 μ3 hc3 hs3 hl3 h3 => ?_)
    obtain ⟨rfl, h3⟩ := h3
    rw [show costF (rat S 3) (rat S 2) (C.getD q.toNat []) (KL (C.getD c.toNat [])) (((C.getD c.toNat []).length : Nat) : Int).toNat = dstOf S (C.getD q.toNat []) (C.getD c.toNat []) from by rw [Int.toNat_natCast]; rfl]
    have hdb := dstOf_b hw (C.getD q.toNat []) (C.getD c.toNat []) (by omega) lc.1.2
    refine VW.istore (lv' := [(0, _), (1, _), (2, _), (3, _), (4, _), (5, _), (6, _)]) dL_pairs_89 (by decide) rfl ?_
    refine VW.iload dL_pairs_91 rfl ?_
    refine VW.iload_n dL_pairs_93 rfl ?_
    refine VW.icmp_ge 100 ⟨by omega, by omega⟩ ⟨by omega, by omega⟩ dL_pairs_94 (by decide) (fun c94 => ?_) (fun c94 => ?_)
    · refine VW.iinc (lv' := [(0, _), (1, _), (2, _), (3, _), (4, _), (5, _), (6, _)]) dL_pairs_100 rfl (by decide) rfl ?_
      refine VW.goto 23 dL_pairs_103 (by decide) ?_
      refine VW.sub ?_ [0, 1, 2, 3, 4, 5] rfl
      rw [show prI S C c (n + 1) q b = prI S C c n (q + 1) b from by rw [show prI S C c (n + 1) q b = prI S C c n (q + 1) (if dstOf S (C.getD q.toNat []) (C.getD c.toNat []) < b then dstOf S (C.getD q.toNat []) (C.getD c.toNat []) else b) from rfl, if_neg (by omega)]] at he
      exact ih (q + 1) _ (by omega) (by omega) (by omega) he _ sh3 μ3 _ _ (by omega) (by omega) (by omega) (by omega) (hsh.tr hl3 (by omega)) ((hl3 N (by omega)).trans hsn) (hf4.tr h3 (by omega))
    · refine VW.iload dL_pairs_97 rfl ?_
      refine VW.istore_n (lv' := [(0, _), (1, _), (2, _), (3, _), (4, _), (5, _), (6, _)]) dL_pairs_99 (by decide) rfl ?_
      refine VW.iinc (lv' := [(0, _), (1, _), (2, _), (3, _), (4, _), (5, _), (6, _)]) dL_pairs_100 rfl (by decide) rfl ?_
      refine VW.goto 23 dL_pairs_103 (by decide) ?_
      refine VW.sub ?_ [0, 1, 2, 3, 4, 5] rfl
      rw [show prI S C c (n + 1) q b = prI S C c n (q + 1) (dstOf S (C.getD q.toNat []) (C.getD c.toNat [])) from by rw [show prI S C c (n + 1) q b = prI S C c n (q + 1) (if dstOf S (C.getD q.toNat []) (C.getD c.toNat []) < b then dstOf S (C.getD q.toNat []) (C.getD c.toNat []) else b) from rfl, if_pos (by omega)]] at he
      exact ih (q + 1) _ (by omega) (by omega) (by omega) he _ sh3 μ3 _ _ (by omega) (by omega) (by omega) (by omega) (hsh.tr hl3 (by omega)) ((hl3 N (by omega)).trans hsn) (hf4.tr h3 (by omega))
theorem lp_L_prO (hst : l.stackTraces = false) (hl : isL N sh) (hs : hasNS μ S) (hw : wfS S) (hC : hasCo μ C) (h1n : μ 273 1 = (C.length : Int)) (okc : okC C) : ∀ (n : Nat) (c b : Int), 0 ≤ c → c + n = C.length → (0 ≤ b ∧ b ≤ 9999) → ∀ (N' : Nat) (sh' : Nat → ShT) (μ2 : Mem) (k m : Nat), N + k = N' → 1 ≤ k → k ≤ 1 + 7 * c.toNat → m + 1 ≤ 9 * (1 + 7 * c.toNat) → los N sh sh' → sh' N = sI 8 → lo N μ μ2 → VW G l (some N) M_L_pairs 12 [(0, .ref (gB G + 273)), (1, .ref (gB G + 276)), (2, .ref (gB G + N)), (3, vI b), (4, vI c)] [] (N', sh', μ2) k m (xaP N sh 57 512 (fun x μ'' => x = prO S C n c b ∧ lo N μ μ'')) := by
  have h7 := okc.1
  intro n
  induction n with
  | zero =>
    intro c b h1 h2 hb N' sh' μ2 k m hN hk1 hk hm hsh hsn hf
    have n7 := hl.1 276 (by decide)
    have n3 := hl.1 273 (by decide)
    have hl2 := hl.los hsh (by omega : N ≤ N')
    have hC2 := hC.lo hf (by omega)
    have e1 : μ2 273 (1 : Int).toNat = (C.length : Int) := (congrFun (hf.at (by omega)) 1).trans h1n
    refine VW.iload dL_pairs_12 rfl ?_
    refine VW.aload_n dL_pairs_14 rfl ?_
    refine VW.iconst dL_pairs_15 ?_
    refine VW.iaload dL_pairs_16 (by omega) hl2.2.1 (by omega) (by omega) (by decide) ?_
    rw [e1]
    refine VW.icmp_ge 112 ⟨by omega, by omega⟩ ⟨by omega, by omega⟩ dL_pairs_17 (by decide) (fun c17 => ?_) (fun c17 => by omega)
    refine VW.iload_n dL_pairs_112 rfl ?_
    refine VW.ireturn dL_pairs_113 rfl rfl ?_
    exact xaP.i (by omega) (by omega) (by omega) hsh ⟨rfl, hf⟩
  | succ n ih =>
    intro c b h1 h2 hb N' sh' μ2 k m hN hk1 hk hm hsh hsn hf
    have n7 := hl.1 276 (by decide)
    have n3 := hl.1 273 (by decide)
    have hl2 := hl.los hsh (by omega : N ≤ N')
    have hC2 := hC.lo hf (by omega)
    have e1 : μ2 273 (1 : Int).toNat = (C.length : Int) := (congrFun (hf.at (by omega)) 1).trans h1n
    refine VW.iload dL_pairs_12 rfl ?_
    refine VW.aload_n dL_pairs_14 rfl ?_
    refine VW.iconst dL_pairs_15 ?_
    refine VW.iaload dL_pairs_16 (by omega) hl2.2.1 (by omega) (by omega) (by decide) ?_
    rw [e1]
    refine VW.icmp_ge 112 ⟨by omega, by omega⟩ ⟨by omega, by omega⟩ dL_pairs_17 (by decide) (fun c17 => by omega) (fun c17 => ?_)
    refine VW.iconst dL_pairs_20 ?_
    refine VW.istore (lv' := [(0, _), (1, _), (2, _), (3, _), (4, _), (5, _)]) dL_pairs_21 (by decide) rfl ?_
    rw [show prO S C (n + 1) c b = prO S C n (c + 1) (prI S C c c.toNat 0 b) from rfl]
    exact lp_L_prI hst hl hs hw hC h1n okc (c := c) ⟨by omega, by omega⟩ (fun b' hb' e N3 sh3 μ3 k3 m3 g1 g2 g3 g4 g5 g6 g7 => by rw [← e]; exact ih (c + 1) b' (by omega) (by omega) hb' N3 sh3 μ3 k3 m3 g1 g2 g3 g4 g5 g6 g7) c.toNat 0 b (by omega) (by omega) hb rfl N' sh' μ2 k m hN hk1 (by omega) (by omega) hsh hsn hf
theorem l_pairs (hst : l.stackTraces = false) (hl : isL N sh) (hs : hasNS μ S) (hw : wfS S) (hC : hasCo μ C) (h1n : μ 273 1 = (C.length : Int)) (okc : okC C) : Xa G l N sh M_L_pairs [.ref (gB G + 273), .ref (gB G + 276)] μ 57 512 (fun x μ' => x = pairsF S C ∧ lo N μ μ') := by
  refine Xa.of hst rfl (by decide +kernel) (Nat.le_of_ble_eq_true rfl) rfl ?_
  have n7 := hl.1 276 (by decide)
  refine VW.bipush dL_pairs_0 rfl ?_
  refine VW.newI (n0 := N) dL_pairs_2 wd_62 rfl (by omega) ⟨by omega, by omega⟩ ?_
  refine VW.nme (N' := N + 1) (k' := 1) (n' := 8) (by omega) (by omega) (by omega) (fun sh1 μ1 hs1 hm1 => ?_)
  have f1 : los N sh sh1 := by rw [hs1]; exact los.up (Nat.le_refl N)
  have g1 : lo N μ μ1 := by rw [hm1]; exact lo.up (Nat.le_refl N)
  refine VW.astore_n (lv' := [(0, _), (1, _), (2, _)]) dL_pairs_4 (by decide) rfl ?_
  refine VW.sipush dL_pairs_5 rfl ?_
  refine VW.istore_n (lv' := [(0, _), (1, _), (2, _), (3, _)]) dL_pairs_8 (by decide) rfl ?_
  refine VW.iconst dL_pairs_9 ?_
  refine VW.istore (lv' := [(0, _), (1, _), (2, _), (3, _), (4, _)]) dL_pairs_10 (by decide) rfl ?_
  exact lp_L_prO hst hl hs hw hC h1n okc C.length 0 9999 (by omega) (by omega) (by omega) (N + 1) sh1 μ1 1 8 (by omega) (by omega) (by omega) (by omega) f1 (by rw [hs1]; exact fup_s _ _ _) g1
end PLD
