/-! ===== Meter: distances ===== -/
/-- one more direction of the stroke, against the beginnings of a command -/
def nc (gap turn d : Int) (K : Nat → Int) (c : Nat → Int) : Nat → Int
  | 0 => c 0 + gap
  | j + 1 => min (c j + turn * eig d (K j)) (min (c (j + 1) + gap) (nc gap turn d K c j + gap))
def costF (gap turn : Int) (D : List Int) (K : Nat → Int) : Nat → Int := D.foldl (fun c d => nc gap turn d K c) (fun j => (j : Int) * gap)
def lrF (c : Nat → Int) (n f : Int) : Nat → Int → Int
  | 0, _ => -1
  | k + 1, r => if c (n - r).toNat ≤ f then r else lrF c n f k (r + 1)
def cl (c : Nat → Int) (n : Nat) : List Int := (List.range (n + 1)).map c
theorem cl_len (c : Nat → Int) (n : Nat) : (cl c n).length = n + 1 := by simp [cl]
theorem cl_get? (c : Nat → Int) (n i : Nat) : (cl c n)[i]? = if i < n + 1 then some (c i) else none := by
  unfold cl
  rw [List.getElem?_map]
  by_cases h : i < n + 1
  · rw [List.getElem?_range h, if_pos h]; rfl
  · rw [List.getElem?_eq_none (by simp; omega), if_neg h]; rfl
theorem cl_rat {c : Nat → Int} {n : Nat} {i : Int} (h0 : 0 ≤ i) (h1 : i ≤ n) : rat (cl c n) i = c i.toNat := by
  unfold rat List.getD
  rw [if_pos (by rw [cl_len]; omega), cl_get?, if_pos (by omega)]
  rfl
theorem cl_set {c : Nat → Int} {n k : Nat} {v : Int} (h : k ≤ n) : (cl c n).set k v = cl (fup c k v) n := by
  apply List.ext_getElem?
  intro j
  rw [List.getElem?_set, cl_get?, cl_get?, cl_len]
  unfold fup
  by_cases h1 : k = j
  · subst h1
    simp [show k < n + 1 by omega]
  · simp [h1, show ¬ j = k from fun q => h1 q.symm]
theorem cl_congr {c c' : Nat → Int} {n : Nat} (h : ∀ k, k ≤ n → c k = c' k) : cl c n = cl c' n := by
  apply List.ext_getElem?
  intro j
  rw [cl_get?, cl_get?]
  by_cases h1 : j < n + 1
  · rw [if_pos h1, if_pos h1, h j (by omega)]
  · rw [if_neg h1, if_neg h1]
theorem mul_b {a b : Int} (ha : 0 ≤ a ∧ a ≤ 9) (hb : 0 ≤ b ∧ b ≤ 4) : 0 ≤ a * b ∧ a * b ≤ 36 := by
  have h1 : 0 ≤ a * b := Int.mul_nonneg ha.1 hb.1
  have h2 : a * b ≤ 9 * 4 := Int.mul_le_mul ha.2 hb.2 hb.1 (by decide)
  omega
theorem mul_b9 {a b n : Int} (ha : 0 ≤ a ∧ a ≤ n) (hb : 0 ≤ b ∧ b ≤ 9) : 0 ≤ a * b ∧ a * b ≤ 9 * a := by
  have h1 : 0 ≤ a * b := Int.mul_nonneg ha.1 hb.1
  have h2 : a * b ≤ a * 9 := Int.mul_le_mul_of_nonneg_left hb.2 ha.1
  omega
theorem nc_b {gap turn d B : Int} {K c : Nat → Int} (hg : 0 ≤ gap ∧ gap ≤ 9) (ht : 0 ≤ turn ∧ turn ≤ 9) (hc : ∀ j, 0 ≤ c j ∧ c j ≤ 9 * (j : Int) + B) : ∀ j, 0 ≤ nc gap turn d K c j ∧ nc gap turn d K c j ≤ 9 * (j : Int) + (B + 9)
  | 0 => by have := hc 0; show 0 ≤ c 0 + gap ∧ c 0 + gap ≤ _; omega
  | j + 1 => by
    have h1 := hc j
    have h2 := hc (j + 1)
    have h3 := nc_b (d := d) (K := K) hg ht hc j
    have h4 := mul_b ht (eig_b d (K j))
    show 0 ≤ min _ _ ∧ min _ _ ≤ _
    omega
theorem costF_snoc (gap turn : Int) (D : List Int) (d : Int) (K : Nat → Int) : costF gap turn (D ++ [d]) K = nc gap turn d K (costF gap turn D K) := by simp [costF, List.foldl_append]
theorem costF_b {gap turn : Int} {K : Nat → Int} (hg : 0 ≤ gap ∧ gap ≤ 9) (ht : 0 ≤ turn ∧ turn ≤ 9) (D : List Int) : ∀ j, 0 ≤ costF gap turn D K j ∧ costF gap turn D K j ≤ 9 * (j : Int) + 9 * (D.length : Int) := by
  have key : ∀ n, n ≤ D.length → ∀ j, 0 ≤ costF gap turn (D.take n) K j ∧ costF gap turn (D.take n) K j ≤ 9 * (j : Int) + 9 * (n : Int) := by
    intro n
    induction n with
    | zero =>
      intro _ j
      have h := mul_b9 (a := (j : Int)) (n := j) ⟨by omega, by omega⟩ hg
      show 0 ≤ (j : Int) * gap ∧ (j : Int) * gap ≤ _
      omega
    | succ n ih =>
      intro hn j
      have e : D.take (n + 1) = D.take n ++ [D.getD n 0] := by rw [List.take_add_one, List.getElem?_eq_getElem (by omega)]; simp [List.getD, show n < D.length by omega]
      rw [e, costF_snoc]
      have h := nc_b (d := D.getD n 0) (K := K) hg ht (ih (by omega)) j
      omega
  have h := key D.length (Nat.le_refl _)
  rw [List.take_length] at h
  exact h
def isMeter (N : Nat) (sh : Nat → ShT) (m : Nat) : Prop := m < N ∧ sh m = sO 2 [fR (m + 1)] ∧ isRow N sh (m + 1) 9
section PD
variable {G : GT} {l : Launch} {N : Nat} {sh : Nat → ShT} {μ : Mem}
variable {a b c m s v : Nat} {cap capb : Nat} {L S D : List Int}
def mixC (gap turn d : Int) (K c : Nat → Int) (j : Int) : Nat → Int := fun k => if (k : Int) < j then nc gap turn d K c k else c k
theorem mixC_step {gap turn d : Int} {K c : Nat → Int} {j : Int} (h0 : 0 ≤ j) : fup (mixC gap turn d K c j) j.toNat (nc gap turn d K c j.toNat) = mixC gap turn d K c (j + 1) := by
  funext k
  unfold fup mixC
  by_cases h : k = j.toNat
  · rw [if_pos h, if_pos (by omega), h]
  · rw [if_neg h]
    by_cases h2 : (k : Int) < j
    · rw [if_pos h2, if_pos (by omega)]
    · rw [if_neg h2, if_neg (by omega)]
theorem nc_succ (gap turn d : Int) (K c : Nat → Int) {j : Int} (h : 1 ≤ j) : nc gap turn d K c j.toNat = min (c (j - 1).toNat + turn * eig d (K (j - 1).toNat)) (min (c j.toNat + gap) (nc gap turn d K c (j - 1).toNat + gap)) := by
  obtain ⟨k, rfl⟩ : ∃ k : Nat, j = (k : Int) + 1 := ⟨(j - 1).toNat, by omega⟩
  rw [show ((k : Int) + 1).toNat = k + 1 by omega, show ((k : Int) + 1 - 1).toNat = k by omega]
  rfl
theorem lp_X2_takeIn (hst : l.stackTraces = false) (hm : isMeter N sh m) (hrb : isRow N sh b capb) (hL : hasRow μ b capb L) (hl8 : L.length ≤ 8) (hLb : bnd L 0 7) {d gap turn B : Int} (hd : -1 ≤ d ∧ d ≤ 7) (hg : 0 ≤ gap ∧ gap ≤ 9) (ht : 0 ≤ turn ∧ turn ≤ 9) {c : Nat → Int} (hcb : ∀ j, 0 ≤ c j ∧ c j ≤ 9 * (j : Int) + B) (hB : B ≤ 1000) {K : Nat → Int} (hK : ∀ j : Int, 0 ≤ j ∧ j < L.length → rat L j = K j.toNat) (hmb : b + 2 ≤ m ∨ m + 3 ≤ b) : ∀ (n : Nat) (j : Int), 1 ≤ j ∧ j ≤ L.length + 1 → L.length + 1 - j < n → ∀ μ2 : Mem, hasRow μ2 (m + 1) 9 (cl (mixC gap turn d K c j) L.length) → frm μ μ2 m (m + 3) → VW G l none M_X2_takeIn 25 [(0, .ref (gB G + m)), (1, vI d), (2, .ref (gB G + b)), (3, vI gap), (4, vI turn), (5, vI (c (j - 1).toNat)), (6, vI j)] [] (N, sh, μ2) 0 0 (fxP N sh (oN (vN_v (fun μ' => hasRow μ' (m + 1) 9 (cl (nc gap turn d K c) L.length) ∧ frm μ μ' m (m + 3))))) := by
  intro n
  induction n with
  | zero => intro j h1j h2 μ2 hC hf; omega
  | succ n ih =>
    intro j h1j h2 μ2 hC hf
    refine VW.iload dX2_takeIn_25 rfl ?_
    refine VW.aload_n dX2_takeIn_27 rfl ?_
    refine VW.pV0 cv_X2_takeIn_X4_held dX2_takeIn_28 (Nat.le_of_ble_eq_true rfl) hrb.1 hrb.2.1 (r_held hst hrb (hL.keep hf (by omega))) ?_
    refine VW.icmp_gt 113 ⟨by omega, by omega⟩ ⟨by omega, by omega⟩ dX2_takeIn_31 (by decide) (fun c31 => ?_) (fun c31 => ?_)
    · refine VW.vreturn dX2_takeIn_113 rfl ?_
      refine fxP.vv ?_
      have e : j = (L.length : Int) + 1 := by omega
      subst e
      refine ⟨?_, hf⟩
      rw [cl_congr (c' := mixC gap turn d K c ((L.length : Int) + 1)) (fun k hk => by unfold mixC; rw [if_pos (by omega)])]
      exact hC
    · refine VW.iload dX2_takeIn_34 rfl ?_
      refine VW.iload dX2_takeIn_36 rfl ?_
      refine VW.iload_n dX2_takeIn_38 rfl ?_
      have hkb := rat_b1 hLb (i := j - 1) (by omega) (by omega)
      have hm4 := mul_b ht (eig_b d (rat L (j - 1)))
      have hcj : rat (cl (mixC gap turn d K c j) L.length) j = c j.toNat := by rw [cl_rat (by omega) (by omega)]; unfold mixC; rw [if_neg (by omega)]
      have hcj1 : rat (cl (mixC gap turn d K c j) L.length) (j - 1) = nc gap turn d K c (j - 1).toNat := by rw [cl_rat (by omega) (by omega)]; unfold mixC; rw [if_pos (by omega)]
      have b1 := hcb j.toNat
      have b2 := hcb (j - 1).toNat
      have b3 := nc_b (d := d) (K := K) hg ht hcb (j - 1).toNat
      refine VW.aload_n dX2_takeIn_39 rfl ?_
      refine VW.iload dX2_takeIn_40 rfl ?_
      refine VW.iconst dX2_takeIn_42 ?_
      refine VW.isub dX2_takeIn_43 ?_
      refine VW.pV1 cv_X2_takeIn_X4_at dX2_takeIn_44 (Nat.le_of_ble_eq_true rfl) hrb.1 hrb.2.1 (r_at hst hrb (hL.keep hf (by omega)) ⟨by omega, by omega⟩) ?_
      refine VW.pN2 cn_X2_takeIn_X7_eighthsBetween dX2_takeIn_47 (Nat.le_of_ble_eq_true rfl) (s_X7_eighthsBetween hst hd hkb) ?_
      refine VW.imul dX2_takeIn_50 ?_
      refine VW.iadd dX2_takeIn_51 ?_
      refine VW.istore (lv' := [(0, _), (1, _), (2, _), (3, _), (4, _), (5, _), (6, _), (7, _)]) dX2_takeIn_52 (by decide) rfl ?_
      refine VW.aload_n dX2_takeIn_54 rfl ?_
      refine VW.getR dX2_takeIn_55 fa_X2_14 hm.1 hm.2.1 rfl ?_
      refine VW.iload dX2_takeIn_58 rfl ?_
      refine VW.pV1 cv_X2_takeIn_X4_at dX2_takeIn_60 (Nat.le_of_ble_eq_true rfl) hm.2.2.1 hm.2.2.2.1 (r_at hst hm.2.2 hC ⟨by omega, by omega⟩) ?_
      refine VW.istore (lv' := [(0, _), (1, _), (2, _), (3, _), (4, _), (5, _), (6, _), (7, _)]) dX2_takeIn_63 (by decide) rfl ?_
      refine VW.iload dX2_takeIn_65 rfl ?_
      refine VW.iload_n dX2_takeIn_67 rfl ?_
      refine VW.iadd dX2_takeIn_68 ?_
      refine VW.istore (lv' := [(0, _), (1, _), (2, _), (3, _), (4, _), (5, _), (6, _), (7, _), (8, _)]) dX2_takeIn_69 (by decide) rfl ?_
      refine VW.aload_n dX2_takeIn_71 rfl ?_
      refine VW.getR dX2_takeIn_72 fa_X2_14 hm.1 hm.2.1 rfl ?_
      refine VW.iload dX2_takeIn_75 rfl ?_
      refine VW.iconst dX2_takeIn_77 ?_
      refine VW.isub dX2_takeIn_78 ?_
      refine VW.pV1 cv_X2_takeIn_X4_at dX2_takeIn_79 (Nat.le_of_ble_eq_true rfl) hm.2.2.1 hm.2.2.2.1 (r_at hst hm.2.2 hC ⟨by omega, by omega⟩) ?_
      refine VW.iload_n dX2_takeIn_82 rfl ?_
      refine VW.iadd dX2_takeIn_83 ?_
      refine VW.istore (lv' := [(0, _), (1, _), (2, _), (3, _), (4, _), (5, _), (6, _), (7, _), (8, _), (9, _)]) dX2_takeIn_84 (by decide) rfl ?_
      refine VW.aload_n dX2_takeIn_86 rfl ?_
      refine VW.getR dX2_takeIn_87 fa_X2_14 hm.1 hm.2.1 rfl ?_
      refine VW.iload dX2_takeIn_90 rfl ?_
      refine VW.iload dX2_takeIn_92 rfl ?_
      refine VW.iload dX2_takeIn_94 rfl ?_
      refine VW.iload dX2_takeIn_96 rfl ?_
      refine VW.mmin dX2_takeIn_98 ⟨by omega, by omega⟩ ⟨by omega, by omega⟩ wd_295 (by decide) (Nat.le_of_ble_eq_true rfl) ?_
      refine VW.mmin dX2_takeIn_101 ⟨by omega, by omega⟩ ⟨by omega, by omega⟩ wd_295 (by decide) (Nat.le_of_ble_eq_true rfl) ?_
      refine VW.fvV2 cv_X2_takeIn_X4_put dX2_takeIn_104 (Nat.le_of_ble_eq_true rfl) hm.2.2.1 hm.2.2.2.1 (r_put hst hm.2.2 hC ⟨by omega, by omega⟩ (by omega)) (fun μ1 h1 => ?_)
      refine VW.iinc (lv' := [(0, _), (1, _), (2, _), (3, _), (4, _), (5, _), (6, _), (7, _), (8, _), (9, _)]) dX2_takeIn_107 rfl (by decide) rfl ?_
      refine VW.goto 25 dX2_takeIn_110 (by decide) ?_
      rw [cl_set (by omega), show min (c (j - 1).toNat + turn * eig d (rat L (j - 1))) (min (rat (cl (mixC gap turn d K c j) L.length) j + gap) (rat (cl (mixC gap turn d K c j) L.length) (j - 1) + gap)) = nc gap turn d K c j.toNat from ?_, mixC_step (by omega)] at h1
      · rw [hcj]
        rw [show c j.toNat = c (j + 1 - 1).toNat by congr 1; omega]
        refine VW.sub ?_ [0, 1, 2, 3, 4, 5, 6] rfl
        exact ih (j + 1) (by omega) (by omega) μ1 h1.1 (hf.tr (h1.2.wid (by omega) (by omega)))
      · rw [hcj, hcj1, nc_succ _ _ _ _ _ h1j.1, hK (j - 1) (by omega)]
theorem m_takeIn (hst : l.stackTraces = false) (hm : isMeter N sh m) (hrb : isRow N sh b capb) (hL : hasRow μ b capb L) (hl8 : L.length ≤ 8) (hLb : bnd L 0 7) {d gap turn B : Int} (hd : -1 ≤ d ∧ d ≤ 7) (hg : 0 ≤ gap ∧ gap ≤ 9) (ht : 0 ≤ turn ∧ turn ≤ 9) {c : Nat → Int} (hcb : ∀ j, 0 ≤ c j ∧ c j ≤ 9 * (j : Int) + B) (hB : B ≤ 1000) {K : Nat → Int} (hK : ∀ j : Int, 0 ≤ j ∧ j < L.length → rat L j = K j.toNat) (hmb : b + 2 ≤ m ∨ m + 3 ≤ b) (hC : hasRow μ (m + 1) 9 (cl c L.length)) : Zv G l N sh M_X2_takeIn [.ref (gB G + m), vI d, .ref (gB G + b), vI gap, vI turn] μ (fun μ' => hasRow μ' (m + 1) 9 (cl (nc gap turn d K c) L.length) ∧ frm μ μ' m (m + 3)) := by
  refine Fx.of hst rfl (by decide +kernel) (Nat.le_of_ble_eq_true rfl) rfl ?_
  refine VW.aload_n dX2_takeIn_0 rfl ?_
  refine VW.getR dX2_takeIn_1 fa_X2_14 hm.1 hm.2.1 rfl ?_
  refine VW.iconst dX2_takeIn_4 ?_
  refine VW.pV1 cv_X2_takeIn_X4_at dX2_takeIn_5 (Nat.le_of_ble_eq_true rfl) hm.2.2.1 hm.2.2.2.1 (r_at hst hm.2.2 hC ⟨by omega, by omega⟩) ?_
  refine VW.istore (lv' := [(0, _), (1, _), (2, _), (3, _), (4, _), (5, _)]) dX2_takeIn_8 (by decide) rfl ?_
  refine VW.aload_n dX2_takeIn_10 rfl ?_
  refine VW.getR dX2_takeIn_11 fa_X2_14 hm.1 hm.2.1 rfl ?_
  refine VW.iconst dX2_takeIn_14 ?_
  refine VW.iload dX2_takeIn_15 rfl ?_
  refine VW.iload_n dX2_takeIn_17 rfl ?_
  refine VW.iadd dX2_takeIn_18 ?_
  refine VW.fvV2 cv_X2_takeIn_X4_put dX2_takeIn_19 (Nat.le_of_ble_eq_true rfl) hm.2.2.1 hm.2.2.2.1 (r_put hst hm.2.2 hC ⟨by omega, by omega⟩ (by omega)) (fun μ1 h1 => ?_)
  refine VW.iconst dX2_takeIn_22 ?_
  refine VW.istore (lv' := [(0, _), (1, _), (2, _), (3, _), (4, _), (5, _), (6, _)]) dX2_takeIn_23 (by decide) rfl ?_
  rw [cl_rat (by omega) (by omega), show (0 : Int).toNat = 0 from rfl] at h1 ⊢
  rw [cl_set (by omega), show fup c 0 (c 0 + gap) = mixC gap turn d K c 1 from ?_] at h1
  · exact lp_X2_takeIn hst hm hrb hL hl8 hLb hd hg ht hcb hB hK hmb (L.length + 1) 1 (by omega) (by omega) μ1 h1.1 (h1.2.wid (by omega) (by omega))
  · funext k
    unfold fup mixC
    by_cases hk : k = 0
    · subst hk; rfl
    · rw [if_neg hk, if_neg (by omega)]
def wfS (S : List Int) : Prop := S.length = 5 ∧ (1 ≤ rat S 0 ∧ rat S 0 ≤ 9) ∧ (0 ≤ rat S 1 ∧ rat S 1 ≤ 9) ∧ (1 ≤ rat S 2 ∧ rat S 2 ≤ 9) ∧ (1 ≤ rat S 3 ∧ rat S 3 ≤ 9) ∧ (0 ≤ rat S 4 ∧ rat S 4 ≤ 20)
def KL (L : List Int) : Nat → Int := fun j => L.getD j 0
theorem KL_rat {L : List Int} {j : Int} (h : 0 ≤ j ∧ j < L.length) : rat L j = KL L j.toNat := by unfold rat KL; rw [if_pos h]
theorem take_snoc (D : List Int) {i : Int} (h : 0 ≤ i ∧ i.toNat < D.length) : D.take (i + 1).toNat = D.take i.toNat ++ [rat D i] := by
  unfold rat
  rw [if_pos (by omega), show (i + 1).toNat = i.toNat + 1 by omega, List.take_add_one, List.getElem?_eq_getElem h.2]
  simp [List.getD, h.2]
theorem mk_snoc (gap : Int) {i : Int} (h : 0 ≤ i) : (List.range (i + 1).toNat).map (fun j : Nat => (j : Int) * gap) = (List.range i.toNat).map (fun j : Nat => (j : Int) * gap) ++ [i * gap] := by
  rw [show (i + 1).toNat = i.toNat + 1 by omega, List.range_succ, List.map_append]
  simp [show ((i.toNat : Nat) : Int) = i by omega]
theorem lp_X2_measure2 (hst : l.stackTraces = false) (hm : isMeter N sh m) (hra : isRow N sh a cap) (hD : hasRow μ a cap D) (hDl : D.length ≤ 40) (hDb : bnd D 0 7) (hrb : isRow N sh b capb) (hL : hasRow μ b capb L) (hl8 : L.length ≤ 8) (hLb : bnd L 0 7) (hrs : isRow N sh s 5) (hS : hasRow μ s 5 S) (hw : wfS S) (hma : a + 2 ≤ m ∨ m + 3 ≤ a) (hmb : b + 2 ≤ m ∨ m + 3 ≤ b) (hms : s + 2 ≤ m ∨ m + 3 ≤ s) : ∀ (n : Nat) (i : Int), 0 ≤ i ∧ i ≤ D.length → D.length - i < n → ∀ μ2 : Mem, hasRow μ2 (m + 1) 9 (cl (costF (rat S 3) (rat S 2) (D.take i.toNat) (KL L)) L.length) → frm μ μ2 m (m + 3) → VW G l none M_X2_measure 47 [(0, .ref (gB G + m)), (1, .ref (gB G + a)), (2, .ref (gB G + b)), (3, .ref (gB G + s)), (4, vI (rat S 3)), (5, vI i)] [] (N, sh, μ2) 0 0 (fxP N sh (oN (vN_v (fun μ' => hasRow μ' (m + 1) 9 (cl (costF (rat S 3) (rat S 2) D (KL L)) L.length) ∧ frm μ μ' m (m + 3))))) := by
  obtain ⟨hw5, hw0, hw1, hw2, hw3, hw4⟩ := id hw
  intro n
  induction n with
  | zero => intro i h1i h2 μ2 hC hf; omega
  | succ n ih =>
    intro i h1i h2 μ2 hC hf
    refine VW.iload dX2_measure_47 rfl ?_
    refine VW.aload_n dX2_measure_49 rfl ?_
    refine VW.pV0 cv_X2_measure_X4_held dX2_measure_50 (Nat.le_of_ble_eq_true rfl) hra.1 hra.2.1 (r_held hst hra (hD.keep hf (by omega))) ?_
    refine VW.icmp_ge 80 ⟨by omega, by omega⟩ ⟨by omega, by omega⟩ dX2_measure_53 (by decide) (fun c53 => ?_) (fun c53 => ?_)
    · refine VW.vreturn dX2_measure_80 rfl ?_
      refine fxP.vv ?_
      rw [List.take_of_length_le (by omega)] at hC
      exact ⟨hC, hf⟩
    · refine VW.aload_n dX2_measure_56 rfl ?_
      refine VW.aload_n dX2_measure_57 rfl ?_
      refine VW.iload dX2_measure_58 rfl ?_
      refine VW.pV1 cv_X2_measure_X4_at dX2_measure_60 (Nat.le_of_ble_eq_true rfl) hra.1 hra.2.1 (r_at hst hra (hD.keep hf (by omega)) ⟨by omega, by omega⟩) ?_
      refine VW.aload_n dX2_measure_63 rfl ?_
      refine VW.iload dX2_measure_64 rfl ?_
      refine VW.aload_n dX2_measure_66 rfl ?_
      refine VW.iconst dX2_measure_67 ?_
      refine VW.pV1 cv_X2_measure_X4_at dX2_measure_68 (Nat.le_of_ble_eq_true rfl) hrs.1 hrs.2.1 (r_at hst hrs (hS.keep hf (by omega)) ⟨by omega, by omega⟩) ?_
      refine VW.fvV4 cv_X2_measure_X2_takeIn dX2_measure_71 (Nat.le_of_ble_eq_true rfl) hm.1 hm.2.1 (m_takeIn hst hm hrb (hL.keep hf (by omega)) hl8 hLb (B := 9 * ((D.take i.toNat).length : Int)) (by have := rat_b1 hDb (i := i) (by omega) (by omega); omega) ⟨by omega, by omega⟩ ⟨by omega, by omega⟩ (costF_b ⟨by omega, by omega⟩ ⟨by omega, by omega⟩ _) (by simp; omega) (K := KL L) (fun j hj => KL_rat hj) hmb hC) (fun μ1 h1 => ?_)
      refine VW.iinc (lv' := [(0, _), (1, _), (2, _), (3, _), (4, _), (5, _)]) dX2_measure_74 rfl (by decide) rfl ?_
      refine VW.goto 47 dX2_measure_77 (by decide) ?_
      rw [← costF_snoc, ← take_snoc D (by omega)] at h1
      exact ih (i + 1) (by omega) (by omega) μ1 h1.1 (hf.tr h1.2)
theorem lp_X2_measure1 (hst : l.stackTraces = false) (hm : isMeter N sh m) (hra : isRow N sh a cap) (hD : hasRow μ a cap D) (hDl : D.length ≤ 40) (hDb : bnd D 0 7) (hrb : isRow N sh b capb) (hL : hasRow μ b capb L) (hl8 : L.length ≤ 8) (hLb : bnd L 0 7) (hrs : isRow N sh s 5) (hS : hasRow μ s 5 S) (hw : wfS S) (hma : a + 2 ≤ m ∨ m + 3 ≤ a) (hmb : b + 2 ≤ m ∨ m + 3 ≤ b) (hms : s + 2 ≤ m ∨ m + 3 ≤ s) : ∀ (n : Nat) (i : Int), 0 ≤ i ∧ i ≤ L.length + 1 → L.length + 1 - i < n → ∀ μ2 : Mem, hasRow μ2 (m + 1) 9 ((List.range i.toNat).map (fun j : Nat => (j : Int) * rat S 3)) → frm μ μ2 m (m + 3) → VW G l none M_X2_measure 17 [(0, .ref (gB G + m)), (1, .ref (gB G + a)), (2, .ref (gB G + b)), (3, .ref (gB G + s)), (4, vI (rat S 3)), (5, vI i)] [] (N, sh, μ2) 0 0 (fxP N sh (oN (vN_v (fun μ' => hasRow μ' (m + 1) 9 (cl (costF (rat S 3) (rat S 2) D (KL L)) L.length) ∧ frm μ μ' m (m + 3))))) := by
  obtain ⟨hw5, hw0, hw1, hw2, hw3, hw4⟩ := id hw
  intro n
  induction n with
  | zero => intro i h1i h2 μ2 hC hf; omega
  | succ n ih =>
    intro i h1i h2 μ2 hC hf
    refine VW.iload dX2_measure_17 rfl ?_
    refine VW.aload_n dX2_measure_19 rfl ?_
    refine VW.pV0 cv_X2_measure_X4_held dX2_measure_20 (Nat.le_of_ble_eq_true rfl) hrb.1 hrb.2.1 (r_held hst hrb (hL.keep hf (by omega))) ?_
    refine VW.icmp_gt 44 ⟨by omega, by omega⟩ ⟨by omega, by omega⟩ dX2_measure_23 (by decide) (fun c23 => ?_) (fun c23 => ?_)
    · refine VW.iconst dX2_measure_44 ?_
      refine VW.istore (lv' := [(0, _), (1, _), (2, _), (3, _), (4, _), (5, _)]) dX2_measure_45 (by decide) rfl ?_
      have e : i = (L.length : Int) + 1 := by omega
      subst e
      rw [show ((L.length : Int) + 1).toNat = L.length + 1 by omega] at hC
      exact lp_X2_measure2 hst hm hra hD hDl hDb hrb hL hl8 hLb hrs hS hw hma hmb hms (D.length + 1) 0 (by omega) (by omega) μ2 hC hf
    · refine VW.aload_n dX2_measure_26 rfl ?_
      refine VW.getR dX2_measure_27 fa_X2_14 hm.1 hm.2.1 rfl ?_
      refine VW.iload dX2_measure_30 rfl ?_
      refine VW.iload dX2_measure_32 rfl ?_
      refine VW.imul dX2_measure_34 ?_
      refine VW.fvV1 cv_X2_measure_X4_add dX2_measure_35 (Nat.le_of_ble_eq_true rfl) hm.2.2.1 hm.2.2.2.1 (r_add hst hm.2.2 hC (by simp; omega)) (fun μ1 h1 => ?_)
      refine VW.iinc (lv' := [(0, _), (1, _), (2, _), (3, _), (4, _), (5, _)]) dX2_measure_38 rfl (by decide) rfl ?_
      refine VW.goto 17 dX2_measure_41 (by decide) ?_
      rw [← mk_snoc _ (by omega)] at h1
      exact ih (i + 1) (by omega) (by omega) μ1 h1.1 (hf.tr (h1.2.wid (by omega) (by omega)))
theorem m_measure (hst : l.stackTraces = false) (hm : isMeter N sh m) (hra : isRow N sh a cap) (hD : hasRow μ a cap D) (hDl : D.length ≤ 40) (hDb : bnd D 0 7) (hrb : isRow N sh b capb) (hL : hasRow μ b capb L) (hl8 : L.length ≤ 8) (hLb : bnd L 0 7) (hrs : isRow N sh s 5) (hS : hasRow μ s 5 S) (hw : wfS S) (hma : a + 2 ≤ m ∨ m + 3 ≤ a) (hmb : b + 2 ≤ m ∨ m + 3 ≤ b) (hms : s + 2 ≤ m ∨ m + 3 ≤ s) : Zv G l N sh M_X2_measure [.ref (gB G + m), .ref (gB G + a), .ref (gB G + b), .ref (gB G + s)] μ (fun μ' => hasRow μ' (m + 1) 9 (cl (costF (rat S 3) (rat S 2) D (KL L)) L.length) ∧ frm μ μ' m (m + 3)) := by
  refine Fx.of hst rfl (by decide +kernel) (Nat.le_of_ble_eq_true rfl) rfl ?_
  refine VW.aload_n dX2_measure_0 rfl ?_
  refine VW.iconst dX2_measure_1 ?_
  refine VW.pV1 cv_X2_measure_X4_at dX2_measure_2 (Nat.le_of_ble_eq_true rfl) hrs.1 hrs.2.1 (r_at hst hrs hS ⟨by omega, by omega⟩) ?_
  refine VW.istore (lv' := [(0, _), (1, _), (2, _), (3, _), (4, _)]) dX2_measure_5 (by decide) rfl ?_
  refine VW.aload_n dX2_measure_7 rfl ?_
  refine VW.getR dX2_measure_8 fa_X2_14 hm.1 hm.2.1 rfl ?_
  refine VW.fvV0 cv_X2_measure_X4_clear dX2_measure_11 (Nat.le_of_ble_eq_true rfl) hm.2.2.1 hm.2.2.2.1 (r_clear hst hm.2.2) (fun μ1 h1 => ?_)
  refine VW.iconst dX2_measure_14 ?_
  refine VW.istore (lv' := [(0, _), (1, _), (2, _), (3, _), (4, _), (5, _)]) dX2_measure_15 (by decide) rfl ?_
  exact lp_X2_measure1 hst hm hra hD hDl hDb hrb hL hl8 hLb hrs hS hw hma hmb hms (L.length + 2) 0 (by omega) (by omega) μ1 h1.1 (h1.2.wid (by omega) (by omega))
theorem m_whole (hst : l.stackTraces = false) (hm : isMeter N sh m) {c : Nat → Int} {n : Nat} (hC : hasRow μ (m + 1) 9 (cl c n)) : Zi G l N sh M_X2_whole [.ref (gB G + m)] μ (fun r μ' => r = c n ∧ μ' = μ) := by
  refine Fx.of hst rfl (by decide +kernel) (Nat.le_of_ble_eq_true rfl) rfl ?_
  have hn := hC.cap
  rw [cl_len] at hn
  have hl : ((cl c n).length : Int) = (n : Int) + 1 := by rw [cl_len]; rfl
  refine VW.aload_n dX2_whole_0 rfl ?_
  refine VW.getR dX2_whole_1 fa_X2_14 hm.1 hm.2.1 rfl ?_
  refine VW.aload_n dX2_whole_4 rfl ?_
  refine VW.getR dX2_whole_5 fa_X2_14 hm.1 hm.2.1 rfl ?_
  refine VW.pV0 cv_X2_whole_X4_held dX2_whole_8 (Nat.le_of_ble_eq_true rfl) hm.2.2.1 hm.2.2.2.1 (r_held hst hm.2.2 hC) ?_
  refine VW.iconst dX2_whole_11 ?_
  refine VW.isub dX2_whole_12 ?_
  refine VW.pV1 cv_X2_whole_X4_at dX2_whole_13 (Nat.le_of_ble_eq_true rfl) hm.2.2.1 hm.2.2.2.1 (r_at hst hm.2.2 hC ⟨by omega, by omega⟩) ?_
  refine VW.ireturn dX2_whole_16 rfl rfl ?_
  refine fxP.ii ⟨?_, rfl⟩
  rw [cl_rat (by omega) (by omega)]
  congr 1
  omega
theorem lp_X2_leastRest (hst : l.stackTraces = false) (hm : isMeter N sh m) {c : Nat → Int} {n : Nat} (hC : hasRow μ (m + 1) 9 (cl c n)) (hcb : ∀ j, j ≤ n → 0 ≤ c j ∧ c j ≤ 100000) {f : Int} (hf : R32 f) : ∀ (k : Nat) (i : Int), 0 ≤ i → i + k = (n : Int) + 1 → VW G l none M_X2_leastRest 2 [(0, .ref (gB G + m)), (1, vI f), (2, vI i)] [] (N, sh, μ) 0 0 (fxP N sh (oN (vN_i (fun r μ' => r = lrF c n f k i ∧ μ' = μ)))) := by
  have hn := hC.cap
  rw [cl_len] at hn
  have hl : ((cl c n).length : Int) = (n : Int) + 1 := by rw [cl_len]; rfl
  intro k
  induction k with
  | zero =>
    intro i h1 h2
    refine VW.iload_n dX2_leastRest_2 rfl ?_
    refine VW.aload_n dX2_leastRest_3 rfl ?_
    refine VW.getR dX2_leastRest_4 fa_X2_14 hm.1 hm.2.1 rfl ?_
    refine VW.pV0 cv_X2_leastRest_X4_held dX2_leastRest_7 (Nat.le_of_ble_eq_true rfl) hm.2.2.1 hm.2.2.2.1 (r_held hst hm.2.2 hC) ?_
    refine VW.icmp_ge 43 ⟨by omega, by omega⟩ ⟨by omega, by omega⟩ dX2_leastRest_10 (by decide) (fun c10 => ?_) (fun c10 => by omega)
    refine VW.iconst dX2_leastRest_43 ?_
    refine VW.ireturn dX2_leastRest_44 rfl rfl ?_
    exact fxP.ii ⟨rfl, rfl⟩
  | succ k ih =>
    intro i h1 h2
    have hb9 := hcb ((n : Int) - i).toNat (by omega)
    refine VW.iload_n dX2_leastRest_2 rfl ?_
    refine VW.aload_n dX2_leastRest_3 rfl ?_
    refine VW.getR dX2_leastRest_4 fa_X2_14 hm.1 hm.2.1 rfl ?_
    refine VW.pV0 cv_X2_leastRest_X4_held dX2_leastRest_7 (Nat.le_of_ble_eq_true rfl) hm.2.2.1 hm.2.2.2.1 (r_held hst hm.2.2 hC) ?_
    refine VW.icmp_ge 43 ⟨by omega, by omega⟩ ⟨by omega, by omega⟩ dX2_leastRest_10 (by decide) (fun c10 => by omega) (fun c10 => ?_)
    refine VW.aload_n dX2_leastRest_13 rfl ?_
    refine VW.getR dX2_leastRest_14 fa_X2_14 hm.1 hm.2.1 rfl ?_
    refine VW.aload_n dX2_leastRest_17 rfl ?_
    refine VW.getR dX2_leastRest_18 fa_X2_14 hm.1 hm.2.1 rfl ?_
    refine VW.pV0 cv_X2_leastRest_X4_held dX2_leastRest_21 (Nat.le_of_ble_eq_true rfl) hm.2.2.1 hm.2.2.2.1 (r_held hst hm.2.2 hC) ?_
    refine VW.iconst dX2_leastRest_24 ?_
    refine VW.isub dX2_leastRest_25 ?_
    refine VW.iload_n dX2_leastRest_26 rfl ?_
    refine VW.isub dX2_leastRest_27 ?_
    refine VW.pV1 cv_X2_leastRest_X4_at dX2_leastRest_28 (Nat.le_of_ble_eq_true rfl) hm.2.2.1 hm.2.2.2.1 (r_at hst hm.2.2 hC ⟨by omega, by omega⟩) ?_
    rw [show ((cl c n).length : Int) - 1 - i = (n : Int) - i by omega, cl_rat (by omega) (by omega)]
    refine VW.iload_n dX2_leastRest_31 rfl ?_
    refine VW.icmp_gt 37 ⟨by omega, by omega⟩ ⟨by omega, by omega⟩ dX2_leastRest_32 (by decide) (fun c32 => ?_) (fun c32 => ?_)
    · refine VW.iinc (lv' := [(0, _), (1, _), (2, _)]) dX2_leastRest_37 rfl (by decide) rfl ?_
      refine VW.goto 2 dX2_leastRest_40 (by decide) ?_
      rw [show lrF c n f (k + 1) i = lrF c n f k (i + 1) from by rw [show lrF c n f (k + 1) i = (if c ((n : Int) - i).toNat ≤ f then i else lrF c n f k (i + 1)) from rfl, if_neg (by omega)]]
      exact ih (i + 1) (by omega) (by omega)
    · refine VW.iload_n dX2_leastRest_35 rfl ?_
      refine VW.ireturn dX2_leastRest_36 rfl rfl ?_
      refine fxP.ii ⟨?_, rfl⟩
      rw [show lrF c n f (k + 1) i = (if c ((n : Int) - i).toNat ≤ f then i else lrF c n f k (i + 1)) from rfl, if_pos (by omega)]
theorem m_leastRest (hst : l.stackTraces = false) (hm : isMeter N sh m) {c : Nat → Int} {n : Nat} (hC : hasRow μ (m + 1) 9 (cl c n)) (hcb : ∀ j, j ≤ n → 0 ≤ c j ∧ c j ≤ 100000) {f : Int} (hf : R32 f) : Zi G l N sh M_X2_leastRest [.ref (gB G + m), vI f] μ (fun r μ' => r = lrF c n f (n + 1) 0 ∧ μ' = μ) := by
  refine Fx.of hst rfl (by decide +kernel) (Nat.le_of_ble_eq_true rfl) rfl ?_
  refine VW.iconst dX2_leastRest_0 ?_
  refine VW.istore_n (lv' := [(0, _), (1, _), (2, _)]) dX2_leastRest_1 (by decide) rfl ?_
  exact lp_X2_leastRest hst hm hC hcb hf (n + 1) 0 (by omega) (by omega)
end PD
