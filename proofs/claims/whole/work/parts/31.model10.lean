/-! ===== the model: turning ===== -/
section PV
variable {G : GT} {l : Launch} {N : Nat} {sh : Nat → ShT} {μ μ' : Mem} {xs ys S D Ln : List Int} {C : List (List Int)} {v lo hi : Int}
variable {Z : List St} {B : List Int} {q : QS} {e : Int}
theorem par_dir : ∀ a b : Fin 3, dirF ((a.val : Int) - 1) ((b.val : Int) - 1) 8 0 ≠ -1 → (dirF ((a.val : Int) - 1) ((b.val : Int) - 1) 8 0 % 2 = 0 ↔ ((a.val : Int) - 1 = 0 ∨ (b.val : Int) - 1 = 0)) := by decide +kernel
theorem sgn0 (x : Int) : sgn x = 0 ↔ x = 0 := (fit_s x).2
theorem even_dir (xs ys : List Int) {i : Int} (h : sDir xs ys i ≠ -1) : isEven xs ys i = true ↔ (sDir xs ys i % 2 = 0 ∨ iabs (dif xs i) - iabs (dif ys i) = 0) := by
  have hx := sgn_b (dif xs i)
  have hy := sgn_b (dif ys i)
  have key := par_dir ⟨(sgn (dif xs i) + 1).toNat, by omega⟩ ⟨(sgn (dif ys i) + 1).toNat, by omega⟩
  simp only [] at key
  rw [show (((sgn (dif xs i) + 1).toNat : Nat) : Int) - 1 = sgn (dif xs i) by omega, show (((sgn (dif ys i) + 1).toNat : Nat) : Int) - 1 = sgn (dif ys i) by omega] at key
  have k2 := key h
  rw [sgn0, sgn0] at k2
  unfold isEven
  rw [decide_eq_true_eq, show sDir xs ys i = dirF (sgn (dif xs i)) (sgn (dif ys i)) 8 0 from rfl, k2]
  omega
theorem even_no (xs ys : List Int) {i : Int} (h : sDir xs ys i = -1) : isEven xs ys i = true := by
  have hx := sgn_b (dif xs i)
  have hy := sgn_b (dif ys i)
  have key : ∀ a b : Fin 3, dirF ((a.val : Int) - 1) ((b.val : Int) - 1) 8 0 = -1 → (a.val : Int) - 1 = 0 := by decide +kernel
  have k := key ⟨(sgn (dif xs i) + 1).toNat, by omega⟩ ⟨(sgn (dif ys i) + 1).toNat, by omega⟩
  simp only [] at k
  rw [show (((sgn (dif xs i) + 1).toNat : Nat) : Int) - 1 = sgn (dif xs i) by omega, show (((sgn (dif ys i) + 1).toNat : Nat) : Int) - 1 = sgn (dif ys i) by omega] at k
  have k2 := (sgn0 _).mp (k h)
  unfold isEven
  rw [decide_eq_true_eq]
  exact Or.inl k2
theorem sDir_0 (xs ys : List Int) : sDir xs ys 0 = -1 := by
  have d1 : dif xs 0 = 0 := if_pos (by omega)
  have d2 : dif ys 0 = 0 := if_pos (by omega)
  unfold sDir
  rw [d1, d2]
  decide +kernel
theorem lp_X8_ctF (hst : l.stackTraces = false) (hm : isM N sh) (hP : hasMP μ xs ys) (hbx : bnd xs 0 31) (hby : bnd ys 0 31) (hl : xs.length ≤ 40) (he : 1 ≤ e ∧ e < 8) (hno : turnOf xs ys e = none) : ∀ (n : Nat) (i : Int), 0 ≤ i → i + n = xs.length → ∀ μ2 : Mem, frK [283, 284] [] μ μ2 → VW G l none M_X8_canTurn 8 [(0, .ref (gB G + 273)), (1, vI e), (2, vI 0), (3, vI i)] [] (N, sh, μ2) 0 0 (fxP N sh (oN (vN_i (fun r μ' => r = bI (turnOf xs ys e).isSome ∧ (∀ q, turnOf xs ys e = some q → arr μ' 283 q.1 ∧ arr μ' 284 q.2) ∧ frK [283, 284] [] μ μ')))) := by
  intro n
  induction n with
  | zero =>
    intro i h1 h2 μ2 hf
    refine VW.iload_n dX8_canTurn_8 rfl ?_
    have h9 : μ2 273 8 = (xs.length : Int) := (hP.keep hf (by decide) (by decide) (by decide)).1
    refine VW.aload_n dX8_canTurn_9 rfl ?_
    refine VW.getI dX8_canTurn_10 fa_X8_64 (by have := hm.1; omega) hm.2.1 rfl ?_
    refine VW.icmp_ge 215 ⟨by omega, by omega⟩ ⟨by omega, by omega⟩ dX8_canTurn_13 (by decide) (fun c13 => ?_) (fun c13 => by omega)
    refine VW.iload_n dX8_canTurn_215 rfl ?_
    refine VW.ireturn dX8_canTurn_216 rfl rfl ?_
    rw [hno]
    exact fxP.ii ⟨rfl, fun q hq => (by cases hq), hf⟩
  | succ n ih =>
    intro i h1 h2 μ2 hf
    refine VW.iload_n dX8_canTurn_8 rfl ?_
    have h9 : μ2 273 8 = (xs.length : Int) := (hP.keep hf (by decide) (by decide) (by decide)).1
    refine VW.aload_n dX8_canTurn_9 rfl ?_
    refine VW.getI dX8_canTurn_10 fa_X8_64 (by have := hm.1; omega) hm.2.1 rfl ?_
    refine VW.icmp_ge 215 ⟨by omega, by omega⟩ ⟨by omega, by omega⟩ dX8_canTurn_13 (by decide) (fun c13 => by omega) (fun c13 => ?_)
    have hdb := sDir_b xs ys i
    have hlb := sLen_b hbx hby i
    have hle := hP.2.1
    refine VW.aload_n dX8_canTurn_16 rfl ?_
    refine VW.iload_n dX8_canTurn_17 rfl ?_
    refine VW.pV1 cv_X8_canTurn_X8_stepDirection dX8_canTurn_18 (Nat.le_of_ble_eq_true rfl) (by have := hm.1; omega) hm.2.1 (t_stepDirection hst hm (hP.keep hf (by decide) (by decide) (by decide)) hbx hby (by omega) ⟨by omega, by omega⟩) ?_
    refine VW.istore (lv' := [(0, _), (1, _), (2, _), (3, _), (4, _)]) dX8_canTurn_21 (by decide) rfl ?_
    refine VW.aload_n dX8_canTurn_23 rfl ?_
    refine VW.iload_n dX8_canTurn_24 rfl ?_
    refine VW.pV1 cv_X8_canTurn_X8_stepLength dX8_canTurn_25 (Nat.le_of_ble_eq_true rfl) (by have := hm.1; omega) hm.2.1 (t_stepLength hst hm (hP.keep hf (by decide) (by decide) (by decide)) hbx hby (by omega) ⟨by omega, by omega⟩) ?_
    refine VW.istore (lv' := [(0, _), (1, _), (2, _), (3, _), (4, _), (5, _)]) dX8_canTurn_28 (by decide) rfl ?_
    refine VW.iload_n dX8_canTurn_30 rfl ?_
    refine VW.if_ne 43 ⟨by omega, by omega⟩ dX8_canTurn_31 (by decide) (fun c31 => ?_) (fun c31 => ?_)
    · refine VW.aload_n dX8_canTurn_43 rfl ?_
      refine VW.getR dX8_canTurn_44 fa_X8_37 (by have := hm.1; omega) hm.2.1 rfl ?_
      refine VW.iload_n dX8_canTurn_47 rfl ?_
      refine VW.iconst dX8_canTurn_48 ?_
      refine VW.isub dX8_canTurn_49 ?_
      refine VW.iaload dX8_canTurn_50 (by have := hm.1; omega) hm.2.2.2.2.2.2.2.2.2.2.2.1 (by omega) (by omega) (by decide) ?_
      refine VW.istore (lv' := [(0, _), (1, _), (2, _), (3, _), (4, _), (5, _), (6, _)]) dX8_canTurn_51 (by decide) rfl ?_
      refine VW.iload_n dX8_canTurn_53 rfl ?_
      refine VW.if_ne 66 ⟨by omega, by omega⟩ dX8_canTurn_54 (by decide) (fun c54 => ?_) (fun c54 => ?_)
      · refine VW.aload_n dX8_canTurn_66 rfl ?_
        refine VW.getR dX8_canTurn_67 fa_X8_40 (by have := hm.1; omega) hm.2.1 rfl ?_
        refine VW.iload_n dX8_canTurn_70 rfl ?_
        refine VW.iconst dX8_canTurn_71 ?_
        refine VW.isub dX8_canTurn_72 ?_
        refine VW.iaload dX8_canTurn_73 (by have := hm.1; omega) hm.2.2.2.2.2.2.2.2.2.2.2.2 (by omega) (by omega) (by decide) ?_
        refine VW.istore (lv' := [(0, _), (1, _), (2, _), (3, _), (4, _), (5, _), (6, _), (7, _)]) dX8_canTurn_74 (by decide) rfl ?_
        refine VW.iload dX8_canTurn_76 rfl ?_
        refine VW.iconst dX8_canTurn_78 ?_
        refine VW.icmp_eq 173 ⟨by omega, by omega⟩ ⟨by omega, by omega⟩ dX8_canTurn_79 (by decide) (fun c79 => ?_) (fun c79 => ?_)
        · refine VW.iload_n dX8_canTurn_173 rfl ?_
          refine VW.if_eq 191 (by decide) dX8_canTurn_174 (by decide) (fun _ => ?_) (fun c174 => absurd c174 (by decide))
          refine VW.iconst dX8_canTurn_191 ?_
          refine VW.istore_n (lv' := [(0, _), (1, _), (2, _), (3, _), (4, _), (5, _), (6, _), (7, _)]) dX8_canTurn_192 (by decide) rfl ?_
          refine VW.aload_n dX8_canTurn_193 rfl ?_
          refine VW.getR dX8_canTurn_194 fa_X8_37 (by have := hm.1; omega) hm.2.1 rfl ?_
          refine VW.iload_n dX8_canTurn_197 rfl ?_
          refine VW.iload dX8_canTurn_198 rfl ?_
          refine VW.iastore dX8_canTurn_200 (by have := hm.1; omega) hm.2.2.2.2.2.2.2.2.2.2.2.1 (by omega) (by omega) (by decide) ?_
          refine VW.aload_n dX8_canTurn_201 rfl ?_
          refine VW.getR dX8_canTurn_202 fa_X8_40 (by have := hm.1; omega) hm.2.1 rfl ?_
          refine VW.iload_n dX8_canTurn_205 rfl ?_
          refine VW.iload dX8_canTurn_206 rfl ?_
          refine VW.iastore dX8_canTurn_208 (by have := hm.1; omega) hm.2.2.2.2.2.2.2.2.2.2.2.2 (by omega) (by omega) (by decide) ?_
          refine VW.iinc (lv' := [(0, _), (1, _), (2, _), (3, _), (4, _), (5, _), (6, _), (7, _)]) dX8_canTurn_209 rfl (by decide) rfl ?_
          refine VW.goto 8 dX8_canTurn_212 (by decide) ?_
          refine VW.sub ?_ [0, 1, 2, 3] rfl
          exact ih (i + 1) (by omega) (by omega) _ (hf.tr (((frK_a (by decide) : frK [283] [] μ2 _).wid (by decide) (by decide)).tr ((frK_a (by decide) : frK [284] [] _ _).wid (by decide) (by decide))))
        · have hi1 : 1 ≤ i := by
            rcases (by omega : i = 0 ∨ 1 ≤ i) with q | q
            · rw [q] at c79; exact absurd (sDir_0 xs ys) c79
            · exact q
          have a1 := (hP.keep hf (by decide) (by decide) (by decide)).2.2.1 i (by omega)
          have a2 := (hP.keep hf (by decide) (by decide) (by decide)).2.2.2 i (by omega)
          have a3 := (hP.keep hf (by decide) (by decide) (by decide)).2.2.1 (i - 1) (by omega)
          have a4 := (hP.keep hf (by decide) (by decide) (by decide)).2.2.2 (i - 1) (by omega)
          have b1 := rat_b hbx (i := i) (by omega) (by omega)
          have b2 := rat_b hby (i := i) (by omega) (by omega)
          have b3 := rat_b hbx (i := i - 1) (by omega) (by omega)
          have b4 := rat_b hby (i := i - 1) (by omega) (by omega)
          have q1 := iabs_r (x := rat xs i - rat xs (i - 1)) (by omega)
          have q2 := iabs_r (x := rat ys i - rat ys (i - 1)) (by omega)
          refine VW.aload_n dX8_canTurn_82 rfl ?_
          refine VW.getR dX8_canTurn_83 fa_X8_19 (by have := hm.1; omega) hm.2.1 rfl ?_
          refine VW.iload_n dX8_canTurn_86 rfl ?_
          refine VW.iaload dX8_canTurn_87 (by have := hm.1; omega) hm.2.2.2.2.2.1 (by omega) (by omega) (by decide) ?_
          refine VW.aload_n dX8_canTurn_88 rfl ?_
          refine VW.getR dX8_canTurn_89 fa_X8_19 (by have := hm.1; omega) hm.2.1 rfl ?_
          refine VW.iload_n dX8_canTurn_92 rfl ?_
          refine VW.iconst dX8_canTurn_93 ?_
          refine VW.isub dX8_canTurn_94 ?_
          refine VW.iaload dX8_canTurn_95 (by have := hm.1; omega) hm.2.2.2.2.2.1 (by omega) (by omega) (by decide) ?_
          rw [a1, a3]
          refine VW.isub dX8_canTurn_96 ?_
          refine VW.pS1 cs_X8_canTurn_X8_size dX8_canTurn_97 (Nat.le_of_ble_eq_true rfl) (t_size hst (v := rat xs i - rat xs (i - 1)) (by omega)) ?_
          refine VW.aload_n dX8_canTurn_100 rfl ?_
          refine VW.getR dX8_canTurn_101 fa_X8_22 (by have := hm.1; omega) hm.2.1 rfl ?_
          refine VW.iload_n dX8_canTurn_104 rfl ?_
          refine VW.iaload dX8_canTurn_105 (by have := hm.1; omega) hm.2.2.2.2.2.2.1 (by omega) (by omega) (by decide) ?_
          refine VW.aload_n dX8_canTurn_106 rfl ?_
          refine VW.getR dX8_canTurn_107 fa_X8_22 (by have := hm.1; omega) hm.2.1 rfl ?_
          refine VW.iload_n dX8_canTurn_110 rfl ?_
          refine VW.iconst dX8_canTurn_111 ?_
          refine VW.isub dX8_canTurn_112 ?_
          refine VW.iaload dX8_canTurn_113 (by have := hm.1; omega) hm.2.2.2.2.2.2.1 (by omega) (by omega) (by decide) ?_
          rw [a2, a4]
          refine VW.isub dX8_canTurn_114 ?_
          refine VW.pS1 cs_X8_canTurn_X8_size dX8_canTurn_115 (Nat.le_of_ble_eq_true rfl) (t_size hst (v := rat ys i - rat ys (i - 1)) (by omega)) ?_
          refine VW.isub dX8_canTurn_118 ?_
          refine VW.istore (lv' := [(0, _), (1, _), (2, _), (3, _), (4, _), (5, _), (6, _), (7, _), (8, _)]) dX8_canTurn_119 (by decide) rfl ?_
          refine VW.iload_n dX8_canTurn_121 rfl ?_
          refine VW.if_eq 141 (by decide) dX8_canTurn_122 (by decide) (fun _ => ?_) (fun c122 => absurd c122 (by decide))
          refine VW.iconst dX8_canTurn_141 ?_
          refine VW.istore_n (lv' := [(0, _), (1, _), (2, _), (3, _), (4, _), (5, _), (6, _), (7, _), (8, _)]) dX8_canTurn_142 (by decide) rfl ?_
          refine VW.iload dX8_canTurn_143 rfl ?_
          refine VW.iload dX8_canTurn_145 rfl ?_
          refine VW.iload_n dX8_canTurn_147 rfl ?_
          refine VW.iadd dX8_canTurn_148 ?_
          refine VW.pS1 cs_X8_canTurn_X8_across dX8_canTurn_149 (Nat.le_of_ble_eq_true rfl) (t_across hst (by omega)) ?_
          refine VW.iload dX8_canTurn_152 rfl ?_
          refine VW.imul dX8_canTurn_154 ?_
          refine VW.iadd dX8_canTurn_155 ?_
          refine VW.istore (lv' := [(0, _), (1, _), (2, _), (3, _), (4, _), (5, _), (6, _), (7, _), (8, _)]) dX8_canTurn_156 (by decide) rfl ?_
          refine VW.iload dX8_canTurn_158 rfl ?_
          refine VW.iload dX8_canTurn_160 rfl ?_
          refine VW.iload_n dX8_canTurn_162 rfl ?_
          refine VW.iadd dX8_canTurn_163 ?_
          refine VW.pS1 cs_X8_canTurn_X8_down dX8_canTurn_164 (Nat.le_of_ble_eq_true rfl) (t_down hst (by omega)) ?_
          refine VW.iload dX8_canTurn_167 rfl ?_
          refine VW.imul dX8_canTurn_169 ?_
          refine VW.iadd dX8_canTurn_170 ?_
          refine VW.istore (lv' := [(0, _), (1, _), (2, _), (3, _), (4, _), (5, _), (6, _), (7, _), (8, _)]) dX8_canTurn_171 (by decide) rfl ?_
          refine VW.iload_n dX8_canTurn_173 rfl ?_
          refine VW.if_eq 191 (by decide) dX8_canTurn_174 (by decide) (fun _ => ?_) (fun c174 => absurd c174 (by decide))
          refine VW.iconst dX8_canTurn_191 ?_
          refine VW.istore_n (lv' := [(0, _), (1, _), (2, _), (3, _), (4, _), (5, _), (6, _), (7, _), (8, _)]) dX8_canTurn_192 (by decide) rfl ?_
          refine VW.aload_n dX8_canTurn_193 rfl ?_
          refine VW.getR dX8_canTurn_194 fa_X8_37 (by have := hm.1; omega) hm.2.1 rfl ?_
          refine VW.iload_n dX8_canTurn_197 rfl ?_
          refine VW.iload dX8_canTurn_198 rfl ?_
          refine VW.iastore dX8_canTurn_200 (by have := hm.1; omega) hm.2.2.2.2.2.2.2.2.2.2.2.1 (by omega) (by omega) (by decide) ?_
          refine VW.aload_n dX8_canTurn_201 rfl ?_
          refine VW.getR dX8_canTurn_202 fa_X8_40 (by have := hm.1; omega) hm.2.1 rfl ?_
          refine VW.iload_n dX8_canTurn_205 rfl ?_
          refine VW.iload dX8_canTurn_206 rfl ?_
          refine VW.iastore dX8_canTurn_208 (by have := hm.1; omega) hm.2.2.2.2.2.2.2.2.2.2.2.2 (by omega) (by omega) (by decide) ?_
          refine VW.iinc (lv' := [(0, _), (1, _), (2, _), (3, _), (4, _), (5, _), (6, _), (7, _), (8, _)]) dX8_canTurn_209 rfl (by decide) rfl ?_
          refine VW.goto 8 dX8_canTurn_212 (by decide) ?_
          refine VW.sub ?_ [0, 1, 2, 3] rfl
          exact ih (i + 1) (by omega) (by omega) _ (hf.tr (((frK_a (by decide) : frK [283] [] μ2 _).wid (by decide) (by decide)).tr ((frK_a (by decide) : frK [284] [] _ _).wid (by decide) (by decide))))
      · refine VW.aload_n dX8_canTurn_57 rfl ?_
        refine VW.getR dX8_canTurn_58 fa_X8_22 (by have := hm.1; omega) hm.2.1 rfl ?_
        refine VW.iconst dX8_canTurn_61 ?_
        refine VW.iaload dX8_canTurn_62 (by have := hm.1; omega) hm.2.2.2.2.2.2.1 (by omega) (by omega) (by decide) ?_
        refine VW.goto 74 dX8_canTurn_63 (by decide) ?_
        refine VW.istore (lv' := [(0, _), (1, _), (2, _), (3, _), (4, _), (5, _), (6, _), (7, _)]) dX8_canTurn_74 (by decide) rfl ?_
        refine VW.iload dX8_canTurn_76 rfl ?_
        refine VW.iconst dX8_canTurn_78 ?_
        refine VW.icmp_eq 173 ⟨by omega, by omega⟩ ⟨by omega, by omega⟩ dX8_canTurn_79 (by decide) (fun c79 => ?_) (fun c79 => ?_)
        · refine VW.iload_n dX8_canTurn_173 rfl ?_
          refine VW.if_eq 191 (by decide) dX8_canTurn_174 (by decide) (fun _ => ?_) (fun c174 => absurd c174 (by decide))
          refine VW.iconst dX8_canTurn_191 ?_
          refine VW.istore_n (lv' := [(0, _), (1, _), (2, _), (3, _), (4, _), (5, _), (6, _), (7, _)]) dX8_canTurn_192 (by decide) rfl ?_
          refine VW.aload_n dX8_canTurn_193 rfl ?_
          refine VW.getR dX8_canTurn_194 fa_X8_37 (by have := hm.1; omega) hm.2.1 rfl ?_
          refine VW.iload_n dX8_canTurn_197 rfl ?_
          refine VW.iload dX8_canTurn_198 rfl ?_
          refine VW.iastore dX8_canTurn_200 (by have := hm.1; omega) hm.2.2.2.2.2.2.2.2.2.2.2.1 (by omega) (by omega) (by decide) ?_
          refine VW.aload_n dX8_canTurn_201 rfl ?_
          refine VW.getR dX8_canTurn_202 fa_X8_40 (by have := hm.1; omega) hm.2.1 rfl ?_
          refine VW.iload_n dX8_canTurn_205 rfl ?_
          refine VW.iload dX8_canTurn_206 rfl ?_
          refine VW.iastore dX8_canTurn_208 (by have := hm.1; omega) hm.2.2.2.2.2.2.2.2.2.2.2.2 (by omega) (by omega) (by decide) ?_
          refine VW.iinc (lv' := [(0, _), (1, _), (2, _), (3, _), (4, _), (5, _), (6, _), (7, _)]) dX8_canTurn_209 rfl (by decide) rfl ?_
          refine VW.goto 8 dX8_canTurn_212 (by decide) ?_
          refine VW.sub ?_ [0, 1, 2, 3] rfl
          exact ih (i + 1) (by omega) (by omega) _ (hf.tr (((frK_a (by decide) : frK [283] [] μ2 _).wid (by decide) (by decide)).tr ((frK_a (by decide) : frK [284] [] _ _).wid (by decide) (by decide))))
        · have hi1 : 1 ≤ i := by
            rcases (by omega : i = 0 ∨ 1 ≤ i) with q | q
            · rw [q] at c79; exact absurd (sDir_0 xs ys) c79
            · exact q
          have a1 := (hP.keep hf (by decide) (by decide) (by decide)).2.2.1 i (by omega)
          have a2 := (hP.keep hf (by decide) (by decide) (by decide)).2.2.2 i (by omega)
          have a3 := (hP.keep hf (by decide) (by decide) (by decide)).2.2.1 (i - 1) (by omega)
          have a4 := (hP.keep hf (by decide) (by decide) (by decide)).2.2.2 (i - 1) (by omega)
          have b1 := rat_b hbx (i := i) (by omega) (by omega)
          have b2 := rat_b hby (i := i) (by omega) (by omega)
          have b3 := rat_b hbx (i := i - 1) (by omega) (by omega)
          have b4 := rat_b hby (i := i - 1) (by omega) (by omega)
          have q1 := iabs_r (x := rat xs i - rat xs (i - 1)) (by omega)
          have q2 := iabs_r (x := rat ys i - rat ys (i - 1)) (by omega)
          refine VW.aload_n dX8_canTurn_82 rfl ?_
          refine VW.getR dX8_canTurn_83 fa_X8_19 (by have := hm.1; omega) hm.2.1 rfl ?_
          refine VW.iload_n dX8_canTurn_86 rfl ?_
          refine VW.iaload dX8_canTurn_87 (by have := hm.1; omega) hm.2.2.2.2.2.1 (by omega) (by omega) (by decide) ?_
          refine VW.aload_n dX8_canTurn_88 rfl ?_
          refine VW.getR dX8_canTurn_89 fa_X8_19 (by have := hm.1; omega) hm.2.1 rfl ?_
          refine VW.iload_n dX8_canTurn_92 rfl ?_
          refine VW.iconst dX8_canTurn_93 ?_
          refine VW.isub dX8_canTurn_94 ?_
          refine VW.iaload dX8_canTurn_95 (by have := hm.1; omega) hm.2.2.2.2.2.1 (by omega) (by omega) (by decide) ?_
          rw [a1, a3]
          refine VW.isub dX8_canTurn_96 ?_
          refine VW.pS1 cs_X8_canTurn_X8_size dX8_canTurn_97 (Nat.le_of_ble_eq_true rfl) (t_size hst (v := rat xs i - rat xs (i - 1)) (by omega)) ?_
          refine VW.aload_n dX8_canTurn_100 rfl ?_
          refine VW.getR dX8_canTurn_101 fa_X8_22 (by have := hm.1; omega) hm.2.1 rfl ?_
          refine VW.iload_n dX8_canTurn_104 rfl ?_
          refine VW.iaload dX8_canTurn_105 (by have := hm.1; omega) hm.2.2.2.2.2.2.1 (by omega) (by omega) (by decide) ?_
          refine VW.aload_n dX8_canTurn_106 rfl ?_
          refine VW.getR dX8_canTurn_107 fa_X8_22 (by have := hm.1; omega) hm.2.1 rfl ?_
          refine VW.iload_n dX8_canTurn_110 rfl ?_
          refine VW.iconst dX8_canTurn_111 ?_
          refine VW.isub dX8_canTurn_112 ?_
          refine VW.iaload dX8_canTurn_113 (by have := hm.1; omega) hm.2.2.2.2.2.2.1 (by omega) (by omega) (by decide) ?_
          rw [a2, a4]
          refine VW.isub dX8_canTurn_114 ?_
          refine VW.pS1 cs_X8_canTurn_X8_size dX8_canTurn_115 (Nat.le_of_ble_eq_true rfl) (t_size hst (v := rat ys i - rat ys (i - 1)) (by omega)) ?_
          refine VW.isub dX8_canTurn_118 ?_
          refine VW.istore (lv' := [(0, _), (1, _), (2, _), (3, _), (4, _), (5, _), (6, _), (7, _), (8, _)]) dX8_canTurn_119 (by decide) rfl ?_
          refine VW.iload_n dX8_canTurn_121 rfl ?_
          refine VW.if_eq 141 (by decide) dX8_canTurn_122 (by decide) (fun _ => ?_) (fun c122 => absurd c122 (by decide))
          refine VW.iconst dX8_canTurn_141 ?_
          refine VW.istore_n (lv' := [(0, _), (1, _), (2, _), (3, _), (4, _), (5, _), (6, _), (7, _), (8, _)]) dX8_canTurn_142 (by decide) rfl ?_
          refine VW.iload dX8_canTurn_143 rfl ?_
          refine VW.iload dX8_canTurn_145 rfl ?_
          refine VW.iload_n dX8_canTurn_147 rfl ?_
          refine VW.iadd dX8_canTurn_148 ?_
          refine VW.pS1 cs_X8_canTurn_X8_across dX8_canTurn_149 (Nat.le_of_ble_eq_true rfl) (t_across hst (by omega)) ?_
          refine VW.iload dX8_canTurn_152 rfl ?_
          refine VW.imul dX8_canTurn_154 ?_
          refine VW.iadd dX8_canTurn_155 ?_
          refine VW.istore (lv' := [(0, _), (1, _), (2, _), (3, _), (4, _), (5, _), (6, _), (7, _), (8, _)]) dX8_canTurn_156 (by decide) rfl ?_
          refine VW.iload dX8_canTurn_158 rfl ?_
          refine VW.iload dX8_canTurn_160 rfl ?_
          refine VW.iload_n dX8_canTurn_162 rfl ?_
          refine VW.iadd dX8_canTurn_163 ?_
          refine VW.pS1 cs_X8_canTurn_X8_down dX8_canTurn_164 (Nat.le_of_ble_eq_true rfl) (t_down hst (by omega)) ?_
          refine VW.iload dX8_canTurn_167 rfl ?_
          refine VW.imul dX8_canTurn_169 ?_
          refine VW.iadd dX8_canTurn_170 ?_
          refine VW.istore (lv' := [(0, _), (1, _), (2, _), (3, _), (4, _), (5, _), (6, _), (7, _), (8, _)]) dX8_canTurn_171 (by decide) rfl ?_
          refine VW.iload_n dX8_canTurn_173 rfl ?_
          refine VW.if_eq 191 (by decide) dX8_canTurn_174 (by decide) (fun _ => ?_) (fun c174 => absurd c174 (by decide))
          refine VW.iconst dX8_canTurn_191 ?_
          refine VW.istore_n (lv' := [(0, _), (1, _), (2, _), (3, _), (4, _), (5, _), (6, _), (7, _), (8, _)]) dX8_canTurn_192 (by decide) rfl ?_
          refine VW.aload_n dX8_canTurn_193 rfl ?_
          refine VW.getR dX8_canTurn_194 fa_X8_37 (by have := hm.1; omega) hm.2.1 rfl ?_
          refine VW.iload_n dX8_canTurn_197 rfl ?_
          refine VW.iload dX8_canTurn_198 rfl ?_
          refine VW.iastore dX8_canTurn_200 (by have := hm.1; omega) hm.2.2.2.2.2.2.2.2.2.2.2.1 (by omega) (by omega) (by decide) ?_
          refine VW.aload_n dX8_canTurn_201 rfl ?_
          refine VW.getR dX8_canTurn_202 fa_X8_40 (by have := hm.1; omega) hm.2.1 rfl ?_
          refine VW.iload_n dX8_canTurn_205 rfl ?_
          refine VW.iload dX8_canTurn_206 rfl ?_
          refine VW.iastore dX8_canTurn_208 (by have := hm.1; omega) hm.2.2.2.2.2.2.2.2.2.2.2.2 (by omega) (by omega) (by decide) ?_
          refine VW.iinc (lv' := [(0, _), (1, _), (2, _), (3, _), (4, _), (5, _), (6, _), (7, _), (8, _)]) dX8_canTurn_209 rfl (by decide) rfl ?_
          refine VW.goto 8 dX8_canTurn_212 (by decide) ?_
          refine VW.sub ?_ [0, 1, 2, 3] rfl
          exact ih (i + 1) (by omega) (by omega) _ (hf.tr (((frK_a (by decide) : frK [283] [] μ2 _).wid (by decide) (by decide)).tr ((frK_a (by decide) : frK [284] [] _ _).wid (by decide) (by decide))))
    · refine VW.aload_n dX8_canTurn_34 rfl ?_
      refine VW.getR dX8_canTurn_35 fa_X8_19 (by have := hm.1; omega) hm.2.1 rfl ?_
      refine VW.iconst dX8_canTurn_38 ?_
      refine VW.iaload dX8_canTurn_39 (by have := hm.1; omega) hm.2.2.2.2.2.1 (by omega) (by omega) (by decide) ?_
      refine VW.goto 51 dX8_canTurn_40 (by decide) ?_
      refine VW.istore (lv' := [(0, _), (1, _), (2, _), (3, _), (4, _), (5, _), (6, _)]) dX8_canTurn_51 (by decide) rfl ?_
      refine VW.iload_n dX8_canTurn_53 rfl ?_
      refine VW.if_ne 66 ⟨by omega, by omega⟩ dX8_canTurn_54 (by decide) (fun c54 => ?_) (fun c54 => ?_)
      · refine VW.aload_n dX8_canTurn_66 rfl ?_
        refine VW.getR dX8_canTurn_67 fa_X8_40 (by have := hm.1; omega) hm.2.1 rfl ?_
        refine VW.iload_n dX8_canTurn_70 rfl ?_
        refine VW.iconst dX8_canTurn_71 ?_
        refine VW.isub dX8_canTurn_72 ?_
        refine VW.iaload dX8_canTurn_73 (by have := hm.1; omega) hm.2.2.2.2.2.2.2.2.2.2.2.2 (by omega) (by omega) (by decide) ?_
        refine VW.istore (lv' := [(0, _), (1, _), (2, _), (3, _), (4, _), (5, _), (6, _), (7, _)]) dX8_canTurn_74 (by decide) rfl ?_
        refine VW.iload dX8_canTurn_76 rfl ?_
        refine VW.iconst dX8_canTurn_78 ?_
        refine VW.icmp_eq 173 ⟨by omega, by omega⟩ ⟨by omega, by omega⟩ dX8_canTurn_79 (by decide) (fun c79 => ?_) (fun c79 => ?_)
        · refine VW.iload_n dX8_canTurn_173 rfl ?_
          refine VW.if_eq 191 (by decide) dX8_canTurn_174 (by decide) (fun _ => ?_) (fun c174 => absurd c174 (by decide))
          refine VW.iconst dX8_canTurn_191 ?_
          refine VW.istore_n (lv' := [(0, _), (1, _), (2, _), (3, _), (4, _), (5, _), (6, _), (7, _)]) dX8_canTurn_192 (by decide) rfl ?_
          refine VW.aload_n dX8_canTurn_193 rfl ?_
          refine VW.getR dX8_canTurn_194 fa_X8_37 (by have := hm.1; omega) hm.2.1 rfl ?_
          refine VW.iload_n dX8_canTurn_197 rfl ?_
          refine VW.iload dX8_canTurn_198 rfl ?_
          refine VW.iastore dX8_canTurn_200 (by have := hm.1; omega) hm.2.2.2.2.2.2.2.2.2.2.2.1 (by omega) (by omega) (by decide) ?_
          refine VW.aload_n dX8_canTurn_201 rfl ?_
          refine VW.getR dX8_canTurn_202 fa_X8_40 (by have := hm.1; omega) hm.2.1 rfl ?_
          refine VW.iload_n dX8_canTurn_205 rfl ?_
          refine VW.iload dX8_canTurn_206 rfl ?_
          refine VW.iastore dX8_canTurn_208 (by have := hm.1; omega) hm.2.2.2.2.2.2.2.2.2.2.2.2 (by omega) (by omega) (by decide) ?_
          refine VW.iinc (lv' := [(0, _), (1, _), (2, _), (3, _), (4, _), (5, _), (6, _), (7, _)]) dX8_canTurn_209 rfl (by decide) rfl ?_
          refine VW.goto 8 dX8_canTurn_212 (by decide) ?_
          refine VW.sub ?_ [0, 1, 2, 3] rfl
          exact ih (i + 1) (by omega) (by omega) _ (hf.tr (((frK_a (by decide) : frK [283] [] μ2 _).wid (by decide) (by decide)).tr ((frK_a (by decide) : frK [284] [] _ _).wid (by decide) (by decide))))
        · have hi1 : 1 ≤ i := by
            rcases (by omega : i = 0 ∨ 1 ≤ i) with q | q
            · rw [q] at c79; exact absurd (sDir_0 xs ys) c79
            · exact q
          have a1 := (hP.keep hf (by decide) (by decide) (by decide)).2.2.1 i (by omega)
          have a2 := (hP.keep hf (by decide) (by decide) (by decide)).2.2.2 i (by omega)
          have a3 := (hP.keep hf (by decide) (by decide) (by decide)).2.2.1 (i - 1) (by omega)
          have a4 := (hP.keep hf (by decide) (by decide) (by decide)).2.2.2 (i - 1) (by omega)
          have b1 := rat_b hbx (i := i) (by omega) (by omega)
          have b2 := rat_b hby (i := i) (by omega) (by omega)
          have b3 := rat_b hbx (i := i - 1) (by omega) (by omega)
          have b4 := rat_b hby (i := i - 1) (by omega) (by omega)
          have q1 := iabs_r (x := rat xs i - rat xs (i - 1)) (by omega)
          have q2 := iabs_r (x := rat ys i - rat ys (i - 1)) (by omega)
          refine VW.aload_n dX8_canTurn_82 rfl ?_
          refine VW.getR dX8_canTurn_83 fa_X8_19 (by have := hm.1; omega) hm.2.1 rfl ?_
          refine VW.iload_n dX8_canTurn_86 rfl ?_
          refine VW.iaload dX8_canTurn_87 (by have := hm.1; omega) hm.2.2.2.2.2.1 (by omega) (by omega) (by decide) ?_
          refine VW.aload_n dX8_canTurn_88 rfl ?_
          refine VW.getR dX8_canTurn_89 fa_X8_19 (by have := hm.1; omega) hm.2.1 rfl ?_
          refine VW.iload_n dX8_canTurn_92 rfl ?_
          refine VW.iconst dX8_canTurn_93 ?_
          refine VW.isub dX8_canTurn_94 ?_
          refine VW.iaload dX8_canTurn_95 (by have := hm.1; omega) hm.2.2.2.2.2.1 (by omega) (by omega) (by decide) ?_
          rw [a1, a3]
          refine VW.isub dX8_canTurn_96 ?_
          refine VW.pS1 cs_X8_canTurn_X8_size dX8_canTurn_97 (Nat.le_of_ble_eq_true rfl) (t_size hst (v := rat xs i - rat xs (i - 1)) (by omega)) ?_
          refine VW.aload_n dX8_canTurn_100 rfl ?_
          refine VW.getR dX8_canTurn_101 fa_X8_22 (by have := hm.1; omega) hm.2.1 rfl ?_
          refine VW.iload_n dX8_canTurn_104 rfl ?_
          refine VW.iaload dX8_canTurn_105 (by have := hm.1; omega) hm.2.2.2.2.2.2.1 (by omega) (by omega) (by decide) ?_
          refine VW.aload_n dX8_canTurn_106 rfl ?_
          refine VW.getR dX8_canTurn_107 fa_X8_22 (by have := hm.1; omega) hm.2.1 rfl ?_
          refine VW.iload_n dX8_canTurn_110 rfl ?_
          refine VW.iconst dX8_canTurn_111 ?_
          refine VW.isub dX8_canTurn_112 ?_
          refine VW.iaload dX8_canTurn_113 (by have := hm.1; omega) hm.2.2.2.2.2.2.1 (by omega) (by omega) (by decide) ?_
          rw [a2, a4]
          refine VW.isub dX8_canTurn_114 ?_
          refine VW.pS1 cs_X8_canTurn_X8_size dX8_canTurn_115 (Nat.le_of_ble_eq_true rfl) (t_size hst (v := rat ys i - rat ys (i - 1)) (by omega)) ?_
          refine VW.isub dX8_canTurn_118 ?_
          refine VW.istore (lv' := [(0, _), (1, _), (2, _), (3, _), (4, _), (5, _), (6, _), (7, _), (8, _)]) dX8_canTurn_119 (by decide) rfl ?_
          refine VW.iload_n dX8_canTurn_121 rfl ?_
          refine VW.if_eq 141 (by decide) dX8_canTurn_122 (by decide) (fun _ => ?_) (fun c122 => absurd c122 (by decide))
          refine VW.iconst dX8_canTurn_141 ?_
          refine VW.istore_n (lv' := [(0, _), (1, _), (2, _), (3, _), (4, _), (5, _), (6, _), (7, _), (8, _)]) dX8_canTurn_142 (by decide) rfl ?_
          refine VW.iload dX8_canTurn_143 rfl ?_
          refine VW.iload dX8_canTurn_145 rfl ?_
          refine VW.iload_n dX8_canTurn_147 rfl ?_
          refine VW.iadd dX8_canTurn_148 ?_
          refine VW.pS1 cs_X8_canTurn_X8_across dX8_canTurn_149 (Nat.le_of_ble_eq_true rfl) (t_across hst (by omega)) ?_
          refine VW.iload dX8_canTurn_152 rfl ?_
          refine VW.imul dX8_canTurn_154 ?_
          refine VW.iadd dX8_canTurn_155 ?_
          refine VW.istore (lv' := [(0, _), (1, _), (2, _), (3, _), (4, _), (5, _), (6, _), (7, _), (8, _)]) dX8_canTurn_156 (by decide) rfl ?_
          refine VW.iload dX8_canTurn_158 rfl ?_
          refine VW.iload dX8_canTurn_160 rfl ?_
          refine VW.iload_n dX8_canTurn_162 rfl ?_
          refine VW.iadd dX8_canTurn_163 ?_
          refine VW.pS1 cs_X8_canTurn_X8_down dX8_canTurn_164 (Nat.le_of_ble_eq_true rfl) (t_down hst (by omega)) ?_
          refine VW.iload dX8_canTurn_167 rfl ?_
          refine VW.imul dX8_canTurn_169 ?_
          refine VW.iadd dX8_canTurn_170 ?_
          refine VW.istore (lv' := [(0, _), (1, _), (2, _), (3, _), (4, _), (5, _), (6, _), (7, _), (8, _)]) dX8_canTurn_171 (by decide) rfl ?_
          refine VW.iload_n dX8_canTurn_173 rfl ?_
          refine VW.if_eq 191 (by decide) dX8_canTurn_174 (by decide) (fun _ => ?_) (fun c174 => absurd c174 (by decide))
          refine VW.iconst dX8_canTurn_191 ?_
          refine VW.istore_n (lv' := [(0, _), (1, _), (2, _), (3, _), (4, _), (5, _), (6, _), (7, _), (8, _)]) dX8_canTurn_192 (by decide) rfl ?_
          refine VW.aload_n dX8_canTurn_193 rfl ?_
          refine VW.getR dX8_canTurn_194 fa_X8_37 (by have := hm.1; omega) hm.2.1 rfl ?_
          refine VW.iload_n dX8_canTurn_197 rfl ?_
          refine VW.iload dX8_canTurn_198 rfl ?_
          refine VW.iastore dX8_canTurn_200 (by have := hm.1; omega) hm.2.2.2.2.2.2.2.2.2.2.2.1 (by omega) (by omega) (by decide) ?_
          refine VW.aload_n dX8_canTurn_201 rfl ?_
          refine VW.getR dX8_canTurn_202 fa_X8_40 (by have := hm.1; omega) hm.2.1 rfl ?_
          refine VW.iload_n dX8_canTurn_205 rfl ?_
          refine VW.iload dX8_canTurn_206 rfl ?_
          refine VW.iastore dX8_canTurn_208 (by have := hm.1; omega) hm.2.2.2.2.2.2.2.2.2.2.2.2 (by omega) (by omega) (by decide) ?_
          refine VW.iinc (lv' := [(0, _), (1, _), (2, _), (3, _), (4, _), (5, _), (6, _), (7, _), (8, _)]) dX8_canTurn_209 rfl (by decide) rfl ?_
          refine VW.goto 8 dX8_canTurn_212 (by decide) ?_
          refine VW.sub ?_ [0, 1, 2, 3] rfl
          exact ih (i + 1) (by omega) (by omega) _ (hf.tr (((frK_a (by decide) : frK [283] [] μ2 _).wid (by decide) (by decide)).tr ((frK_a (by decide) : frK [284] [] _ _).wid (by decide) (by decide))))
      · refine VW.aload_n dX8_canTurn_57 rfl ?_
        refine VW.getR dX8_canTurn_58 fa_X8_22 (by have := hm.1; omega) hm.2.1 rfl ?_
        refine VW.iconst dX8_canTurn_61 ?_
        refine VW.iaload dX8_canTurn_62 (by have := hm.1; omega) hm.2.2.2.2.2.2.1 (by omega) (by omega) (by decide) ?_
        refine VW.goto 74 dX8_canTurn_63 (by decide) ?_
        refine VW.istore (lv' := [(0, _), (1, _), (2, _), (3, _), (4, _), (5, _), (6, _), (7, _)]) dX8_canTurn_74 (by decide) rfl ?_
        refine VW.iload dX8_canTurn_76 rfl ?_
        refine VW.iconst dX8_canTurn_78 ?_
        refine VW.icmp_eq 173 ⟨by omega, by omega⟩ ⟨by omega, by omega⟩ dX8_canTurn_79 (by decide) (fun c79 => ?_) (fun c79 => ?_)
        · refine VW.iload_n dX8_canTurn_173 rfl ?_
          refine VW.if_eq 191 (by decide) dX8_canTurn_174 (by decide) (fun _ => ?_) (fun c174 => absurd c174 (by decide))
          refine VW.iconst dX8_canTurn_191 ?_
          refine VW.istore_n (lv' := [(0, _), (1, _), (2, _), (3, _), (4, _), (5, _), (6, _), (7, _)]) dX8_canTurn_192 (by decide) rfl ?_
          refine VW.aload_n dX8_canTurn_193 rfl ?_
          refine VW.getR dX8_canTurn_194 fa_X8_37 (by have := hm.1; omega) hm.2.1 rfl ?_
          refine VW.iload_n dX8_canTurn_197 rfl ?_
          refine VW.iload dX8_canTurn_198 rfl ?_
          refine VW.iastore dX8_canTurn_200 (by have := hm.1; omega) hm.2.2.2.2.2.2.2.2.2.2.2.1 (by omega) (by omega) (by decide) ?_
          refine VW.aload_n dX8_canTurn_201 rfl ?_
          refine VW.getR dX8_canTurn_202 fa_X8_40 (by have := hm.1; omega) hm.2.1 rfl ?_
          refine VW.iload_n dX8_canTurn_205 rfl ?_
          refine VW.iload dX8_canTurn_206 rfl ?_
          refine VW.iastore dX8_canTurn_208 (by have := hm.1; omega) hm.2.2.2.2.2.2.2.2.2.2.2.2 (by omega) (by omega) (by decide) ?_
          refine VW.iinc (lv' := [(0, _), (1, _), (2, _), (3, _), (4, _), (5, _), (6, _), (7, _)]) dX8_canTurn_209 rfl (by decide) rfl ?_
          refine VW.goto 8 dX8_canTurn_212 (by decide) ?_
          refine VW.sub ?_ [0, 1, 2, 3] rfl
          exact ih (i + 1) (by omega) (by omega) _ (hf.tr (((frK_a (by decide) : frK [283] [] μ2 _).wid (by decide) (by decide)).tr ((frK_a (by decide) : frK [284] [] _ _).wid (by decide) (by decide))))
        · have hi1 : 1 ≤ i := by
            rcases (by omega : i = 0 ∨ 1 ≤ i) with q | q
            · rw [q] at c79; exact absurd (sDir_0 xs ys) c79
            · exact q
          have a1 := (hP.keep hf (by decide) (by decide) (by decide)).2.2.1 i (by omega)
          have a2 := (hP.keep hf (by decide) (by decide) (by decide)).2.2.2 i (by omega)
          have a3 := (hP.keep hf (by decide) (by decide) (by decide)).2.2.1 (i - 1) (by omega)
          have a4 := (hP.keep hf (by decide) (by decide) (by decide)).2.2.2 (i - 1) (by omega)
          have b1 := rat_b hbx (i := i) (by omega) (by omega)
          have b2 := rat_b hby (i := i) (by omega) (by omega)
          have b3 := rat_b hbx (i := i - 1) (by omega) (by omega)
          have b4 := rat_b hby (i := i - 1) (by omega) (by omega)
          have q1 := iabs_r (x := rat xs i - rat xs (i - 1)) (by omega)
          have q2 := iabs_r (x := rat ys i - rat ys (i - 1)) (by omega)
          refine VW.aload_n dX8_canTurn_82 rfl ?_
          refine VW.getR dX8_canTurn_83 fa_X8_19 (by have := hm.1; omega) hm.2.1 rfl ?_
          refine VW.iload_n dX8_canTurn_86 rfl ?_
          refine VW.iaload dX8_canTurn_87 (by have := hm.1; omega) hm.2.2.2.2.2.1 (by omega) (by omega) (by decide) ?_
          refine VW.aload_n dX8_canTurn_88 rfl ?_
          refine VW.getR dX8_canTurn_89 fa_X8_19 (by have := hm.1; omega) hm.2.1 rfl ?_
          refine VW.iload_n dX8_canTurn_92 rfl ?_
          refine VW.iconst dX8_canTurn_93 ?_
          refine VW.isub dX8_canTurn_94 ?_
          refine VW.iaload dX8_canTurn_95 (by have := hm.1; omega) hm.2.2.2.2.2.1 (by omega) (by omega) (by decide) ?_
          rw [a1, a3]
          refine VW.isub dX8_canTurn_96 ?_
          refine VW.pS1 cs_X8_canTurn_X8_size dX8_canTurn_97 (Nat.le_of_ble_eq_true rfl) (t_size hst (v := rat xs i - rat xs (i - 1)) (by omega)) ?_
          refine VW.aload_n dX8_canTurn_100 rfl ?_
          refine VW.getR dX8_canTurn_101 fa_X8_22 (by have := hm.1; omega) hm.2.1 rfl ?_
          refine VW.iload_n dX8_canTurn_104 rfl ?_
          refine VW.iaload dX8_canTurn_105 (by have := hm.1; omega) hm.2.2.2.2.2.2.1 (by omega) (by omega) (by decide) ?_
          refine VW.aload_n dX8_canTurn_106 rfl ?_
          refine VW.getR dX8_canTurn_107 fa_X8_22 (by have := hm.1; omega) hm.2.1 rfl ?_
          refine VW.iload_n dX8_canTurn_110 rfl ?_
          refine VW.iconst dX8_canTurn_111 ?_
          refine VW.isub dX8_canTurn_112 ?_
          refine VW.iaload dX8_canTurn_113 (by have := hm.1; omega) hm.2.2.2.2.2.2.1 (by omega) (by omega) (by decide) ?_
          rw [a2, a4]
          refine VW.isub dX8_canTurn_114 ?_
          refine VW.pS1 cs_X8_canTurn_X8_size dX8_canTurn_115 (Nat.le_of_ble_eq_true rfl) (t_size hst (v := rat ys i - rat ys (i - 1)) (by omega)) ?_
          refine VW.isub dX8_canTurn_118 ?_
          refine VW.istore (lv' := [(0, _), (1, _), (2, _), (3, _), (4, _), (5, _), (6, _), (7, _), (8, _)]) dX8_canTurn_119 (by decide) rfl ?_
          refine VW.iload_n dX8_canTurn_121 rfl ?_
          refine VW.if_eq 141 (by decide) dX8_canTurn_122 (by decide) (fun _ => ?_) (fun c122 => absurd c122 (by decide))
          refine VW.iconst dX8_canTurn_141 ?_
          refine VW.istore_n (lv' := [(0, _), (1, _), (2, _), (3, _), (4, _), (5, _), (6, _), (7, _), (8, _)]) dX8_canTurn_142 (by decide) rfl ?_
          refine VW.iload dX8_canTurn_143 rfl ?_
          refine VW.iload dX8_canTurn_145 rfl ?_
          refine VW.iload_n dX8_canTurn_147 rfl ?_
          refine VW.iadd dX8_canTurn_148 ?_
          refine VW.pS1 cs_X8_canTurn_X8_across dX8_canTurn_149 (Nat.le_of_ble_eq_true rfl) (t_across hst (by omega)) ?_
          refine VW.iload dX8_canTurn_152 rfl ?_
          refine VW.imul dX8_canTurn_154 ?_
          refine VW.iadd dX8_canTurn_155 ?_
          refine VW.istore (lv' := [(0, _), (1, _), (2, _), (3, _), (4, _), (5, _), (6, _), (7, _), (8, _)]) dX8_canTurn_156 (by decide) rfl ?_
          refine VW.iload dX8_canTurn_158 rfl ?_
          refine VW.iload dX8_canTurn_160 rfl ?_
          refine VW.iload_n dX8_canTurn_162 rfl ?_
          refine VW.iadd dX8_canTurn_163 ?_
          refine VW.pS1 cs_X8_canTurn_X8_down dX8_canTurn_164 (Nat.le_of_ble_eq_true rfl) (t_down hst (by omega)) ?_
          refine VW.iload dX8_canTurn_167 rfl ?_
          refine VW.imul dX8_canTurn_169 ?_
          refine VW.iadd dX8_canTurn_170 ?_
          refine VW.istore (lv' := [(0, _), (1, _), (2, _), (3, _), (4, _), (5, _), (6, _), (7, _), (8, _)]) dX8_canTurn_171 (by decide) rfl ?_
          refine VW.iload_n dX8_canTurn_173 rfl ?_
          refine VW.if_eq 191 (by decide) dX8_canTurn_174 (by decide) (fun _ => ?_) (fun c174 => absurd c174 (by decide))
          refine VW.iconst dX8_canTurn_191 ?_
          refine VW.istore_n (lv' := [(0, _), (1, _), (2, _), (3, _), (4, _), (5, _), (6, _), (7, _), (8, _)]) dX8_canTurn_192 (by decide) rfl ?_
          refine VW.aload_n dX8_canTurn_193 rfl ?_
          refine VW.getR dX8_canTurn_194 fa_X8_37 (by have := hm.1; omega) hm.2.1 rfl ?_
          refine VW.iload_n dX8_canTurn_197 rfl ?_
          refine VW.iload dX8_canTurn_198 rfl ?_
          refine VW.iastore dX8_canTurn_200 (by have := hm.1; omega) hm.2.2.2.2.2.2.2.2.2.2.2.1 (by omega) (by omega) (by decide) ?_
          refine VW.aload_n dX8_canTurn_201 rfl ?_
          refine VW.getR dX8_canTurn_202 fa_X8_40 (by have := hm.1; omega) hm.2.1 rfl ?_
          refine VW.iload_n dX8_canTurn_205 rfl ?_
          refine VW.iload dX8_canTurn_206 rfl ?_
          refine VW.iastore dX8_canTurn_208 (by have := hm.1; omega) hm.2.2.2.2.2.2.2.2.2.2.2.2 (by omega) (by omega) (by decide) ?_
          refine VW.iinc (lv' := [(0, _), (1, _), (2, _), (3, _), (4, _), (5, _), (6, _), (7, _), (8, _)]) dX8_canTurn_209 rfl (by decide) rfl ?_
          refine VW.goto 8 dX8_canTurn_212 (by decide) ?_
          refine VW.sub ?_ [0, 1, 2, 3] rfl
          exact ih (i + 1) (by omega) (by omega) _ (hf.tr (((frK_a (by decide) : frK [283] [] μ2 _).wid (by decide) (by decide)).tr ((frK_a (by decide) : frK [284] [] _ _).wid (by decide) (by decide))))
theorem tnL_s {n : Nat} {i x y x' y' : Int} {tx ty : List Int} (hx : tX xs ys e i x = x') (hy : tY xs ys e i y = y') : tnL xs ys e (n + 1) i x y tx ty = if isEven xs ys i = true ∧ onLat x' y' = true then tnL xs ys e n (i + 1) x' y' (tx ++ [x']) (ty ++ [y']) else none := by
  subst hx
  subst hy
  rfl
theorem lp_X8_ctT (hst : l.stackTraces = false) (hm : isM N sh) (hP : hasMP μ xs ys) (hbx : bnd xs 0 31) (hby : bnd ys 0 31) (hl : xs.length ≤ 40) (he : 1 ≤ e ∧ e < 8) : ∀ (n : Nat) (i x y : Int) (tx ty : List Int), 0 ≤ i → i + n = xs.length → ∀ μ2 : Mem, turnOf xs ys e = tnL xs ys e n i x y tx ty → arr μ2 283 tx → arr μ2 284 ty → (tx.length : Int) = i → (ty.length : Int) = i → (-1 ≤ x ∧ x ≤ 31) → (-1 ≤ y ∧ y ≤ 31) → (1 ≤ i → x = rat tx (i - 1) ∧ y = rat ty (i - 1)) → (i = 0 → x = rat xs 0 ∧ y = rat ys 0) → frK [283, 284] [] μ μ2 → VW G l none M_X8_canTurn 8 [(0, .ref (gB G + 273)), (1, vI e), (2, vI 1), (3, vI i)] [] (N, sh, μ2) 0 0 (fxP N sh (oN (vN_i (fun r μ' => r = bI (turnOf xs ys e).isSome ∧ (∀ q, turnOf xs ys e = some q → arr μ' 283 q.1 ∧ arr μ' 284 q.2) ∧ frK [283, 284] [] μ μ')))) := by
  intro n
  induction n with
  | zero =>
    intro i x y tx ty h1 h2 μ2 ht h3 h4 h5 h6 hx hy h7 h8 hf
    refine VW.iload_n dX8_canTurn_8 rfl ?_
    have h9 : μ2 273 8 = (xs.length : Int) := (hP.keep hf (by decide) (by decide) (by decide)).1
    refine VW.aload_n dX8_canTurn_9 rfl ?_
    refine VW.getI dX8_canTurn_10 fa_X8_64 (by have := hm.1; omega) hm.2.1 rfl ?_
    refine VW.icmp_ge 215 ⟨by omega, by omega⟩ ⟨by omega, by omega⟩ dX8_canTurn_13 (by decide) (fun c13 => ?_) (fun c13 => by omega)
    refine VW.iload_n dX8_canTurn_215 rfl ?_
    refine VW.ireturn dX8_canTurn_216 rfl rfl ?_
    rw [ht]
    exact fxP.ii ⟨rfl, fun q hq => (by cases hq; exact ⟨h3, h4⟩), hf⟩
  | succ n ih =>
    intro i x y tx ty h1 h2 μ2 ht h3 h4 h5 h6 hx hy h7 h8 hf
    by_cases hi0 : i = 0
    · have hd0 : sDir xs ys i = -1 := by rw [hi0]; exact sDir_0 xs ys
      refine VW.iload_n dX8_canTurn_8 rfl ?_
      have h9 : μ2 273 8 = (xs.length : Int) := (hP.keep hf (by decide) (by decide) (by decide)).1
      refine VW.aload_n dX8_canTurn_9 rfl ?_
      refine VW.getI dX8_canTurn_10 fa_X8_64 (by have := hm.1; omega) hm.2.1 rfl ?_
      refine VW.icmp_ge 215 ⟨by omega, by omega⟩ ⟨by omega, by omega⟩ dX8_canTurn_13 (by decide) (fun c13 => by omega) (fun c13 => ?_)
      have hdb := sDir_b xs ys i
      have hlb := sLen_b hbx hby i
      have hle := hP.2.1
      have a5 := (hP.keep hf (by decide) (by decide) (by decide)).2.2.1 0 (by omega)
      have a6 := (hP.keep hf (by decide) (by decide) (by decide)).2.2.2 0 (by omega)
      have h8' := h8 hi0
      refine VW.aload_n dX8_canTurn_16 rfl ?_
      refine VW.iload_n dX8_canTurn_17 rfl ?_
      refine VW.pV1 cv_X8_canTurn_X8_stepDirection dX8_canTurn_18 (Nat.le_of_ble_eq_true rfl) (by have := hm.1; omega) hm.2.1 (t_stepDirection hst hm (hP.keep hf (by decide) (by decide) (by decide)) hbx hby (by omega) ⟨by omega, by omega⟩) ?_
      refine VW.istore (lv' := [(0, _), (1, _), (2, _), (3, _), (4, _)]) dX8_canTurn_21 (by decide) rfl ?_
      refine VW.aload_n dX8_canTurn_23 rfl ?_
      refine VW.iload_n dX8_canTurn_24 rfl ?_
      refine VW.pV1 cv_X8_canTurn_X8_stepLength dX8_canTurn_25 (Nat.le_of_ble_eq_true rfl) (by have := hm.1; omega) hm.2.1 (t_stepLength hst hm (hP.keep hf (by decide) (by decide) (by decide)) hbx hby (by omega) ⟨by omega, by omega⟩) ?_
      refine VW.istore (lv' := [(0, _), (1, _), (2, _), (3, _), (4, _), (5, _)]) dX8_canTurn_28 (by decide) rfl ?_
      refine VW.iload_n dX8_canTurn_30 rfl ?_
      refine VW.if_ne 43 ⟨by omega, by omega⟩ dX8_canTurn_31 (by decide) (fun c31 => by omega) (fun c31 => ?_)
      refine VW.aload_n dX8_canTurn_34 rfl ?_
      refine VW.getR dX8_canTurn_35 fa_X8_19 (by have := hm.1; omega) hm.2.1 rfl ?_
      refine VW.iconst dX8_canTurn_38 ?_
      refine VW.iaload dX8_canTurn_39 (by have := hm.1; omega) hm.2.2.2.2.2.1 (by omega) (by omega) (by decide) ?_
      rw [a5, ← h8'.1]
      refine VW.goto 51 dX8_canTurn_40 (by decide) ?_
      refine VW.istore (lv' := [(0, _), (1, _), (2, _), (3, _), (4, _), (5, _), (6, _)]) dX8_canTurn_51 (by decide) rfl ?_
      refine VW.iload_n dX8_canTurn_53 rfl ?_
      refine VW.if_ne 66 ⟨by omega, by omega⟩ dX8_canTurn_54 (by decide) (fun c54 => by omega) (fun c54 => ?_)
      refine VW.aload_n dX8_canTurn_57 rfl ?_
      refine VW.getR dX8_canTurn_58 fa_X8_22 (by have := hm.1; omega) hm.2.1 rfl ?_
      refine VW.iconst dX8_canTurn_61 ?_
      refine VW.iaload dX8_canTurn_62 (by have := hm.1; omega) hm.2.2.2.2.2.2.1 (by omega) (by omega) (by decide) ?_
      rw [a6, ← h8'.2]
      refine VW.goto 74 dX8_canTurn_63 (by decide) ?_
      refine VW.istore (lv' := [(0, _), (1, _), (2, _), (3, _), (4, _), (5, _), (6, _), (7, _)]) dX8_canTurn_74 (by decide) rfl ?_
      refine VW.iload dX8_canTurn_76 rfl ?_
      refine VW.iconst dX8_canTurn_78 ?_
      refine VW.icmp_eq 173 ⟨by omega, by omega⟩ ⟨by omega, by omega⟩ dX8_canTurn_79 (by decide) (fun c79 => ?_) (fun c79 => by omega)
      refine VW.iload_n dX8_canTurn_173 rfl ?_
      refine VW.if_eq 191 (by decide) dX8_canTurn_174 (by decide) (fun c174 => absurd c174 (by decide)) (fun _ => ?_)
      refine VW.iload dX8_canTurn_177 rfl ?_
      refine VW.iload dX8_canTurn_179 rfl ?_
      refine VW.pS2 cs_X8_canTurn_X8_isOnLattice dX8_canTurn_181 (Nat.le_of_ble_eq_true rfl) (t_isOnLattice hst ⟨by omega, by omega⟩ ⟨by omega, by omega⟩) ?_
      refine VW.if_eq 191 (bR2 _) dX8_canTurn_184 (by decide) (fun c184 => ?_) (fun c184 => ?_)
      · refine VW.iconst dX8_canTurn_191 ?_
        refine VW.istore_n (lv' := [(0, _), (1, _), (2, _), (3, _), (4, _), (5, _), (6, _), (7, _)]) dX8_canTurn_192 (by decide) rfl ?_
        refine VW.aload_n dX8_canTurn_193 rfl ?_
        refine VW.getR dX8_canTurn_194 fa_X8_37 (by have := hm.1; omega) hm.2.1 rfl ?_
        refine VW.iload_n dX8_canTurn_197 rfl ?_
        refine VW.iload dX8_canTurn_198 rfl ?_
        refine VW.iastore dX8_canTurn_200 (by have := hm.1; omega) hm.2.2.2.2.2.2.2.2.2.2.2.1 (by omega) (by omega) (by decide) ?_
        refine VW.aload_n dX8_canTurn_201 rfl ?_
        refine VW.getR dX8_canTurn_202 fa_X8_40 (by have := hm.1; omega) hm.2.1 rfl ?_
        refine VW.iload_n dX8_canTurn_205 rfl ?_
        refine VW.iload dX8_canTurn_206 rfl ?_
        refine VW.iastore dX8_canTurn_208 (by have := hm.1; omega) hm.2.2.2.2.2.2.2.2.2.2.2.2 (by omega) (by omega) (by decide) ?_
        refine VW.iinc (lv' := [(0, _), (1, _), (2, _), (3, _), (4, _), (5, _), (6, _), (7, _)]) dX8_canTurn_209 rfl (by decide) rfl ?_
        refine VW.goto 8 dX8_canTurn_212 (by decide) ?_
        refine VW.sub ?_ [0, 1, 2, 3] rfl
        have g1 : frK [283] [] μ2 (mup μ2 283 i.toNat x) := frK_a (by decide)
        have g2 : frK [284] [] (mup μ2 283 i.toNat x) (mup (mup μ2 283 i.toNat x) 284 i.toNat y) := frK_a (by decide)
        have g12 : frK [283, 284] [] μ2 (mup (mup μ2 283 i.toNat x) 284 i.toNat y) := (g1.wid (by decide) (by decide)).tr (g2.wid (by decide) (by decide))
        have ht' := ht.trans (tnL_s (x' := x) (y' := y) (if_pos c79) (if_pos c79))
        first
        | (rw [if_neg (by rintro ⟨-, w⟩; exact absurd c184 (by simp [bI0, w]))] at ht'
           exact lp_X8_ctF hst hm hP hbx hby hl he ht' n (i + 1) (by omega) (by omega) (mup (mup μ2 283 i.toNat x) 284 i.toNat y) (hf.tr g12))
        | (rw [if_neg (by rintro ⟨w, -⟩; rw [even_dir xs ys c79] at w; have d1 : dif xs i = rat xs i - rat xs (i - 1) := (if_neg (by omega)); have d2 : dif ys i = rat ys i - rat ys (i - 1) := (if_neg (by omega)); rw [d1, d2] at w; omega)] at ht'
           exact lp_X8_ctF hst hm hP hbx hby hl he ht' n (i + 1) (by omega) (by omega) (mup (mup μ2 283 i.toNat x) 284 i.toNat y) (hf.tr g12))
      · refine VW.iconst dX8_canTurn_187 ?_
        refine VW.goto 192 dX8_canTurn_188 (by decide) ?_
        refine VW.istore_n (lv' := [(0, _), (1, _), (2, _), (3, _), (4, _), (5, _), (6, _), (7, _)]) dX8_canTurn_192 (by decide) rfl ?_
        refine VW.aload_n dX8_canTurn_193 rfl ?_
        refine VW.getR dX8_canTurn_194 fa_X8_37 (by have := hm.1; omega) hm.2.1 rfl ?_
        refine VW.iload_n dX8_canTurn_197 rfl ?_
        refine VW.iload dX8_canTurn_198 rfl ?_
        refine VW.iastore dX8_canTurn_200 (by have := hm.1; omega) hm.2.2.2.2.2.2.2.2.2.2.2.1 (by omega) (by omega) (by decide) ?_
        refine VW.aload_n dX8_canTurn_201 rfl ?_
        refine VW.getR dX8_canTurn_202 fa_X8_40 (by have := hm.1; omega) hm.2.1 rfl ?_
        refine VW.iload_n dX8_canTurn_205 rfl ?_
        refine VW.iload dX8_canTurn_206 rfl ?_
        refine VW.iastore dX8_canTurn_208 (by have := hm.1; omega) hm.2.2.2.2.2.2.2.2.2.2.2.2 (by omega) (by omega) (by decide) ?_
        refine VW.iinc (lv' := [(0, _), (1, _), (2, _), (3, _), (4, _), (5, _), (6, _), (7, _)]) dX8_canTurn_209 rfl (by decide) rfl ?_
        refine VW.goto 8 dX8_canTurn_212 (by decide) ?_
        refine VW.sub ?_ [0, 1, 2, 3] rfl
        have g1 : frK [283] [] μ2 (mup μ2 283 i.toNat x) := frK_a (by decide)
        have g2 : frK [284] [] (mup μ2 283 i.toNat x) (mup (mup μ2 283 i.toNat x) 284 i.toNat y) := frK_a (by decide)
        have g12 : frK [283, 284] [] μ2 (mup (mup μ2 283 i.toNat x) 284 i.toNat y) := (g1.wid (by decide) (by decide)).tr (g2.wid (by decide) (by decide))
        have ht' := ht.trans (tnL_s (x' := x) (y' := y) (if_pos c79) (if_pos c79))
        have hE : isEven xs ys i = true := (even_no xs ys c79)
        have hO : onLat x y = true := Classical.not_not.mp (fun w => c184 (bI0.mpr w))
        have hon := onL hO
        rw [if_pos ⟨hE, hO⟩] at ht'
        refine ih (i + 1) x y (tx ++ [x]) (ty ++ [y]) (by omega) (by omega) (mup (mup μ2 283 i.toNat x) 284 i.toNat y) ht' ?_ ?_ (by simp; omega) (by simp; omega) (by omega) (by omega) (fun _ => ⟨?_, ?_⟩) (fun w => by omega) (hf.tr g12)
        · have pp := h3.push (v := x)
          rw [show tx.length = i.toNat by omega] at pp
          exact pp.keep g2 (by decide) (by decide)
        · have pp := (h4.keep g1 (by decide) (by decide)).push (v := y)
          rw [show ty.length = i.toNat by omega] at pp
          exact pp
        · rw [rat_snoc, if_pos (by omega)]
        · rw [rat_snoc, if_pos (by omega)]
    · have h7' := h7 (by omega)
      refine VW.iload_n dX8_canTurn_8 rfl ?_
      have h9 : μ2 273 8 = (xs.length : Int) := (hP.keep hf (by decide) (by decide) (by decide)).1
      refine VW.aload_n dX8_canTurn_9 rfl ?_
      refine VW.getI dX8_canTurn_10 fa_X8_64 (by have := hm.1; omega) hm.2.1 rfl ?_
      refine VW.icmp_ge 215 ⟨by omega, by omega⟩ ⟨by omega, by omega⟩ dX8_canTurn_13 (by decide) (fun c13 => by omega) (fun c13 => ?_)
      have hdb := sDir_b xs ys i
      have hlb := sLen_b hbx hby i
      have hle := hP.2.1
      have a5 := h3 (i - 1) (by omega)
      have a6 := h4 (i - 1) (by omega)
      refine VW.aload_n dX8_canTurn_16 rfl ?_
      refine VW.iload_n dX8_canTurn_17 rfl ?_
      refine VW.pV1 cv_X8_canTurn_X8_stepDirection dX8_canTurn_18 (Nat.le_of_ble_eq_true rfl) (by have := hm.1; omega) hm.2.1 (t_stepDirection hst hm (hP.keep hf (by decide) (by decide) (by decide)) hbx hby (by omega) ⟨by omega, by omega⟩) ?_
      refine VW.istore (lv' := [(0, _), (1, _), (2, _), (3, _), (4, _)]) dX8_canTurn_21 (by decide) rfl ?_
      refine VW.aload_n dX8_canTurn_23 rfl ?_
      refine VW.iload_n dX8_canTurn_24 rfl ?_
      refine VW.pV1 cv_X8_canTurn_X8_stepLength dX8_canTurn_25 (Nat.le_of_ble_eq_true rfl) (by have := hm.1; omega) hm.2.1 (t_stepLength hst hm (hP.keep hf (by decide) (by decide) (by decide)) hbx hby (by omega) ⟨by omega, by omega⟩) ?_
      refine VW.istore (lv' := [(0, _), (1, _), (2, _), (3, _), (4, _), (5, _)]) dX8_canTurn_28 (by decide) rfl ?_
      refine VW.iload_n dX8_canTurn_30 rfl ?_
      refine VW.if_ne 43 ⟨by omega, by omega⟩ dX8_canTurn_31 (by decide) (fun c31 => ?_) (fun c31 => by omega)
      refine VW.aload_n dX8_canTurn_43 rfl ?_
      refine VW.getR dX8_canTurn_44 fa_X8_37 (by have := hm.1; omega) hm.2.1 rfl ?_
      refine VW.iload_n dX8_canTurn_47 rfl ?_
      refine VW.iconst dX8_canTurn_48 ?_
      refine VW.isub dX8_canTurn_49 ?_
      refine VW.iaload dX8_canTurn_50 (by have := hm.1; omega) hm.2.2.2.2.2.2.2.2.2.2.2.1 (by omega) (by omega) (by decide) ?_
      rw [a5, ← h7'.1]
      refine VW.istore (lv' := [(0, _), (1, _), (2, _), (3, _), (4, _), (5, _), (6, _)]) dX8_canTurn_51 (by decide) rfl ?_
      refine VW.iload_n dX8_canTurn_53 rfl ?_
      refine VW.if_ne 66 ⟨by omega, by omega⟩ dX8_canTurn_54 (by decide) (fun c54 => ?_) (fun c54 => by omega)
      refine VW.aload_n dX8_canTurn_66 rfl ?_
      refine VW.getR dX8_canTurn_67 fa_X8_40 (by have := hm.1; omega) hm.2.1 rfl ?_
      refine VW.iload_n dX8_canTurn_70 rfl ?_
      refine VW.iconst dX8_canTurn_71 ?_
      refine VW.isub dX8_canTurn_72 ?_
      refine VW.iaload dX8_canTurn_73 (by have := hm.1; omega) hm.2.2.2.2.2.2.2.2.2.2.2.2 (by omega) (by omega) (by decide) ?_
      rw [a6, ← h7'.2]
      refine VW.istore (lv' := [(0, _), (1, _), (2, _), (3, _), (4, _), (5, _), (6, _), (7, _)]) dX8_canTurn_74 (by decide) rfl ?_
      refine VW.iload dX8_canTurn_76 rfl ?_
      refine VW.iconst dX8_canTurn_78 ?_
      refine VW.icmp_eq 173 ⟨by omega, by omega⟩ ⟨by omega, by omega⟩ dX8_canTurn_79 (by decide) (fun c79 => ?_) (fun c79 => ?_)
      · refine VW.iload_n dX8_canTurn_173 rfl ?_
        refine VW.if_eq 191 (by decide) dX8_canTurn_174 (by decide) (fun c174 => absurd c174 (by decide)) (fun _ => ?_)
        refine VW.iload dX8_canTurn_177 rfl ?_
        refine VW.iload dX8_canTurn_179 rfl ?_
        refine VW.pS2 cs_X8_canTurn_X8_isOnLattice dX8_canTurn_181 (Nat.le_of_ble_eq_true rfl) (t_isOnLattice hst ⟨by omega, by omega⟩ ⟨by omega, by omega⟩) ?_
        refine VW.if_eq 191 (bR2 _) dX8_canTurn_184 (by decide) (fun c184 => ?_) (fun c184 => ?_)
        · refine VW.iconst dX8_canTurn_191 ?_
          refine VW.istore_n (lv' := [(0, _), (1, _), (2, _), (3, _), (4, _), (5, _), (6, _), (7, _)]) dX8_canTurn_192 (by decide) rfl ?_
          refine VW.aload_n dX8_canTurn_193 rfl ?_
          refine VW.getR dX8_canTurn_194 fa_X8_37 (by have := hm.1; omega) hm.2.1 rfl ?_
          refine VW.iload_n dX8_canTurn_197 rfl ?_
          refine VW.iload dX8_canTurn_198 rfl ?_
          refine VW.iastore dX8_canTurn_200 (by have := hm.1; omega) hm.2.2.2.2.2.2.2.2.2.2.2.1 (by omega) (by omega) (by decide) ?_
          refine VW.aload_n dX8_canTurn_201 rfl ?_
          refine VW.getR dX8_canTurn_202 fa_X8_40 (by have := hm.1; omega) hm.2.1 rfl ?_
          refine VW.iload_n dX8_canTurn_205 rfl ?_
          refine VW.iload dX8_canTurn_206 rfl ?_
          refine VW.iastore dX8_canTurn_208 (by have := hm.1; omega) hm.2.2.2.2.2.2.2.2.2.2.2.2 (by omega) (by omega) (by decide) ?_
          refine VW.iinc (lv' := [(0, _), (1, _), (2, _), (3, _), (4, _), (5, _), (6, _), (7, _)]) dX8_canTurn_209 rfl (by decide) rfl ?_
          refine VW.goto 8 dX8_canTurn_212 (by decide) ?_
          refine VW.sub ?_ [0, 1, 2, 3] rfl
          have g1 : frK [283] [] μ2 (mup μ2 283 i.toNat x) := frK_a (by decide)
          have g2 : frK [284] [] (mup μ2 283 i.toNat x) (mup (mup μ2 283 i.toNat x) 284 i.toNat y) := frK_a (by decide)
          have g12 : frK [283, 284] [] μ2 (mup (mup μ2 283 i.toNat x) 284 i.toNat y) := (g1.wid (by decide) (by decide)).tr (g2.wid (by decide) (by decide))
          have ht' := ht.trans (tnL_s (x' := x) (y' := y) (if_pos c79) (if_pos c79))
          first
          | (rw [if_neg (by rintro ⟨-, w⟩; exact absurd c184 (by simp [bI0, w]))] at ht'
             exact lp_X8_ctF hst hm hP hbx hby hl he ht' n (i + 1) (by omega) (by omega) (mup (mup μ2 283 i.toNat x) 284 i.toNat y) (hf.tr g12))
          | (rw [if_neg (by rintro ⟨w, -⟩; rw [even_dir xs ys c79] at w; have d1 : dif xs i = rat xs i - rat xs (i - 1) := (if_neg (by omega)); have d2 : dif ys i = rat ys i - rat ys (i - 1) := (if_neg (by omega)); rw [d1, d2] at w; omega)] at ht'
             exact lp_X8_ctF hst hm hP hbx hby hl he ht' n (i + 1) (by omega) (by omega) (mup (mup μ2 283 i.toNat x) 284 i.toNat y) (hf.tr g12))
        · refine VW.iconst dX8_canTurn_187 ?_
          refine VW.goto 192 dX8_canTurn_188 (by decide) ?_
          refine VW.istore_n (lv' := [(0, _), (1, _), (2, _), (3, _), (4, _), (5, _), (6, _), (7, _)]) dX8_canTurn_192 (by decide) rfl ?_
          refine VW.aload_n dX8_canTurn_193 rfl ?_
          refine VW.getR dX8_canTurn_194 fa_X8_37 (by have := hm.1; omega) hm.2.1 rfl ?_
          refine VW.iload_n dX8_canTurn_197 rfl ?_
          refine VW.iload dX8_canTurn_198 rfl ?_
          refine VW.iastore dX8_canTurn_200 (by have := hm.1; omega) hm.2.2.2.2.2.2.2.2.2.2.2.1 (by omega) (by omega) (by decide) ?_
          refine VW.aload_n dX8_canTurn_201 rfl ?_
          refine VW.getR dX8_canTurn_202 fa_X8_40 (by have := hm.1; omega) hm.2.1 rfl ?_
          refine VW.iload_n dX8_canTurn_205 rfl ?_
          refine VW.iload dX8_canTurn_206 rfl ?_
          refine VW.iastore dX8_canTurn_208 (by have := hm.1; omega) hm.2.2.2.2.2.2.2.2.2.2.2.2 (by omega) (by omega) (by decide) ?_
          refine VW.iinc (lv' := [(0, _), (1, _), (2, _), (3, _), (4, _), (5, _), (6, _), (7, _)]) dX8_canTurn_209 rfl (by decide) rfl ?_
          refine VW.goto 8 dX8_canTurn_212 (by decide) ?_
          refine VW.sub ?_ [0, 1, 2, 3] rfl
          have g1 : frK [283] [] μ2 (mup μ2 283 i.toNat x) := frK_a (by decide)
          have g2 : frK [284] [] (mup μ2 283 i.toNat x) (mup (mup μ2 283 i.toNat x) 284 i.toNat y) := frK_a (by decide)
          have g12 : frK [283, 284] [] μ2 (mup (mup μ2 283 i.toNat x) 284 i.toNat y) := (g1.wid (by decide) (by decide)).tr (g2.wid (by decide) (by decide))
          have ht' := ht.trans (tnL_s (x' := x) (y' := y) (if_pos c79) (if_pos c79))
          have hE : isEven xs ys i = true := (even_no xs ys c79)
          have hO : onLat x y = true := Classical.not_not.mp (fun w => c184 (bI0.mpr w))
          have hon := onL hO
          rw [if_pos ⟨hE, hO⟩] at ht'
          refine ih (i + 1) x y (tx ++ [x]) (ty ++ [y]) (by omega) (by omega) (mup (mup μ2 283 i.toNat x) 284 i.toNat y) ht' ?_ ?_ (by simp; omega) (by simp; omega) (by omega) (by omega) (fun _ => ⟨?_, ?_⟩) (fun w => by omega) (hf.tr g12)
          · have pp := h3.push (v := x)
            rw [show tx.length = i.toNat by omega] at pp
            exact pp.keep g2 (by decide) (by decide)
          · have pp := (h4.keep g1 (by decide) (by decide)).push (v := y)
            rw [show ty.length = i.toNat by omega] at pp
            exact pp
          · rw [rat_snoc, if_pos (by omega)]
          · rw [rat_snoc, if_pos (by omega)]
      · have hi1 : 1 ≤ i := by
          rcases (by omega : i = 0 ∨ 1 ≤ i) with q | q
          · rw [q] at c79; exact absurd (sDir_0 xs ys) c79
          · exact q
        have a1 := (hP.keep hf (by decide) (by decide) (by decide)).2.2.1 i (by omega)
        have a2 := (hP.keep hf (by decide) (by decide) (by decide)).2.2.2 i (by omega)
        have a3 := (hP.keep hf (by decide) (by decide) (by decide)).2.2.1 (i - 1) (by omega)
        have a4 := (hP.keep hf (by decide) (by decide) (by decide)).2.2.2 (i - 1) (by omega)
        have b1 := rat_b hbx (i := i) (by omega) (by omega)
        have b2 := rat_b hby (i := i) (by omega) (by omega)
        have b3 := rat_b hbx (i := i - 1) (by omega) (by omega)
        have b4 := rat_b hby (i := i - 1) (by omega) (by omega)
        have q1 := iabs_r (x := rat xs i - rat xs (i - 1)) (by omega)
        have q2 := iabs_r (x := rat ys i - rat ys (i - 1)) (by omega)
        refine VW.aload_n dX8_canTurn_82 rfl ?_
        refine VW.getR dX8_canTurn_83 fa_X8_19 (by have := hm.1; omega) hm.2.1 rfl ?_
        refine VW.iload_n dX8_canTurn_86 rfl ?_
        refine VW.iaload dX8_canTurn_87 (by have := hm.1; omega) hm.2.2.2.2.2.1 (by omega) (by omega) (by decide) ?_
        refine VW.aload_n dX8_canTurn_88 rfl ?_
        refine VW.getR dX8_canTurn_89 fa_X8_19 (by have := hm.1; omega) hm.2.1 rfl ?_
        refine VW.iload_n dX8_canTurn_92 rfl ?_
        refine VW.iconst dX8_canTurn_93 ?_
        refine VW.isub dX8_canTurn_94 ?_
        refine VW.iaload dX8_canTurn_95 (by have := hm.1; omega) hm.2.2.2.2.2.1 (by omega) (by omega) (by decide) ?_
        rw [a1, a3]
        refine VW.isub dX8_canTurn_96 ?_
        refine VW.pS1 cs_X8_canTurn_X8_size dX8_canTurn_97 (Nat.le_of_ble_eq_true rfl) (t_size hst (v := rat xs i - rat xs (i - 1)) (by omega)) ?_
        refine VW.aload_n dX8_canTurn_100 rfl ?_
        refine VW.getR dX8_canTurn_101 fa_X8_22 (by have := hm.1; omega) hm.2.1 rfl ?_
        refine VW.iload_n dX8_canTurn_104 rfl ?_
        refine VW.iaload dX8_canTurn_105 (by have := hm.1; omega) hm.2.2.2.2.2.2.1 (by omega) (by omega) (by decide) ?_
        refine VW.aload_n dX8_canTurn_106 rfl ?_
        refine VW.getR dX8_canTurn_107 fa_X8_22 (by have := hm.1; omega) hm.2.1 rfl ?_
        refine VW.iload_n dX8_canTurn_110 rfl ?_
        refine VW.iconst dX8_canTurn_111 ?_
        refine VW.isub dX8_canTurn_112 ?_
        refine VW.iaload dX8_canTurn_113 (by have := hm.1; omega) hm.2.2.2.2.2.2.1 (by omega) (by omega) (by decide) ?_
        rw [a2, a4]
        refine VW.isub dX8_canTurn_114 ?_
        refine VW.pS1 cs_X8_canTurn_X8_size dX8_canTurn_115 (Nat.le_of_ble_eq_true rfl) (t_size hst (v := rat ys i - rat ys (i - 1)) (by omega)) ?_
        refine VW.isub dX8_canTurn_118 ?_
        refine VW.istore (lv' := [(0, _), (1, _), (2, _), (3, _), (4, _), (5, _), (6, _), (7, _), (8, _)]) dX8_canTurn_119 (by decide) rfl ?_
        refine VW.iload_n dX8_canTurn_121 rfl ?_
        refine VW.if_eq 141 (by decide) dX8_canTurn_122 (by decide) (fun c122 => absurd c122 (by decide)) (fun _ => ?_)
        refine VW.iload dX8_canTurn_125 rfl ?_
        refine VW.iconst dX8_canTurn_127 ?_
        refine VW.irem (x := sDir xs ys i % 2) dX8_canTurn_128 (i32_ne0 (by decide)) (i32_rem (by omega) (by decide)) ?_
        refine VW.if_eq 137 ⟨by omega, by omega⟩ dX8_canTurn_129 (by decide) (fun c129 => ?_) (fun c129 => ?_)
        · refine VW.iconst dX8_canTurn_137 ?_
          refine VW.goto 142 dX8_canTurn_138 (by decide) ?_
          have hm3 := mul1 (tbo_b 3 (by decide) ((sDir xs ys i + e) % 8)) hlb
          have hm4 := mul1 (tbo_b 4 (by decide) ((sDir xs ys i + e) % 8)) hlb
          refine VW.istore_n (lv' := [(0, _), (1, _), (2, _), (3, _), (4, _), (5, _), (6, _), (7, _), (8, _)]) dX8_canTurn_142 (by decide) rfl ?_
          refine VW.iload dX8_canTurn_143 rfl ?_
          refine VW.iload dX8_canTurn_145 rfl ?_
          refine VW.iload_n dX8_canTurn_147 rfl ?_
          refine VW.iadd dX8_canTurn_148 ?_
          refine VW.pS1 cs_X8_canTurn_X8_across dX8_canTurn_149 (Nat.le_of_ble_eq_true rfl) (t_across hst (by omega)) ?_
          refine VW.iload dX8_canTurn_152 rfl ?_
          refine VW.imul dX8_canTurn_154 ?_
          refine VW.iadd dX8_canTurn_155 ?_
          refine VW.istore (lv' := [(0, _), (1, _), (2, _), (3, _), (4, _), (5, _), (6, _), (7, _), (8, _)]) dX8_canTurn_156 (by decide) rfl ?_
          refine VW.iload dX8_canTurn_158 rfl ?_
          refine VW.iload dX8_canTurn_160 rfl ?_
          refine VW.iload_n dX8_canTurn_162 rfl ?_
          refine VW.iadd dX8_canTurn_163 ?_
          refine VW.pS1 cs_X8_canTurn_X8_down dX8_canTurn_164 (Nat.le_of_ble_eq_true rfl) (t_down hst (by omega)) ?_
          refine VW.iload dX8_canTurn_167 rfl ?_
          refine VW.imul dX8_canTurn_169 ?_
          refine VW.iadd dX8_canTurn_170 ?_
          refine VW.istore (lv' := [(0, _), (1, _), (2, _), (3, _), (4, _), (5, _), (6, _), (7, _), (8, _)]) dX8_canTurn_171 (by decide) rfl ?_
          refine VW.iload_n dX8_canTurn_173 rfl ?_
          refine VW.if_eq 191 (by decide) dX8_canTurn_174 (by decide) (fun c174 => absurd c174 (by decide)) (fun _ => ?_)
          refine VW.iload dX8_canTurn_177 rfl ?_
          refine VW.iload dX8_canTurn_179 rfl ?_
          refine VW.pS2 cs_X8_canTurn_X8_isOnLattice dX8_canTurn_181 (Nat.le_of_ble_eq_true rfl) (t_isOnLattice hst ⟨by omega, by omega⟩ ⟨by omega, by omega⟩) ?_
          refine VW.if_eq 191 (bR2 _) dX8_canTurn_184 (by decide) (fun c184 => ?_) (fun c184 => ?_)
          · refine VW.iconst dX8_canTurn_191 ?_
            refine VW.istore_n (lv' := [(0, _), (1, _), (2, _), (3, _), (4, _), (5, _), (6, _), (7, _), (8, _)]) dX8_canTurn_192 (by decide) rfl ?_
            refine VW.aload_n dX8_canTurn_193 rfl ?_
            refine VW.getR dX8_canTurn_194 fa_X8_37 (by have := hm.1; omega) hm.2.1 rfl ?_
            refine VW.iload_n dX8_canTurn_197 rfl ?_
            refine VW.iload dX8_canTurn_198 rfl ?_
            refine VW.iastore dX8_canTurn_200 (by have := hm.1; omega) hm.2.2.2.2.2.2.2.2.2.2.2.1 (by omega) (by omega) (by decide) ?_
            refine VW.aload_n dX8_canTurn_201 rfl ?_
            refine VW.getR dX8_canTurn_202 fa_X8_40 (by have := hm.1; omega) hm.2.1 rfl ?_
            refine VW.iload_n dX8_canTurn_205 rfl ?_
            refine VW.iload dX8_canTurn_206 rfl ?_
            refine VW.iastore dX8_canTurn_208 (by have := hm.1; omega) hm.2.2.2.2.2.2.2.2.2.2.2.2 (by omega) (by omega) (by decide) ?_
            refine VW.iinc (lv' := [(0, _), (1, _), (2, _), (3, _), (4, _), (5, _), (6, _), (7, _), (8, _)]) dX8_canTurn_209 rfl (by decide) rfl ?_
            refine VW.goto 8 dX8_canTurn_212 (by decide) ?_
            refine VW.sub ?_ [0, 1, 2, 3] rfl
            have g1 : frK [283] [] μ2 (mup μ2 283 i.toNat (x + tbo 3 ((sDir xs ys i + e) % 8) * sLen xs ys i)) := frK_a (by decide)
            have g2 : frK [284] [] (mup μ2 283 i.toNat (x + tbo 3 ((sDir xs ys i + e) % 8) * sLen xs ys i)) (mup (mup μ2 283 i.toNat (x + tbo 3 ((sDir xs ys i + e) % 8) * sLen xs ys i)) 284 i.toNat (y + tbo 4 ((sDir xs ys i + e) % 8) * sLen xs ys i)) := frK_a (by decide)
            have g12 : frK [283, 284] [] μ2 (mup (mup μ2 283 i.toNat (x + tbo 3 ((sDir xs ys i + e) % 8) * sLen xs ys i)) 284 i.toNat (y + tbo 4 ((sDir xs ys i + e) % 8) * sLen xs ys i)) := (g1.wid (by decide) (by decide)).tr (g2.wid (by decide) (by decide))
            have ht' := ht.trans (tnL_s (x' := (x + tbo 3 ((sDir xs ys i + e) % 8) * sLen xs ys i)) (y' := (y + tbo 4 ((sDir xs ys i + e) % 8) * sLen xs ys i)) (if_neg c79) (if_neg c79))
            first
            | (rw [if_neg (by rintro ⟨-, w⟩; exact absurd c184 (by simp [bI0, w]))] at ht'
               exact lp_X8_ctF hst hm hP hbx hby hl he ht' n (i + 1) (by omega) (by omega) (mup (mup μ2 283 i.toNat (x + tbo 3 ((sDir xs ys i + e) % 8) * sLen xs ys i)) 284 i.toNat (y + tbo 4 ((sDir xs ys i + e) % 8) * sLen xs ys i)) (hf.tr g12))
            | (rw [if_neg (by rintro ⟨w, -⟩; rw [even_dir xs ys c79] at w; have d1 : dif xs i = rat xs i - rat xs (i - 1) := (if_neg (by omega)); have d2 : dif ys i = rat ys i - rat ys (i - 1) := (if_neg (by omega)); rw [d1, d2] at w; omega)] at ht'
               exact lp_X8_ctF hst hm hP hbx hby hl he ht' n (i + 1) (by omega) (by omega) (mup (mup μ2 283 i.toNat (x + tbo 3 ((sDir xs ys i + e) % 8) * sLen xs ys i)) 284 i.toNat (y + tbo 4 ((sDir xs ys i + e) % 8) * sLen xs ys i)) (hf.tr g12))
          · refine VW.iconst dX8_canTurn_187 ?_
            refine VW.goto 192 dX8_canTurn_188 (by decide) ?_
            refine VW.istore_n (lv' := [(0, _), (1, _), (2, _), (3, _), (4, _), (5, _), (6, _), (7, _), (8, _)]) dX8_canTurn_192 (by decide) rfl ?_
            refine VW.aload_n dX8_canTurn_193 rfl ?_
            refine VW.getR dX8_canTurn_194 fa_X8_37 (by have := hm.1; omega) hm.2.1 rfl ?_
            refine VW.iload_n dX8_canTurn_197 rfl ?_
            refine VW.iload dX8_canTurn_198 rfl ?_
            refine VW.iastore dX8_canTurn_200 (by have := hm.1; omega) hm.2.2.2.2.2.2.2.2.2.2.2.1 (by omega) (by omega) (by decide) ?_
            refine VW.aload_n dX8_canTurn_201 rfl ?_
            refine VW.getR dX8_canTurn_202 fa_X8_40 (by have := hm.1; omega) hm.2.1 rfl ?_
            refine VW.iload_n dX8_canTurn_205 rfl ?_
            refine VW.iload dX8_canTurn_206 rfl ?_
            refine VW.iastore dX8_canTurn_208 (by have := hm.1; omega) hm.2.2.2.2.2.2.2.2.2.2.2.2 (by omega) (by omega) (by decide) ?_
            refine VW.iinc (lv' := [(0, _), (1, _), (2, _), (3, _), (4, _), (5, _), (6, _), (7, _), (8, _)]) dX8_canTurn_209 rfl (by decide) rfl ?_
            refine VW.goto 8 dX8_canTurn_212 (by decide) ?_
            refine VW.sub ?_ [0, 1, 2, 3] rfl
            have g1 : frK [283] [] μ2 (mup μ2 283 i.toNat (x + tbo 3 ((sDir xs ys i + e) % 8) * sLen xs ys i)) := frK_a (by decide)
            have g2 : frK [284] [] (mup μ2 283 i.toNat (x + tbo 3 ((sDir xs ys i + e) % 8) * sLen xs ys i)) (mup (mup μ2 283 i.toNat (x + tbo 3 ((sDir xs ys i + e) % 8) * sLen xs ys i)) 284 i.toNat (y + tbo 4 ((sDir xs ys i + e) % 8) * sLen xs ys i)) := frK_a (by decide)
            have g12 : frK [283, 284] [] μ2 (mup (mup μ2 283 i.toNat (x + tbo 3 ((sDir xs ys i + e) % 8) * sLen xs ys i)) 284 i.toNat (y + tbo 4 ((sDir xs ys i + e) % 8) * sLen xs ys i)) := (g1.wid (by decide) (by decide)).tr (g2.wid (by decide) (by decide))
            have ht' := ht.trans (tnL_s (x' := (x + tbo 3 ((sDir xs ys i + e) % 8) * sLen xs ys i)) (y' := (y + tbo 4 ((sDir xs ys i + e) % 8) * sLen xs ys i)) (if_neg c79) (if_neg c79))
            have hE : isEven xs ys i = true := (by rw [even_dir xs ys c79]; have d1 : dif xs i = rat xs i - rat xs (i - 1) := (if_neg (by omega)); have d2 : dif ys i = rat ys i - rat ys (i - 1) := (if_neg (by omega)); rw [d1, d2]; omega)
            have hO : onLat (x + tbo 3 ((sDir xs ys i + e) % 8) * sLen xs ys i) (y + tbo 4 ((sDir xs ys i + e) % 8) * sLen xs ys i) = true := Classical.not_not.mp (fun w => c184 (bI0.mpr w))
            have hon := onL hO
            rw [if_pos ⟨hE, hO⟩] at ht'
            refine ih (i + 1) (x + tbo 3 ((sDir xs ys i + e) % 8) * sLen xs ys i) (y + tbo 4 ((sDir xs ys i + e) % 8) * sLen xs ys i) (tx ++ [(x + tbo 3 ((sDir xs ys i + e) % 8) * sLen xs ys i)]) (ty ++ [(y + tbo 4 ((sDir xs ys i + e) % 8) * sLen xs ys i)]) (by omega) (by omega) (mup (mup μ2 283 i.toNat (x + tbo 3 ((sDir xs ys i + e) % 8) * sLen xs ys i)) 284 i.toNat (y + tbo 4 ((sDir xs ys i + e) % 8) * sLen xs ys i)) ht' ?_ ?_ (by simp; omega) (by simp; omega) (by omega) (by omega) (fun _ => ⟨?_, ?_⟩) (fun w => by omega) (hf.tr g12)
            · have pp := h3.push (v := (x + tbo 3 ((sDir xs ys i + e) % 8) * sLen xs ys i))
              rw [show tx.length = i.toNat by omega] at pp
              exact pp.keep g2 (by decide) (by decide)
            · have pp := (h4.keep g1 (by decide) (by decide)).push (v := (y + tbo 4 ((sDir xs ys i + e) % 8) * sLen xs ys i))
              rw [show ty.length = i.toNat by omega] at pp
              exact pp
            · rw [rat_snoc, if_pos (by omega)]
            · rw [rat_snoc, if_pos (by omega)]
        · refine VW.iload dX8_canTurn_132 rfl ?_
          refine VW.if_ne 141 ⟨by omega, by omega⟩ dX8_canTurn_134 (by decide) (fun c134 => ?_) (fun c134 => ?_)
          · refine VW.iconst dX8_canTurn_141 ?_
            have hm3 := mul1 (tbo_b 3 (by decide) ((sDir xs ys i + e) % 8)) hlb
            have hm4 := mul1 (tbo_b 4 (by decide) ((sDir xs ys i + e) % 8)) hlb
            refine VW.istore_n (lv' := [(0, _), (1, _), (2, _), (3, _), (4, _), (5, _), (6, _), (7, _), (8, _)]) dX8_canTurn_142 (by decide) rfl ?_
            refine VW.iload dX8_canTurn_143 rfl ?_
            refine VW.iload dX8_canTurn_145 rfl ?_
            refine VW.iload_n dX8_canTurn_147 rfl ?_
            refine VW.iadd dX8_canTurn_148 ?_
            refine VW.pS1 cs_X8_canTurn_X8_across dX8_canTurn_149 (Nat.le_of_ble_eq_true rfl) (t_across hst (by omega)) ?_
            refine VW.iload dX8_canTurn_152 rfl ?_
            refine VW.imul dX8_canTurn_154 ?_
            refine VW.iadd dX8_canTurn_155 ?_
            refine VW.istore (lv' := [(0, _), (1, _), (2, _), (3, _), (4, _), (5, _), (6, _), (7, _), (8, _)]) dX8_canTurn_156 (by decide) rfl ?_
            refine VW.iload dX8_canTurn_158 rfl ?_
            refine VW.iload dX8_canTurn_160 rfl ?_
            refine VW.iload_n dX8_canTurn_162 rfl ?_
            refine VW.iadd dX8_canTurn_163 ?_
            refine VW.pS1 cs_X8_canTurn_X8_down dX8_canTurn_164 (Nat.le_of_ble_eq_true rfl) (t_down hst (by omega)) ?_
            refine VW.iload dX8_canTurn_167 rfl ?_
            refine VW.imul dX8_canTurn_169 ?_
            refine VW.iadd dX8_canTurn_170 ?_
            refine VW.istore (lv' := [(0, _), (1, _), (2, _), (3, _), (4, _), (5, _), (6, _), (7, _), (8, _)]) dX8_canTurn_171 (by decide) rfl ?_
            refine VW.iload_n dX8_canTurn_173 rfl ?_
            refine VW.if_eq 191 (by decide) dX8_canTurn_174 (by decide) (fun _ => ?_) (fun c174 => absurd c174 (by decide))
            refine VW.iconst dX8_canTurn_191 ?_
            refine VW.istore_n (lv' := [(0, _), (1, _), (2, _), (3, _), (4, _), (5, _), (6, _), (7, _), (8, _)]) dX8_canTurn_192 (by decide) rfl ?_
            refine VW.aload_n dX8_canTurn_193 rfl ?_
            refine VW.getR dX8_canTurn_194 fa_X8_37 (by have := hm.1; omega) hm.2.1 rfl ?_
            refine VW.iload_n dX8_canTurn_197 rfl ?_
            refine VW.iload dX8_canTurn_198 rfl ?_
            refine VW.iastore dX8_canTurn_200 (by have := hm.1; omega) hm.2.2.2.2.2.2.2.2.2.2.2.1 (by omega) (by omega) (by decide) ?_
            refine VW.aload_n dX8_canTurn_201 rfl ?_
            refine VW.getR dX8_canTurn_202 fa_X8_40 (by have := hm.1; omega) hm.2.1 rfl ?_
            refine VW.iload_n dX8_canTurn_205 rfl ?_
            refine VW.iload dX8_canTurn_206 rfl ?_
            refine VW.iastore dX8_canTurn_208 (by have := hm.1; omega) hm.2.2.2.2.2.2.2.2.2.2.2.2 (by omega) (by omega) (by decide) ?_
            refine VW.iinc (lv' := [(0, _), (1, _), (2, _), (3, _), (4, _), (5, _), (6, _), (7, _), (8, _)]) dX8_canTurn_209 rfl (by decide) rfl ?_
            refine VW.goto 8 dX8_canTurn_212 (by decide) ?_
            refine VW.sub ?_ [0, 1, 2, 3] rfl
            have g1 : frK [283] [] μ2 (mup μ2 283 i.toNat (x + tbo 3 ((sDir xs ys i + e) % 8) * sLen xs ys i)) := frK_a (by decide)
            have g2 : frK [284] [] (mup μ2 283 i.toNat (x + tbo 3 ((sDir xs ys i + e) % 8) * sLen xs ys i)) (mup (mup μ2 283 i.toNat (x + tbo 3 ((sDir xs ys i + e) % 8) * sLen xs ys i)) 284 i.toNat (y + tbo 4 ((sDir xs ys i + e) % 8) * sLen xs ys i)) := frK_a (by decide)
            have g12 : frK [283, 284] [] μ2 (mup (mup μ2 283 i.toNat (x + tbo 3 ((sDir xs ys i + e) % 8) * sLen xs ys i)) 284 i.toNat (y + tbo 4 ((sDir xs ys i + e) % 8) * sLen xs ys i)) := (g1.wid (by decide) (by decide)).tr (g2.wid (by decide) (by decide))
            have ht' := ht.trans (tnL_s (x' := (x + tbo 3 ((sDir xs ys i + e) % 8) * sLen xs ys i)) (y' := (y + tbo 4 ((sDir xs ys i + e) % 8) * sLen xs ys i)) (if_neg c79) (if_neg c79))
            first
            | (rw [if_neg (by rintro ⟨-, w⟩; exact absurd c184 (by simp [bI0, w]))] at ht'
               exact lp_X8_ctF hst hm hP hbx hby hl he ht' n (i + 1) (by omega) (by omega) (mup (mup μ2 283 i.toNat (x + tbo 3 ((sDir xs ys i + e) % 8) * sLen xs ys i)) 284 i.toNat (y + tbo 4 ((sDir xs ys i + e) % 8) * sLen xs ys i)) (hf.tr g12))
            | (rw [if_neg (by rintro ⟨w, -⟩; rw [even_dir xs ys c79] at w; have d1 : dif xs i = rat xs i - rat xs (i - 1) := (if_neg (by omega)); have d2 : dif ys i = rat ys i - rat ys (i - 1) := (if_neg (by omega)); rw [d1, d2] at w; omega)] at ht'
               exact lp_X8_ctF hst hm hP hbx hby hl he ht' n (i + 1) (by omega) (by omega) (mup (mup μ2 283 i.toNat (x + tbo 3 ((sDir xs ys i + e) % 8) * sLen xs ys i)) 284 i.toNat (y + tbo 4 ((sDir xs ys i + e) % 8) * sLen xs ys i)) (hf.tr g12))
          · refine VW.iconst dX8_canTurn_137 ?_
            refine VW.goto 142 dX8_canTurn_138 (by decide) ?_
            have hm3 := mul1 (tbo_b 3 (by decide) ((sDir xs ys i + e) % 8)) hlb
            have hm4 := mul1 (tbo_b 4 (by decide) ((sDir xs ys i + e) % 8)) hlb
            refine VW.istore_n (lv' := [(0, _), (1, _), (2, _), (3, _), (4, _), (5, _), (6, _), (7, _), (8, _)]) dX8_canTurn_142 (by decide) rfl ?_
            refine VW.iload dX8_canTurn_143 rfl ?_
            refine VW.iload dX8_canTurn_145 rfl ?_
            refine VW.iload_n dX8_canTurn_147 rfl ?_
            refine VW.iadd dX8_canTurn_148 ?_
            refine VW.pS1 cs_X8_canTurn_X8_across dX8_canTurn_149 (Nat.le_of_ble_eq_true rfl) (t_across hst (by omega)) ?_
            refine VW.iload dX8_canTurn_152 rfl ?_
            refine VW.imul dX8_canTurn_154 ?_
            refine VW.iadd dX8_canTurn_155 ?_
            refine VW.istore (lv' := [(0, _), (1, _), (2, _), (3, _), (4, _), (5, _), (6, _), (7, _), (8, _)]) dX8_canTurn_156 (by decide) rfl ?_
            refine VW.iload dX8_canTurn_158 rfl ?_
            refine VW.iload dX8_canTurn_160 rfl ?_
            refine VW.iload_n dX8_canTurn_162 rfl ?_
            refine VW.iadd dX8_canTurn_163 ?_
            refine VW.pS1 cs_X8_canTurn_X8_down dX8_canTurn_164 (Nat.le_of_ble_eq_true rfl) (t_down hst (by omega)) ?_
            refine VW.iload dX8_canTurn_167 rfl ?_
            refine VW.imul dX8_canTurn_169 ?_
            refine VW.iadd dX8_canTurn_170 ?_
            refine VW.istore (lv' := [(0, _), (1, _), (2, _), (3, _), (4, _), (5, _), (6, _), (7, _), (8, _)]) dX8_canTurn_171 (by decide) rfl ?_
            refine VW.iload_n dX8_canTurn_173 rfl ?_
            refine VW.if_eq 191 (by decide) dX8_canTurn_174 (by decide) (fun c174 => absurd c174 (by decide)) (fun _ => ?_)
            refine VW.iload dX8_canTurn_177 rfl ?_
            refine VW.iload dX8_canTurn_179 rfl ?_
            refine VW.pS2 cs_X8_canTurn_X8_isOnLattice dX8_canTurn_181 (Nat.le_of_ble_eq_true rfl) (t_isOnLattice hst ⟨by omega, by omega⟩ ⟨by omega, by omega⟩) ?_
            refine VW.if_eq 191 (bR2 _) dX8_canTurn_184 (by decide) (fun c184 => ?_) (fun c184 => ?_)
            · refine VW.iconst dX8_canTurn_191 ?_
              refine VW.istore_n (lv' := [(0, _), (1, _), (2, _), (3, _), (4, _), (5, _), (6, _), (7, _), (8, _)]) dX8_canTurn_192 (by decide) rfl ?_
              refine VW.aload_n dX8_canTurn_193 rfl ?_
              refine VW.getR dX8_canTurn_194 fa_X8_37 (by have := hm.1; omega) hm.2.1 rfl ?_
              refine VW.iload_n dX8_canTurn_197 rfl ?_
              refine VW.iload dX8_canTurn_198 rfl ?_
              refine VW.iastore dX8_canTurn_200 (by have := hm.1; omega) hm.2.2.2.2.2.2.2.2.2.2.2.1 (by omega) (by omega) (by decide) ?_
              refine VW.aload_n dX8_canTurn_201 rfl ?_
              refine VW.getR dX8_canTurn_202 fa_X8_40 (by have := hm.1; omega) hm.2.1 rfl ?_
              refine VW.iload_n dX8_canTurn_205 rfl ?_
              refine VW.iload dX8_canTurn_206 rfl ?_
              refine VW.iastore dX8_canTurn_208 (by have := hm.1; omega) hm.2.2.2.2.2.2.2.2.2.2.2.2 (by omega) (by omega) (by decide) ?_
              refine VW.iinc (lv' := [(0, _), (1, _), (2, _), (3, _), (4, _), (5, _), (6, _), (7, _), (8, _)]) dX8_canTurn_209 rfl (by decide) rfl ?_
              refine VW.goto 8 dX8_canTurn_212 (by decide) ?_
              refine VW.sub ?_ [0, 1, 2, 3] rfl
              have g1 : frK [283] [] μ2 (mup μ2 283 i.toNat (x + tbo 3 ((sDir xs ys i + e) % 8) * sLen xs ys i)) := frK_a (by decide)
              have g2 : frK [284] [] (mup μ2 283 i.toNat (x + tbo 3 ((sDir xs ys i + e) % 8) * sLen xs ys i)) (mup (mup μ2 283 i.toNat (x + tbo 3 ((sDir xs ys i + e) % 8) * sLen xs ys i)) 284 i.toNat (y + tbo 4 ((sDir xs ys i + e) % 8) * sLen xs ys i)) := frK_a (by decide)
              have g12 : frK [283, 284] [] μ2 (mup (mup μ2 283 i.toNat (x + tbo 3 ((sDir xs ys i + e) % 8) * sLen xs ys i)) 284 i.toNat (y + tbo 4 ((sDir xs ys i + e) % 8) * sLen xs ys i)) := (g1.wid (by decide) (by decide)).tr (g2.wid (by decide) (by decide))
              have ht' := ht.trans (tnL_s (x' := (x + tbo 3 ((sDir xs ys i + e) % 8) * sLen xs ys i)) (y' := (y + tbo 4 ((sDir xs ys i + e) % 8) * sLen xs ys i)) (if_neg c79) (if_neg c79))
              first
              | (rw [if_neg (by rintro ⟨-, w⟩; exact absurd c184 (by simp [bI0, w]))] at ht'
                 exact lp_X8_ctF hst hm hP hbx hby hl he ht' n (i + 1) (by omega) (by omega) (mup (mup μ2 283 i.toNat (x + tbo 3 ((sDir xs ys i + e) % 8) * sLen xs ys i)) 284 i.toNat (y + tbo 4 ((sDir xs ys i + e) % 8) * sLen xs ys i)) (hf.tr g12))
              | (rw [if_neg (by rintro ⟨w, -⟩; rw [even_dir xs ys c79] at w; have d1 : dif xs i = rat xs i - rat xs (i - 1) := (if_neg (by omega)); have d2 : dif ys i = rat ys i - rat ys (i - 1) := (if_neg (by omega)); rw [d1, d2] at w; omega)] at ht'
                 exact lp_X8_ctF hst hm hP hbx hby hl he ht' n (i + 1) (by omega) (by omega) (mup (mup μ2 283 i.toNat (x + tbo 3 ((sDir xs ys i + e) % 8) * sLen xs ys i)) 284 i.toNat (y + tbo 4 ((sDir xs ys i + e) % 8) * sLen xs ys i)) (hf.tr g12))
            · refine VW.iconst dX8_canTurn_187 ?_
              refine VW.goto 192 dX8_canTurn_188 (by decide) ?_
              refine VW.istore_n (lv' := [(0, _), (1, _), (2, _), (3, _), (4, _), (5, _), (6, _), (7, _), (8, _)]) dX8_canTurn_192 (by decide) rfl ?_
              refine VW.aload_n dX8_canTurn_193 rfl ?_
              refine VW.getR dX8_canTurn_194 fa_X8_37 (by have := hm.1; omega) hm.2.1 rfl ?_
              refine VW.iload_n dX8_canTurn_197 rfl ?_
              refine VW.iload dX8_canTurn_198 rfl ?_
              refine VW.iastore dX8_canTurn_200 (by have := hm.1; omega) hm.2.2.2.2.2.2.2.2.2.2.2.1 (by omega) (by omega) (by decide) ?_
              refine VW.aload_n dX8_canTurn_201 rfl ?_
              refine VW.getR dX8_canTurn_202 fa_X8_40 (by have := hm.1; omega) hm.2.1 rfl ?_
              refine VW.iload_n dX8_canTurn_205 rfl ?_
              refine VW.iload dX8_canTurn_206 rfl ?_
              refine VW.iastore dX8_canTurn_208 (by have := hm.1; omega) hm.2.2.2.2.2.2.2.2.2.2.2.2 (by omega) (by omega) (by decide) ?_
              refine VW.iinc (lv' := [(0, _), (1, _), (2, _), (3, _), (4, _), (5, _), (6, _), (7, _), (8, _)]) dX8_canTurn_209 rfl (by decide) rfl ?_
              refine VW.goto 8 dX8_canTurn_212 (by decide) ?_
              refine VW.sub ?_ [0, 1, 2, 3] rfl
              have g1 : frK [283] [] μ2 (mup μ2 283 i.toNat (x + tbo 3 ((sDir xs ys i + e) % 8) * sLen xs ys i)) := frK_a (by decide)
              have g2 : frK [284] [] (mup μ2 283 i.toNat (x + tbo 3 ((sDir xs ys i + e) % 8) * sLen xs ys i)) (mup (mup μ2 283 i.toNat (x + tbo 3 ((sDir xs ys i + e) % 8) * sLen xs ys i)) 284 i.toNat (y + tbo 4 ((sDir xs ys i + e) % 8) * sLen xs ys i)) := frK_a (by decide)
              have g12 : frK [283, 284] [] μ2 (mup (mup μ2 283 i.toNat (x + tbo 3 ((sDir xs ys i + e) % 8) * sLen xs ys i)) 284 i.toNat (y + tbo 4 ((sDir xs ys i + e) % 8) * sLen xs ys i)) := (g1.wid (by decide) (by decide)).tr (g2.wid (by decide) (by decide))
              have ht' := ht.trans (tnL_s (x' := (x + tbo 3 ((sDir xs ys i + e) % 8) * sLen xs ys i)) (y' := (y + tbo 4 ((sDir xs ys i + e) % 8) * sLen xs ys i)) (if_neg c79) (if_neg c79))
              have hE : isEven xs ys i = true := (by rw [even_dir xs ys c79]; have d1 : dif xs i = rat xs i - rat xs (i - 1) := (if_neg (by omega)); have d2 : dif ys i = rat ys i - rat ys (i - 1) := (if_neg (by omega)); rw [d1, d2]; omega)
              have hO : onLat (x + tbo 3 ((sDir xs ys i + e) % 8) * sLen xs ys i) (y + tbo 4 ((sDir xs ys i + e) % 8) * sLen xs ys i) = true := Classical.not_not.mp (fun w => c184 (bI0.mpr w))
              have hon := onL hO
              rw [if_pos ⟨hE, hO⟩] at ht'
              refine ih (i + 1) (x + tbo 3 ((sDir xs ys i + e) % 8) * sLen xs ys i) (y + tbo 4 ((sDir xs ys i + e) % 8) * sLen xs ys i) (tx ++ [(x + tbo 3 ((sDir xs ys i + e) % 8) * sLen xs ys i)]) (ty ++ [(y + tbo 4 ((sDir xs ys i + e) % 8) * sLen xs ys i)]) (by omega) (by omega) (mup (mup μ2 283 i.toNat (x + tbo 3 ((sDir xs ys i + e) % 8) * sLen xs ys i)) 284 i.toNat (y + tbo 4 ((sDir xs ys i + e) % 8) * sLen xs ys i)) ht' ?_ ?_ (by simp; omega) (by simp; omega) (by omega) (by omega) (fun _ => ⟨?_, ?_⟩) (fun w => by omega) (hf.tr g12)
              · have pp := h3.push (v := (x + tbo 3 ((sDir xs ys i + e) % 8) * sLen xs ys i))
                rw [show tx.length = i.toNat by omega] at pp
                exact pp.keep g2 (by decide) (by decide)
              · have pp := (h4.keep g1 (by decide) (by decide)).push (v := (y + tbo 4 ((sDir xs ys i + e) % 8) * sLen xs ys i))
                rw [show ty.length = i.toNat by omega] at pp
                exact pp
              · rw [rat_snoc, if_pos (by omega)]
              · rw [rat_snoc, if_pos (by omega)]
theorem t_canTurn (hst : l.stackTraces = false) (hm : isM N sh) (hz : zR (μ 274) xs ys C S) (ok : okS ((xs, ys), C, S)) (he : 1 ≤ e ∧ e < 8) : Zi G l N sh M_X8_canTurn [.ref (gB G + 273), vI e] μ (fun r μ' => r = bI (turnOf xs ys e).isSome ∧ (∀ q, turnOf xs ys e = some q → arr μ' 283 q.1 ∧ arr μ' 284 q.2) ∧ frK [277, 278, 283, 284] [8] μ μ') := by
  refine Fx.of hst rfl (by decide +kernel) (Nat.le_of_ble_eq_true rfl) rfl ?_
  obtain ⟨⟨ok1, ok2, ok3, ok4⟩, ⟨ok5, ok6, ok7⟩, ok8⟩ := okS.un ok
  refine VW.aload_n dX8_canTurn_0 rfl ?_
  refine VW.fvV0 cv_X8_canTurn_X8_takePath dX8_canTurn_1 (Nat.le_of_ble_eq_true rfl) (by have := hm.1; omega) hm.2.1 (t_takePath hst hm hz ⟨ok1, ok2⟩) (fun μ1 h1 => ?_)
  refine VW.iconst dX8_canTurn_4 ?_
  refine VW.istore_n (lv' := [(0, _), (1, _), (2, _)]) dX8_canTurn_5 (by decide) rfl ?_
  refine VW.iconst dX8_canTurn_6 ?_
  refine VW.istore_n (lv' := [(0, _), (1, _), (2, _), (3, _)]) dX8_canTurn_7 (by decide) rfl ?_
  have b0 := rat_b1 ok3 (i := 0) (by omega) (by omega)
  have b1 := rat_b1 ok4 (i := 0) (by omega) (by omega)
  refine VW.mono (lp_X8_ctT hst hm h1.1 ok3 ok4 ok2 he xs.length 0 (rat xs 0) (rat ys 0) [] [] (by omega) (by omega) μ1 rfl (fun k hk => by simp at hk; omega) (fun k hk => by simp at hk; omega) rfl rfl (by omega) (by omega) (fun w => by omega) (fun _ => ⟨rfl, rfl⟩) frK.rf) ?_
  rintro r ⟨oo, μ', rfl, v, rfl, a, rfl, h9, h10, h11⟩
  exact fxP.ii ⟨h9, h10, (h1.2.wid (by decide) (by decide)).tr (h11.wid (by decide) (by decide))⟩
theorem zR_path {f g : Nat → Int} {ax ay : List Int} (hz : zR f xs ys C S) (hl : ax.length = xs.length ∧ xs.length ≤ 40) (e1 : ∀ k : Int, 0 ≤ k ∧ k < xs.length → g (7 + 2 * k).toNat = rat ax k ∧ g (7 + 2 * k + 1).toNat = rat ay k) (e : ∀ i, (i < 7 ∨ 87 ≤ i) → g i = f i) : zR g ax ay C S := by
  obtain ⟨h1, h2, h3, h4, hc⟩ := hz
  exact ⟨fun s hs => by rw [e _ (by omega)]; exact h1 s hs, by rw [e 5 (by omega), hl.1]; exact h2, by rw [e 6 (by omega)]; exact h3, fun k hk => e1 k (by omega), fun c hc2 => by rw [e _ (by omega)]; exact ⟨(hc c hc2).1, fun j hj => by rw [e _ (by omega)]; exact (hc c hc2).2 j hj⟩⟩
variable {ax ay : List Int}
theorem lp_X8_tu (hst : l.stackTraces = false) (hm : isM N sh) (h5 : μ 274 5 = (xs.length : Int)) (hl : ax.length = xs.length ∧ ay.length = xs.length ∧ xs.length ≤ 40) (hA : arr μ 283 ax) (hB2 : arr μ 284 ay) {Φ : RT → Prop} (kk : ∀ μ3 : Mem, (∀ k : Int, 0 ≤ k ∧ k < xs.length → μ3 274 (7 + 2 * k).toNat = rat ax k ∧ μ3 274 (7 + 2 * k + 1).toNat = rat ay k) → (∀ j : Nat, (j < 7 ∨ 87 ≤ j) → μ3 274 j = μ 274 j) → frK [274] [] μ μ3 → VW G l none M_X8_turn 98 [(0, .ref (gB G + 273))] [] (N, sh, μ3) 0 0 Φ) : ∀ (n : Nat) (i : Int), 0 ≤ i → i + n = xs.length → ∀ μ2 : Mem, (∀ k : Int, 0 ≤ k ∧ k < i → μ2 274 (7 + 2 * k).toNat = rat ax k ∧ μ2 274 (7 + 2 * k + 1).toNat = rat ay k) → (∀ j : Nat, (j < 7 ∨ 87 ≤ j) → μ2 274 j = μ 274 j) → frK [274] [] μ μ2 → VW G l none M_X8_turn 46 [(0, .ref (gB G + 273)), (1, vI e), (2, vI i)] [] (N, sh, μ2) 0 0 Φ := by
  intro n
  induction n with
  | zero =>
    intro i h1 h2 μ2 h3 h4 hf
    refine VW.iload_n dX8_turn_46 rfl ?_
    have e5 : μ2 274 5 = (xs.length : Int) := (h4 5 (by omega)).trans h5
    refine VW.aload_n dX8_turn_47 rfl ?_
    refine VW.getR dX8_turn_48 fa_X8_7 (by have := hm.1; omega) hm.2.1 rfl ?_
    refine VW.iconst dX8_turn_51 ?_
    refine VW.iaload dX8_turn_52 (by have := hm.1; omega) hm.2.2.1 (by omega) (by omega) (by decide) ?_
    rw [show (5 : Int).toNat = 5 from rfl, e5]
    refine VW.icmp_ge 98 ⟨by omega, by omega⟩ ⟨by omega, by omega⟩ dX8_turn_53 (by decide) (fun c53 => ?_) (fun c53 => by omega)
    refine VW.sub ?_ [0] rfl
    exact kk μ2 (fun j hj => h3 j (by omega)) h4 hf
  | succ n ih =>
    intro i h1 h2 μ2 h3 h4 hf
    refine VW.iload_n dX8_turn_46 rfl ?_
    have e5 : μ2 274 5 = (xs.length : Int) := (h4 5 (by omega)).trans h5
    refine VW.aload_n dX8_turn_47 rfl ?_
    refine VW.getR dX8_turn_48 fa_X8_7 (by have := hm.1; omega) hm.2.1 rfl ?_
    refine VW.iconst dX8_turn_51 ?_
    refine VW.iaload dX8_turn_52 (by have := hm.1; omega) hm.2.2.1 (by omega) (by omega) (by decide) ?_
    rw [show (5 : Int).toNat = 5 from rfl, e5]
    refine VW.icmp_ge 98 ⟨by omega, by omega⟩ ⟨by omega, by omega⟩ dX8_turn_53 (by decide) (fun c53 => by omega) (fun c53 => ?_)
    have a1 := (congrFun (hf.1 283 (by decide) (by decide)) i.toNat).trans (hA i (by omega))
    have a2 := (congrFun (hf.1 284 (by decide) (by decide)) i.toNat).trans (hB2 i (by omega))
    refine VW.aload_n dX8_turn_56 rfl ?_
    refine VW.getR dX8_turn_57 fa_X8_7 (by have := hm.1; omega) hm.2.1 rfl ?_
    refine VW.bipush dX8_turn_60 rfl ?_
    refine VW.iconst dX8_turn_62 ?_
    refine VW.iload_n dX8_turn_63 rfl ?_
    refine VW.imul dX8_turn_64 ?_
    refine VW.iadd dX8_turn_65 ?_
    refine VW.aload_n dX8_turn_66 rfl ?_
    refine VW.getR dX8_turn_67 fa_X8_37 (by have := hm.1; omega) hm.2.1 rfl ?_
    refine VW.iload_n dX8_turn_70 rfl ?_
    refine VW.iaload dX8_turn_71 (by have := hm.1; omega) hm.2.2.2.2.2.2.2.2.2.2.2.1 (by omega) (by omega) (by decide) ?_
    refine VW.iastore dX8_turn_72 (by have := hm.1; omega) hm.2.2.1 (by omega) (by omega) (by decide) ?_
    rw [a1]
    refine VW.aload_n dX8_turn_73 rfl ?_
    refine VW.getR dX8_turn_74 fa_X8_7 (by have := hm.1; omega) hm.2.1 rfl ?_
    refine VW.bipush dX8_turn_77 rfl ?_
    refine VW.iconst dX8_turn_79 ?_
    refine VW.iload_n dX8_turn_80 rfl ?_
    refine VW.imul dX8_turn_81 ?_
    refine VW.iadd dX8_turn_82 ?_
    refine VW.iconst dX8_turn_83 ?_
    refine VW.iadd dX8_turn_84 ?_
    refine VW.aload_n dX8_turn_85 rfl ?_
    refine VW.getR dX8_turn_86 fa_X8_40 (by have := hm.1; omega) hm.2.1 rfl ?_
    refine VW.iload_n dX8_turn_89 rfl ?_
    refine VW.iaload dX8_turn_90 (by have := hm.1; omega) hm.2.2.2.2.2.2.2.2.2.2.2.2 (by omega) (by omega) (by decide) ?_
    refine VW.iastore dX8_turn_91 (by have := hm.1; omega) hm.2.2.1 (by omega) (by omega) (by decide) ?_
    rw [mup_n (show (284 : Nat) ≠ 274 by decide), a2]
    refine VW.iinc (lv' := [(0, _), (1, _), (2, _)]) dX8_turn_92 rfl (by decide) rfl ?_
    refine VW.goto 46 dX8_turn_95 (by decide) ?_
    refine ih (i + 1) (by omega) (by omega) _ (fun j hj => ?_) (fun j hj => by rw [mup_k (by omega), mup_k (by omega)]; exact h4 j hj) (hf.tr ((frK_a (by decide)).tr (frK_a (by decide))))
    by_cases e : j = i
    · rw [e]
      exact ⟨by rw [mup_k (by omega), mup_s], mup_s _ _ _ _⟩
    · rw [mup_k (by omega), mup_k (by omega), mup_k (by omega), mup_k (by omega)]
      exact h3 j (by omega)
theorem t_turn (hst : l.stackTraces = false) (hm : isM N sh) (h : hasM μ xs ys C S Z B) (ok : okA (mk xs ys C S Z B)) (he : R32 e) : Zi G l N sh M_X8_turn [.ref (gB G + 273), vI e] μ (tP (opTurn xs ys C S Z B e) μ) := by
  refine Fx.of hst rfl (by decide +kernel) (Nat.le_of_ble_eq_true rfl) rfl ?_
  obtain ⟨⟨⟨ok1, ok2, ok3, ok4⟩, ⟨ok5, ok6, ok7⟩, ok8⟩, ⟨ok9, ok10⟩, ok11, ok12⟩ := okA.un ok
  have okσ : okS ((xs, ys), C, S) := ok.1
  obtain ⟨hz, hn, hh, hb, hB⟩ := id h
  have z5 : μ 274 5 = (xs.length : Int) := hz.2.1
  have z6 : μ 274 6 = (C.length : Int) := hz.2.2.1
  refine VW.aload_n dX8_turn_0 rfl ?_
  refine VW.iload_n dX8_turn_1 rfl ?_
  refine VW.iconst dX8_turn_2 ?_
  refine VW.bipush dX8_turn_3 rfl ?_
  refine VW.pS3 cs_X8_turn_X8_within dX8_turn_5 (Nat.le_of_ble_eq_true rfl) (t_within hst he ⟨by omega, by omega⟩ ⟨by omega, by omega⟩) ?_
  refine VW.if_ne 15 (bR2 _) dX8_turn_8 (by decide) (fun c8 => ?_) (fun c8 => ?_)
  · rw [bI0d] at c8
    have c8 := Classical.not_not.mp c8
    refine VW.aload_n dX8_turn_15 rfl ?_
    refine VW.iload_n dX8_turn_16 rfl ?_
    refine VW.fiV1 cv_X8_turn_X8_canTurn dX8_turn_17 (Nat.le_of_ble_eq_true rfl) (by have := hm.1; omega) hm.2.1 (t_canTurn hst hm hz okσ (e := e) (by omega)) (fun r1 μ1 h1 => ?_)
    obtain ⟨rfl, h1q, h1f⟩ := h1
    have hm1 := h.keep h1f (by decide) (by decide) (by decide) (by decide) (by decide)
    refine VW.if_eq 27 (bR2 _) dX8_turn_20 (by decide) (fun c20 => ?_) (fun c20 => ?_)
    · refine VW.iconst dX8_turn_27 ?_
      refine VW.putI dX8_turn_28 fp_X8_43 (by have := hm.1; omega) hm.2.1 rfl ?_
      have gt : frK aM bM μ (mup μ1 273 5 2) := (h1f.wid (by decide) (by decide)).tr (frK_f.wid (by decide) (by decide))
      have ht : hasM (mup μ1 273 5 2) xs ys C S Z B := hm1.keep (frK_f : frK [] [5] _ _) (by decide) (by decide) (by decide) (by decide) (by decide)
      refine VW.aload_n dX8_turn_31 rfl ?_
      refine VW.getI dX8_turn_32 fa_X8_43 (by have := hm.1; omega) hm.2.1 rfl ?_
      rw [mup_s]
      refine VW.if_le 40 (by decide) dX8_turn_35 (by decide) (fun c35 => absurd c35 (by decide)) (fun _ => ?_)
      refine VW.iconst dX8_turn_38 ?_
      refine VW.ireturn dX8_turn_39 rfl rfl ?_
      exact fxP.ii (tP_x ((if_neg (by omega)).trans (if_pos (by have t := bI0.mp c20; revert t; cases turnOf xs ys e <;> simp))) ht gt (by decide) (mup_s _ _ _ _))
    · refine VW.iconst dX8_turn_23 ?_
      refine VW.goto 28 dX8_turn_24 (by decide) ?_
      refine VW.putI dX8_turn_28 fp_X8_43 (by have := hm.1; omega) hm.2.1 rfl ?_
      have gt : frK aM bM μ (mup μ1 273 5 0) := (h1f.wid (by decide) (by decide)).tr (frK_f.wid (by decide) (by decide))
      have ht : hasM (mup μ1 273 5 0) xs ys C S Z B := hm1.keep (frK_f : frK [] [5] _ _) (by decide) (by decide) (by decide) (by decide) (by decide)
      refine VW.aload_n dX8_turn_31 rfl ?_
      refine VW.getI dX8_turn_32 fa_X8_43 (by have := hm.1; omega) hm.2.1 rfl ?_
      rw [mup_s]
      refine VW.if_le 40 (by decide) dX8_turn_35 (by decide) (fun _ => ?_) (fun c35 => absurd c35 (by decide))
      refine VW.aload_n dX8_turn_40 rfl ?_
      refine VW.fvV0 cv_X8_turn_X8_save dX8_turn_41 (Nat.le_of_ble_eq_true rfl) (by have := hm.1; omega) hm.2.1 (t_save hst hm ht okσ ok10 ok9) (fun μ2 h2 => ?_)
      refine VW.iconst dX8_turn_44 ?_
      refine VW.istore_n (lv' := [(0, _), (1, _), (2, _)]) dX8_turn_45 (by decide) rfl ?_
      obtain ⟨q2, hq2⟩ : ∃ q2, turnOf xs ys e = some q2 := by revert c20; cases turnOf xs ys e <;> simp [bI]
      have hql := tnL_len xs ys e xs.length 0 (rat xs 0) (rat ys 0) [] [] q2 hq2
      simp only [List.length_nil, Nat.zero_add] at hql
      have hqa := h1q q2 hq2
      refine lp_X8_tu hst hm h2.1.1.2.1 ⟨hql.1, hql.2, ok2⟩ ((hqa.1.keep (frK_f : frK [] [5] μ1 (mup μ1 273 5 0)) (by decide) (by decide)).keep h2.2 (by decide) (by decide)) ((hqa.2.keep (frK_f : frK [] [5] μ1 (mup μ1 273 5 0)) (by decide) (by decide)).keep h2.2 (by decide) (by decide)) (fun μ3 h3 h4 hf => ?_) xs.length 0 (by omega) (by omega) μ2 (fun j hj => by omega) (fun j hj => rfl) frK.rf
      have hz3 : zR (μ3 274) q2.1 q2.2 C S := zR_path h2.1.1 ⟨hql.1, ok2⟩ h3 h4
      have h9 : hasM μ3 q2.1 q2.2 C S (kp Z ((xs, ys), C, S)) B := h2.1.z hf hz3 (by decide) (by decide) (by decide) (by decide)
      have hq : opTurn xs ys C S Z B e = ((0, (xs.length : Int)), mk q2.1 q2.2 C S (kp Z ((xs, ys), C, S)) B) := by
        refine (if_neg (by omega)).trans ((if_neg (by rw [hq2]; simp)).trans ?_)
        rw [hq2]
        rfl
      have e5 : μ3 274 5 = (xs.length : Int) := hz3.2.1.trans (by rw [hql.1])
      refine VW.aload_n dX8_turn_98 rfl ?_
      refine VW.getR dX8_turn_99 fa_X8_7 (by have := hm.1; omega) hm.2.1 rfl ?_
      refine VW.iconst dX8_turn_102 ?_
      refine VW.iaload dX8_turn_103 (by have := hm.1; omega) hm.2.2.1 (by omega) (by omega) (by decide) ?_
      refine VW.ireturn dX8_turn_104 rfl rfl ?_
      rw [show (5 : Int).toNat = 5 from rfl, e5]
      exact fxP.ii (tP_r hq h9 ((gt.tr (h2.2.wid (by decide) (by decide))).tr (hf.wid (by decide) (by decide))) (by rw [hf.2 5 (by decide), h2.2.2 5 (by decide), mup_s]))
  · rw [bI0d] at c8
    refine VW.iconst dX8_turn_11 ?_
    refine VW.goto 28 dX8_turn_12 (by decide) ?_
    refine VW.putI dX8_turn_28 fp_X8_43 (by have := hm.1; omega) hm.2.1 rfl ?_
    have gt : frK aM bM μ (mup μ 273 5 1) := frK_f.wid (by decide) (by decide)
    have ht : hasM (mup μ 273 5 1) xs ys C S Z B := h.keep (frK_f : frK [] [5] μ _) (by decide) (by decide) (by decide) (by decide) (by decide)
    refine VW.aload_n dX8_turn_31 rfl ?_
    refine VW.getI dX8_turn_32 fa_X8_43 (by have := hm.1; omega) hm.2.1 rfl ?_
    rw [mup_s]
    refine VW.if_le 40 (by decide) dX8_turn_35 (by decide) (fun c35 => absurd c35 (by decide)) (fun _ => ?_)
    refine VW.iconst dX8_turn_38 ?_
    refine VW.ireturn dX8_turn_39 rfl rfl ?_
    exact fxP.ii (tP_x (if_pos (by omega)) ht gt (by decide) (mup_s _ _ _ _))
end PV
