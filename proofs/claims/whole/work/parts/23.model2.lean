/-! ===== the model: path, runs, stroke ===== -/
section PL
variable {G : GT} {l : Launch} {N : Nat} {sh : Nat → ShT} {μ μ' : Mem} {xs ys S D Ln : List Int} {C : List (List Int)} {v lo hi : Int}
theorem dbF_p {sx sy d b : Int} {n : Nat} (h : tbo 3 d = sx ∧ tbo 4 d = sy) : dbF sx sy (n + 1) d b = dbF sx sy n (d + 1) d := by
  show dbF sx sy n (d + 1) (if tbo 3 d = sx ∧ tbo 4 d = sy then d else b) = _
  rw [if_pos h]
theorem dbF_n {sx sy d b : Int} {n : Nat} (h : ¬ (tbo 3 d = sx ∧ tbo 4 d = sy)) : dbF sx sy (n + 1) d b = dbF sx sy n (d + 1) b := by
  show dbF sx sy n (d + 1) (if tbo 3 d = sx ∧ tbo 4 d = sy then d else b) = _
  rw [if_neg h]
theorem fit_iff {a x : Int} (ha : -1 ≤ a ∧ a ≤ 1) : a = sgn x ↔ (a * iabs x = x ∧ (a = 0 ↔ x = 0)) := ⟨fun h => by rw [h]; exact fit_s x, fun h => fit_p h.1 h.2 ha⟩
theorem iabs_r {x : Int} (h : -31 ≤ x ∧ x ≤ 31) : 0 ≤ iabs x ∧ iabs x ≤ 31 := by unfold iabs; split <;> omega
theorem lp_X8_dirBy (hst : l.stackTraces = false) {x y : Int} (hx : -31 ≤ x ∧ x ≤ 31) (hy : -31 ≤ y ∧ y ≤ 31) : ∀ (n : Nat) (d b : Int), 0 ≤ d → d + n = 8 → -1 ≤ b ∧ b ≤ 7 → VW G l none M_X8_directionBy 4 [(0, vI x), (1, vI y), (2, vI b), (3, vI d)] [] (N, sh, μ) 0 0 (fxP N sh (oN (vN_i (fun r μ' => r = dbF (sgn x) (sgn y) n d b ∧ μ' = μ)))) := by
  intro n
  induction n with
  | zero =>
    intro d b h1 h2 h3
    refine VW.iload_n dX8_directionBy_4 rfl ?_
    refine VW.bipush dX8_directionBy_5 rfl ?_
    refine VW.icmp_ge 120 ⟨by omega, by omega⟩ ⟨by omega, by omega⟩ dX8_directionBy_7 (by decide) (fun c7 => ?_) (fun c7 => by omega)
    refine VW.iload_n dX8_directionBy_120 rfl ?_
    refine VW.ireturn dX8_directionBy_121 rfl rfl ?_
    exact fxP.ii ⟨rfl, rfl⟩
  | succ n ih =>
    intro d b h1 h2 h3
    refine VW.iload_n dX8_directionBy_4 rfl ?_
    refine VW.bipush dX8_directionBy_5 rfl ?_
    refine VW.icmp_ge 120 ⟨by omega, by omega⟩ ⟨by omega, by omega⟩ dX8_directionBy_7 (by decide) (fun c7 => by omega) (fun c7 => ?_)
    have e3 : tbo 3 d = tbo 3 (d % 8) := by congr 1; omega
    have e4 : tbo 4 d = tbo 4 (d % 8) := by congr 1; omega
    have b3 := tbo_b 3 (by decide) (d % 8)
    have b4 := tbo_b 4 (by decide) (d % 8)
    have m3 := mul1 b3 (iabs_r hx)
    have m4 := mul1 b4 (iabs_r hy)
    have f3 := fit_iff (x := x) b3
    have f4 := fit_iff (x := y) b4
    refine VW.iload_n dX8_directionBy_10 rfl ?_
    refine VW.pS1 cs_X8_directionBy_X8_across dX8_directionBy_11 (Nat.le_of_ble_eq_true rfl) (t_across hst (v := d) (by omega)) ?_
    refine VW.iload_n dX8_directionBy_14 rfl ?_
    refine VW.pS1 cs_X8_directionBy_X8_size dX8_directionBy_15 (Nat.le_of_ble_eq_true rfl) (t_size hst (by omega)) ?_
    refine VW.imul dX8_directionBy_18 ?_
    refine VW.iload_n dX8_directionBy_19 rfl ?_
    refine VW.icmp_ne 40 ⟨by omega, by omega⟩ ⟨by omega, by omega⟩ dX8_directionBy_20 (by decide) (fun c20 => ?_) (fun c20 => ?_)
    · refine VW.iconst dX8_directionBy_40 ?_
      refine VW.istore (lv' := [(0, _), (1, _), (2, _), (3, _), (4, _)]) dX8_directionBy_41 (by decide) rfl ?_
      refine VW.iload_n dX8_directionBy_43 rfl ?_
      refine VW.pS1 cs_X8_directionBy_X8_across dX8_directionBy_44 (Nat.le_of_ble_eq_true rfl) (t_across hst (v := d) (by omega)) ?_
      refine VW.if_ne 54 ⟨by omega, by omega⟩ dX8_directionBy_47 (by decide) (fun c47 => ?_) (fun c47 => ?_)
      · refine VW.iconst dX8_directionBy_54 ?_
        refine VW.iload_n dX8_directionBy_55 rfl ?_
        refine VW.if_ne 63 ⟨by omega, by omega⟩ dX8_directionBy_56 (by decide) (fun c56 => ?_) (fun c56 => ?_)
        · refine VW.iconst dX8_directionBy_63 ?_
          refine VW.icmp_ne 95 (by decide) (by decide) dX8_directionBy_64 (by decide) (fun c64 => absurd c64 (by decide)) (fun _ => ?_)
          refine VW.iload_n dX8_directionBy_67 rfl ?_
          refine VW.pS1 cs_X8_directionBy_X8_down dX8_directionBy_68 (Nat.le_of_ble_eq_true rfl) (t_down hst (v := d) (by omega)) ?_
          refine VW.if_ne 78 ⟨by omega, by omega⟩ dX8_directionBy_71 (by decide) (fun c71 => ?_) (fun c71 => ?_)
          · refine VW.iconst dX8_directionBy_78 ?_
            refine VW.iload_n dX8_directionBy_79 rfl ?_
            refine VW.if_ne 87 ⟨by omega, by omega⟩ dX8_directionBy_80 (by decide) (fun c80 => ?_) (fun c80 => ?_)
            · refine VW.iconst dX8_directionBy_87 ?_
              refine VW.icmp_ne 95 (by decide) (by decide) dX8_directionBy_88 (by decide) (fun c88 => absurd c88 (by decide)) (fun _ => ?_)
              refine VW.iconst dX8_directionBy_91 ?_
              refine VW.goto 96 dX8_directionBy_92 (by decide) ?_
              refine VW.istore (lv' := [(0, _), (1, _), (2, _), (3, _), (4, _), (5, _)]) dX8_directionBy_96 (by decide) rfl ?_
              refine VW.iload dX8_directionBy_98 rfl ?_
              refine VW.if_eq 112 (by decide) dX8_directionBy_100 (by decide) (fun _ => ?_) (fun c100 => absurd c100 (by decide))
              refine VW.iload_n dX8_directionBy_112 rfl ?_
              refine VW.istore_n (lv' := [(0, _), (1, _), (2, _), (3, _), (4, _), (5, _)]) dX8_directionBy_113 (by decide) rfl ?_
              refine VW.iinc (lv' := [(0, _), (1, _), (2, _), (3, _), (4, _), (5, _)]) dX8_directionBy_114 rfl (by decide) rfl ?_
              refine VW.goto 4 dX8_directionBy_117 (by decide) ?_
              refine VW.sub ?_ [0, 1, 2, 3] rfl
              first
              | (rw [dbF_n (by omega)]; exact ih (d + 1) _ (by omega) (by omega) (by omega); done)
              | (rw [dbF_p (by omega)]; exact ih (d + 1) _ (by omega) (by omega) (by omega); done)
            · refine VW.iconst dX8_directionBy_83 ?_
              refine VW.goto 88 dX8_directionBy_84 (by decide) ?_
              refine VW.icmp_ne 95 (by decide) (by decide) dX8_directionBy_88 (by decide) (fun _ => ?_) (fun c88 => absurd c88 (by decide))
              refine VW.iconst dX8_directionBy_95 ?_
              refine VW.istore (lv' := [(0, _), (1, _), (2, _), (3, _), (4, _), (5, _)]) dX8_directionBy_96 (by decide) rfl ?_
              refine VW.iload dX8_directionBy_98 rfl ?_
              refine VW.if_eq 112 (by decide) dX8_directionBy_100 (by decide) (fun _ => ?_) (fun c100 => absurd c100 (by decide))
              refine VW.iload_n dX8_directionBy_112 rfl ?_
              refine VW.istore_n (lv' := [(0, _), (1, _), (2, _), (3, _), (4, _), (5, _)]) dX8_directionBy_113 (by decide) rfl ?_
              refine VW.iinc (lv' := [(0, _), (1, _), (2, _), (3, _), (4, _), (5, _)]) dX8_directionBy_114 rfl (by decide) rfl ?_
              refine VW.goto 4 dX8_directionBy_117 (by decide) ?_
              refine VW.sub ?_ [0, 1, 2, 3] rfl
              first
              | (rw [dbF_n (by omega)]; exact ih (d + 1) _ (by omega) (by omega) (by omega); done)
              | (rw [dbF_p (by omega)]; exact ih (d + 1) _ (by omega) (by omega) (by omega); done)
          · refine VW.iconst dX8_directionBy_74 ?_
            refine VW.goto 79 dX8_directionBy_75 (by decide) ?_
            refine VW.iload_n dX8_directionBy_79 rfl ?_
            refine VW.if_ne 87 ⟨by omega, by omega⟩ dX8_directionBy_80 (by decide) (fun c80 => ?_) (fun c80 => ?_)
            · refine VW.iconst dX8_directionBy_87 ?_
              refine VW.icmp_ne 95 (by decide) (by decide) dX8_directionBy_88 (by decide) (fun _ => ?_) (fun c88 => absurd c88 (by decide))
              refine VW.iconst dX8_directionBy_95 ?_
              refine VW.istore (lv' := [(0, _), (1, _), (2, _), (3, _), (4, _), (5, _)]) dX8_directionBy_96 (by decide) rfl ?_
              refine VW.iload dX8_directionBy_98 rfl ?_
              refine VW.if_eq 112 (by decide) dX8_directionBy_100 (by decide) (fun _ => ?_) (fun c100 => absurd c100 (by decide))
              refine VW.iload_n dX8_directionBy_112 rfl ?_
              refine VW.istore_n (lv' := [(0, _), (1, _), (2, _), (3, _), (4, _), (5, _)]) dX8_directionBy_113 (by decide) rfl ?_
              refine VW.iinc (lv' := [(0, _), (1, _), (2, _), (3, _), (4, _), (5, _)]) dX8_directionBy_114 rfl (by decide) rfl ?_
              refine VW.goto 4 dX8_directionBy_117 (by decide) ?_
              refine VW.sub ?_ [0, 1, 2, 3] rfl
              first
              | (rw [dbF_n (by omega)]; exact ih (d + 1) _ (by omega) (by omega) (by omega); done)
              | (rw [dbF_p (by omega)]; exact ih (d + 1) _ (by omega) (by omega) (by omega); done)
            · refine VW.iconst dX8_directionBy_83 ?_
              refine VW.goto 88 dX8_directionBy_84 (by decide) ?_
              refine VW.icmp_ne 95 (by decide) (by decide) dX8_directionBy_88 (by decide) (fun c88 => absurd c88 (by decide)) (fun _ => ?_)
              refine VW.iconst dX8_directionBy_91 ?_
              refine VW.goto 96 dX8_directionBy_92 (by decide) ?_
              refine VW.istore (lv' := [(0, _), (1, _), (2, _), (3, _), (4, _), (5, _)]) dX8_directionBy_96 (by decide) rfl ?_
              refine VW.iload dX8_directionBy_98 rfl ?_
              refine VW.if_eq 112 (by decide) dX8_directionBy_100 (by decide) (fun _ => ?_) (fun c100 => absurd c100 (by decide))
              refine VW.iload_n dX8_directionBy_112 rfl ?_
              refine VW.istore_n (lv' := [(0, _), (1, _), (2, _), (3, _), (4, _), (5, _)]) dX8_directionBy_113 (by decide) rfl ?_
              refine VW.iinc (lv' := [(0, _), (1, _), (2, _), (3, _), (4, _), (5, _)]) dX8_directionBy_114 rfl (by decide) rfl ?_
              refine VW.goto 4 dX8_directionBy_117 (by decide) ?_
              refine VW.sub ?_ [0, 1, 2, 3] rfl
              first
              | (rw [dbF_n (by omega)]; exact ih (d + 1) _ (by omega) (by omega) (by omega); done)
              | (rw [dbF_p (by omega)]; exact ih (d + 1) _ (by omega) (by omega) (by omega); done)
        · refine VW.iconst dX8_directionBy_59 ?_
          refine VW.goto 64 dX8_directionBy_60 (by decide) ?_
          refine VW.icmp_ne 95 (by decide) (by decide) dX8_directionBy_64 (by decide) (fun _ => ?_) (fun c64 => absurd c64 (by decide))
          refine VW.iconst dX8_directionBy_95 ?_
          refine VW.istore (lv' := [(0, _), (1, _), (2, _), (3, _), (4, _), (5, _)]) dX8_directionBy_96 (by decide) rfl ?_
          refine VW.iload dX8_directionBy_98 rfl ?_
          refine VW.if_eq 112 (by decide) dX8_directionBy_100 (by decide) (fun _ => ?_) (fun c100 => absurd c100 (by decide))
          refine VW.iload_n dX8_directionBy_112 rfl ?_
          refine VW.istore_n (lv' := [(0, _), (1, _), (2, _), (3, _), (4, _), (5, _)]) dX8_directionBy_113 (by decide) rfl ?_
          refine VW.iinc (lv' := [(0, _), (1, _), (2, _), (3, _), (4, _), (5, _)]) dX8_directionBy_114 rfl (by decide) rfl ?_
          refine VW.goto 4 dX8_directionBy_117 (by decide) ?_
          refine VW.sub ?_ [0, 1, 2, 3] rfl
          first
          | (rw [dbF_n (by omega)]; exact ih (d + 1) _ (by omega) (by omega) (by omega); done)
          | (rw [dbF_p (by omega)]; exact ih (d + 1) _ (by omega) (by omega) (by omega); done)
      · refine VW.iconst dX8_directionBy_50 ?_
        refine VW.goto 55 dX8_directionBy_51 (by decide) ?_
        refine VW.iload_n dX8_directionBy_55 rfl ?_
        refine VW.if_ne 63 ⟨by omega, by omega⟩ dX8_directionBy_56 (by decide) (fun c56 => ?_) (fun c56 => ?_)
        · refine VW.iconst dX8_directionBy_63 ?_
          refine VW.icmp_ne 95 (by decide) (by decide) dX8_directionBy_64 (by decide) (fun _ => ?_) (fun c64 => absurd c64 (by decide))
          refine VW.iconst dX8_directionBy_95 ?_
          refine VW.istore (lv' := [(0, _), (1, _), (2, _), (3, _), (4, _), (5, _)]) dX8_directionBy_96 (by decide) rfl ?_
          refine VW.iload dX8_directionBy_98 rfl ?_
          refine VW.if_eq 112 (by decide) dX8_directionBy_100 (by decide) (fun _ => ?_) (fun c100 => absurd c100 (by decide))
          refine VW.iload_n dX8_directionBy_112 rfl ?_
          refine VW.istore_n (lv' := [(0, _), (1, _), (2, _), (3, _), (4, _), (5, _)]) dX8_directionBy_113 (by decide) rfl ?_
          refine VW.iinc (lv' := [(0, _), (1, _), (2, _), (3, _), (4, _), (5, _)]) dX8_directionBy_114 rfl (by decide) rfl ?_
          refine VW.goto 4 dX8_directionBy_117 (by decide) ?_
          refine VW.sub ?_ [0, 1, 2, 3] rfl
          first
          | (rw [dbF_n (by omega)]; exact ih (d + 1) _ (by omega) (by omega) (by omega); done)
          | (rw [dbF_p (by omega)]; exact ih (d + 1) _ (by omega) (by omega) (by omega); done)
        · refine VW.iconst dX8_directionBy_59 ?_
          refine VW.goto 64 dX8_directionBy_60 (by decide) ?_
          refine VW.icmp_ne 95 (by decide) (by decide) dX8_directionBy_64 (by decide) (fun c64 => absurd c64 (by decide)) (fun _ => ?_)
          refine VW.iload_n dX8_directionBy_67 rfl ?_
          refine VW.pS1 cs_X8_directionBy_X8_down dX8_directionBy_68 (Nat.le_of_ble_eq_true rfl) (t_down hst (v := d) (by omega)) ?_
          refine VW.if_ne 78 ⟨by omega, by omega⟩ dX8_directionBy_71 (by decide) (fun c71 => ?_) (fun c71 => ?_)
          · refine VW.iconst dX8_directionBy_78 ?_
            refine VW.iload_n dX8_directionBy_79 rfl ?_
            refine VW.if_ne 87 ⟨by omega, by omega⟩ dX8_directionBy_80 (by decide) (fun c80 => ?_) (fun c80 => ?_)
            · refine VW.iconst dX8_directionBy_87 ?_
              refine VW.icmp_ne 95 (by decide) (by decide) dX8_directionBy_88 (by decide) (fun c88 => absurd c88 (by decide)) (fun _ => ?_)
              refine VW.iconst dX8_directionBy_91 ?_
              refine VW.goto 96 dX8_directionBy_92 (by decide) ?_
              refine VW.istore (lv' := [(0, _), (1, _), (2, _), (3, _), (4, _), (5, _)]) dX8_directionBy_96 (by decide) rfl ?_
              refine VW.iload dX8_directionBy_98 rfl ?_
              refine VW.if_eq 112 (by decide) dX8_directionBy_100 (by decide) (fun _ => ?_) (fun c100 => absurd c100 (by decide))
              refine VW.iload_n dX8_directionBy_112 rfl ?_
              refine VW.istore_n (lv' := [(0, _), (1, _), (2, _), (3, _), (4, _), (5, _)]) dX8_directionBy_113 (by decide) rfl ?_
              refine VW.iinc (lv' := [(0, _), (1, _), (2, _), (3, _), (4, _), (5, _)]) dX8_directionBy_114 rfl (by decide) rfl ?_
              refine VW.goto 4 dX8_directionBy_117 (by decide) ?_
              refine VW.sub ?_ [0, 1, 2, 3] rfl
              first
              | (rw [dbF_n (by omega)]; exact ih (d + 1) _ (by omega) (by omega) (by omega); done)
              | (rw [dbF_p (by omega)]; exact ih (d + 1) _ (by omega) (by omega) (by omega); done)
            · refine VW.iconst dX8_directionBy_83 ?_
              refine VW.goto 88 dX8_directionBy_84 (by decide) ?_
              refine VW.icmp_ne 95 (by decide) (by decide) dX8_directionBy_88 (by decide) (fun _ => ?_) (fun c88 => absurd c88 (by decide))
              refine VW.iconst dX8_directionBy_95 ?_
              refine VW.istore (lv' := [(0, _), (1, _), (2, _), (3, _), (4, _), (5, _)]) dX8_directionBy_96 (by decide) rfl ?_
              refine VW.iload dX8_directionBy_98 rfl ?_
              refine VW.if_eq 112 (by decide) dX8_directionBy_100 (by decide) (fun _ => ?_) (fun c100 => absurd c100 (by decide))
              refine VW.iload_n dX8_directionBy_112 rfl ?_
              refine VW.istore_n (lv' := [(0, _), (1, _), (2, _), (3, _), (4, _), (5, _)]) dX8_directionBy_113 (by decide) rfl ?_
              refine VW.iinc (lv' := [(0, _), (1, _), (2, _), (3, _), (4, _), (5, _)]) dX8_directionBy_114 rfl (by decide) rfl ?_
              refine VW.goto 4 dX8_directionBy_117 (by decide) ?_
              refine VW.sub ?_ [0, 1, 2, 3] rfl
              first
              | (rw [dbF_n (by omega)]; exact ih (d + 1) _ (by omega) (by omega) (by omega); done)
              | (rw [dbF_p (by omega)]; exact ih (d + 1) _ (by omega) (by omega) (by omega); done)
          · refine VW.iconst dX8_directionBy_74 ?_
            refine VW.goto 79 dX8_directionBy_75 (by decide) ?_
            refine VW.iload_n dX8_directionBy_79 rfl ?_
            refine VW.if_ne 87 ⟨by omega, by omega⟩ dX8_directionBy_80 (by decide) (fun c80 => ?_) (fun c80 => ?_)
            · refine VW.iconst dX8_directionBy_87 ?_
              refine VW.icmp_ne 95 (by decide) (by decide) dX8_directionBy_88 (by decide) (fun _ => ?_) (fun c88 => absurd c88 (by decide))
              refine VW.iconst dX8_directionBy_95 ?_
              refine VW.istore (lv' := [(0, _), (1, _), (2, _), (3, _), (4, _), (5, _)]) dX8_directionBy_96 (by decide) rfl ?_
              refine VW.iload dX8_directionBy_98 rfl ?_
              refine VW.if_eq 112 (by decide) dX8_directionBy_100 (by decide) (fun _ => ?_) (fun c100 => absurd c100 (by decide))
              refine VW.iload_n dX8_directionBy_112 rfl ?_
              refine VW.istore_n (lv' := [(0, _), (1, _), (2, _), (3, _), (4, _), (5, _)]) dX8_directionBy_113 (by decide) rfl ?_
              refine VW.iinc (lv' := [(0, _), (1, _), (2, _), (3, _), (4, _), (5, _)]) dX8_directionBy_114 rfl (by decide) rfl ?_
              refine VW.goto 4 dX8_directionBy_117 (by decide) ?_
              refine VW.sub ?_ [0, 1, 2, 3] rfl
              first
              | (rw [dbF_n (by omega)]; exact ih (d + 1) _ (by omega) (by omega) (by omega); done)
              | (rw [dbF_p (by omega)]; exact ih (d + 1) _ (by omega) (by omega) (by omega); done)
            · refine VW.iconst dX8_directionBy_83 ?_
              refine VW.goto 88 dX8_directionBy_84 (by decide) ?_
              refine VW.icmp_ne 95 (by decide) (by decide) dX8_directionBy_88 (by decide) (fun c88 => absurd c88 (by decide)) (fun _ => ?_)
              refine VW.iconst dX8_directionBy_91 ?_
              refine VW.goto 96 dX8_directionBy_92 (by decide) ?_
              refine VW.istore (lv' := [(0, _), (1, _), (2, _), (3, _), (4, _), (5, _)]) dX8_directionBy_96 (by decide) rfl ?_
              refine VW.iload dX8_directionBy_98 rfl ?_
              refine VW.if_eq 112 (by decide) dX8_directionBy_100 (by decide) (fun _ => ?_) (fun c100 => absurd c100 (by decide))
              refine VW.iload_n dX8_directionBy_112 rfl ?_
              refine VW.istore_n (lv' := [(0, _), (1, _), (2, _), (3, _), (4, _), (5, _)]) dX8_directionBy_113 (by decide) rfl ?_
              refine VW.iinc (lv' := [(0, _), (1, _), (2, _), (3, _), (4, _), (5, _)]) dX8_directionBy_114 rfl (by decide) rfl ?_
              refine VW.goto 4 dX8_directionBy_117 (by decide) ?_
              refine VW.sub ?_ [0, 1, 2, 3] rfl
              first
              | (rw [dbF_n (by omega)]; exact ih (d + 1) _ (by omega) (by omega) (by omega); done)
              | (rw [dbF_p (by omega)]; exact ih (d + 1) _ (by omega) (by omega) (by omega); done)
    · refine VW.iload_n dX8_directionBy_23 rfl ?_
      refine VW.pS1 cs_X8_directionBy_X8_down dX8_directionBy_24 (Nat.le_of_ble_eq_true rfl) (t_down hst (v := d) (by omega)) ?_
      refine VW.iload_n dX8_directionBy_27 rfl ?_
      refine VW.pS1 cs_X8_directionBy_X8_size dX8_directionBy_28 (Nat.le_of_ble_eq_true rfl) (t_size hst (by omega)) ?_
      refine VW.imul dX8_directionBy_31 ?_
      refine VW.iload_n dX8_directionBy_32 rfl ?_
      refine VW.icmp_ne 40 ⟨by omega, by omega⟩ ⟨by omega, by omega⟩ dX8_directionBy_33 (by decide) (fun c33 => ?_) (fun c33 => ?_)
      · refine VW.iconst dX8_directionBy_40 ?_
        refine VW.istore (lv' := [(0, _), (1, _), (2, _), (3, _), (4, _)]) dX8_directionBy_41 (by decide) rfl ?_
        refine VW.iload_n dX8_directionBy_43 rfl ?_
        refine VW.pS1 cs_X8_directionBy_X8_across dX8_directionBy_44 (Nat.le_of_ble_eq_true rfl) (t_across hst (v := d) (by omega)) ?_
        refine VW.if_ne 54 ⟨by omega, by omega⟩ dX8_directionBy_47 (by decide) (fun c47 => ?_) (fun c47 => ?_)
        · refine VW.iconst dX8_directionBy_54 ?_
          refine VW.iload_n dX8_directionBy_55 rfl ?_
          refine VW.if_ne 63 ⟨by omega, by omega⟩ dX8_directionBy_56 (by decide) (fun c56 => ?_) (fun c56 => ?_)
          · refine VW.iconst dX8_directionBy_63 ?_
            refine VW.icmp_ne 95 (by decide) (by decide) dX8_directionBy_64 (by decide) (fun c64 => absurd c64 (by decide)) (fun _ => ?_)
            refine VW.iload_n dX8_directionBy_67 rfl ?_
            refine VW.pS1 cs_X8_directionBy_X8_down dX8_directionBy_68 (Nat.le_of_ble_eq_true rfl) (t_down hst (v := d) (by omega)) ?_
            refine VW.if_ne 78 ⟨by omega, by omega⟩ dX8_directionBy_71 (by decide) (fun c71 => ?_) (fun c71 => ?_)
            · refine VW.iconst dX8_directionBy_78 ?_
              refine VW.iload_n dX8_directionBy_79 rfl ?_
              refine VW.if_ne 87 ⟨by omega, by omega⟩ dX8_directionBy_80 (by decide) (fun c80 => ?_) (fun c80 => ?_)
              · refine VW.iconst dX8_directionBy_87 ?_
                refine VW.icmp_ne 95 (by decide) (by decide) dX8_directionBy_88 (by decide) (fun c88 => absurd c88 (by decide)) (fun _ => ?_)
                refine VW.iconst dX8_directionBy_91 ?_
                refine VW.goto 96 dX8_directionBy_92 (by decide) ?_
                refine VW.istore (lv' := [(0, _), (1, _), (2, _), (3, _), (4, _), (5, _)]) dX8_directionBy_96 (by decide) rfl ?_
                refine VW.iload dX8_directionBy_98 rfl ?_
                refine VW.if_eq 112 (by decide) dX8_directionBy_100 (by decide) (fun _ => ?_) (fun c100 => absurd c100 (by decide))
                refine VW.iload_n dX8_directionBy_112 rfl ?_
                refine VW.istore_n (lv' := [(0, _), (1, _), (2, _), (3, _), (4, _), (5, _)]) dX8_directionBy_113 (by decide) rfl ?_
                refine VW.iinc (lv' := [(0, _), (1, _), (2, _), (3, _), (4, _), (5, _)]) dX8_directionBy_114 rfl (by decide) rfl ?_
                refine VW.goto 4 dX8_directionBy_117 (by decide) ?_
                refine VW.sub ?_ [0, 1, 2, 3] rfl
                first
                | (rw [dbF_n (by omega)]; exact ih (d + 1) _ (by omega) (by omega) (by omega); done)
                | (rw [dbF_p (by omega)]; exact ih (d + 1) _ (by omega) (by omega) (by omega); done)
              · refine VW.iconst dX8_directionBy_83 ?_
                refine VW.goto 88 dX8_directionBy_84 (by decide) ?_
                refine VW.icmp_ne 95 (by decide) (by decide) dX8_directionBy_88 (by decide) (fun _ => ?_) (fun c88 => absurd c88 (by decide))
                refine VW.iconst dX8_directionBy_95 ?_
                refine VW.istore (lv' := [(0, _), (1, _), (2, _), (3, _), (4, _), (5, _)]) dX8_directionBy_96 (by decide) rfl ?_
                refine VW.iload dX8_directionBy_98 rfl ?_
                refine VW.if_eq 112 (by decide) dX8_directionBy_100 (by decide) (fun _ => ?_) (fun c100 => absurd c100 (by decide))
                refine VW.iload_n dX8_directionBy_112 rfl ?_
                refine VW.istore_n (lv' := [(0, _), (1, _), (2, _), (3, _), (4, _), (5, _)]) dX8_directionBy_113 (by decide) rfl ?_
                refine VW.iinc (lv' := [(0, _), (1, _), (2, _), (3, _), (4, _), (5, _)]) dX8_directionBy_114 rfl (by decide) rfl ?_
                refine VW.goto 4 dX8_directionBy_117 (by decide) ?_
                refine VW.sub ?_ [0, 1, 2, 3] rfl
                first
                | (rw [dbF_n (by omega)]; exact ih (d + 1) _ (by omega) (by omega) (by omega); done)
                | (rw [dbF_p (by omega)]; exact ih (d + 1) _ (by omega) (by omega) (by omega); done)
            · refine VW.iconst dX8_directionBy_74 ?_
              refine VW.goto 79 dX8_directionBy_75 (by decide) ?_
              refine VW.iload_n dX8_directionBy_79 rfl ?_
              refine VW.if_ne 87 ⟨by omega, by omega⟩ dX8_directionBy_80 (by decide) (fun c80 => ?_) (fun c80 => ?_)
              · refine VW.iconst dX8_directionBy_87 ?_
                refine VW.icmp_ne 95 (by decide) (by decide) dX8_directionBy_88 (by decide) (fun _ => ?_) (fun c88 => absurd c88 (by decide))
                refine VW.iconst dX8_directionBy_95 ?_
                refine VW.istore (lv' := [(0, _), (1, _), (2, _), (3, _), (4, _), (5, _)]) dX8_directionBy_96 (by decide) rfl ?_
                refine VW.iload dX8_directionBy_98 rfl ?_
                refine VW.if_eq 112 (by decide) dX8_directionBy_100 (by decide) (fun _ => ?_) (fun c100 => absurd c100 (by decide))
                refine VW.iload_n dX8_directionBy_112 rfl ?_
                refine VW.istore_n (lv' := [(0, _), (1, _), (2, _), (3, _), (4, _), (5, _)]) dX8_directionBy_113 (by decide) rfl ?_
                refine VW.iinc (lv' := [(0, _), (1, _), (2, _), (3, _), (4, _), (5, _)]) dX8_directionBy_114 rfl (by decide) rfl ?_
                refine VW.goto 4 dX8_directionBy_117 (by decide) ?_
                refine VW.sub ?_ [0, 1, 2, 3] rfl
                first
                | (rw [dbF_n (by omega)]; exact ih (d + 1) _ (by omega) (by omega) (by omega); done)
                | (rw [dbF_p (by omega)]; exact ih (d + 1) _ (by omega) (by omega) (by omega); done)
              · refine VW.iconst dX8_directionBy_83 ?_
                refine VW.goto 88 dX8_directionBy_84 (by decide) ?_
                refine VW.icmp_ne 95 (by decide) (by decide) dX8_directionBy_88 (by decide) (fun c88 => absurd c88 (by decide)) (fun _ => ?_)
                refine VW.iconst dX8_directionBy_91 ?_
                refine VW.goto 96 dX8_directionBy_92 (by decide) ?_
                refine VW.istore (lv' := [(0, _), (1, _), (2, _), (3, _), (4, _), (5, _)]) dX8_directionBy_96 (by decide) rfl ?_
                refine VW.iload dX8_directionBy_98 rfl ?_
                refine VW.if_eq 112 (by decide) dX8_directionBy_100 (by decide) (fun _ => ?_) (fun c100 => absurd c100 (by decide))
                refine VW.iload_n dX8_directionBy_112 rfl ?_
                refine VW.istore_n (lv' := [(0, _), (1, _), (2, _), (3, _), (4, _), (5, _)]) dX8_directionBy_113 (by decide) rfl ?_
                refine VW.iinc (lv' := [(0, _), (1, _), (2, _), (3, _), (4, _), (5, _)]) dX8_directionBy_114 rfl (by decide) rfl ?_
                refine VW.goto 4 dX8_directionBy_117 (by decide) ?_
                refine VW.sub ?_ [0, 1, 2, 3] rfl
                first
                | (rw [dbF_n (by omega)]; exact ih (d + 1) _ (by omega) (by omega) (by omega); done)
                | (rw [dbF_p (by omega)]; exact ih (d + 1) _ (by omega) (by omega) (by omega); done)
          · refine VW.iconst dX8_directionBy_59 ?_
            refine VW.goto 64 dX8_directionBy_60 (by decide) ?_
            refine VW.icmp_ne 95 (by decide) (by decide) dX8_directionBy_64 (by decide) (fun _ => ?_) (fun c64 => absurd c64 (by decide))
            refine VW.iconst dX8_directionBy_95 ?_
            refine VW.istore (lv' := [(0, _), (1, _), (2, _), (3, _), (4, _), (5, _)]) dX8_directionBy_96 (by decide) rfl ?_
            refine VW.iload dX8_directionBy_98 rfl ?_
            refine VW.if_eq 112 (by decide) dX8_directionBy_100 (by decide) (fun _ => ?_) (fun c100 => absurd c100 (by decide))
            refine VW.iload_n dX8_directionBy_112 rfl ?_
            refine VW.istore_n (lv' := [(0, _), (1, _), (2, _), (3, _), (4, _), (5, _)]) dX8_directionBy_113 (by decide) rfl ?_
            refine VW.iinc (lv' := [(0, _), (1, _), (2, _), (3, _), (4, _), (5, _)]) dX8_directionBy_114 rfl (by decide) rfl ?_
            refine VW.goto 4 dX8_directionBy_117 (by decide) ?_
            refine VW.sub ?_ [0, 1, 2, 3] rfl
            first
            | (rw [dbF_n (by omega)]; exact ih (d + 1) _ (by omega) (by omega) (by omega); done)
            | (rw [dbF_p (by omega)]; exact ih (d + 1) _ (by omega) (by omega) (by omega); done)
        · refine VW.iconst dX8_directionBy_50 ?_
          refine VW.goto 55 dX8_directionBy_51 (by decide) ?_
          refine VW.iload_n dX8_directionBy_55 rfl ?_
          refine VW.if_ne 63 ⟨by omega, by omega⟩ dX8_directionBy_56 (by decide) (fun c56 => ?_) (fun c56 => ?_)
          · refine VW.iconst dX8_directionBy_63 ?_
            refine VW.icmp_ne 95 (by decide) (by decide) dX8_directionBy_64 (by decide) (fun _ => ?_) (fun c64 => absurd c64 (by decide))
            refine VW.iconst dX8_directionBy_95 ?_
            refine VW.istore (lv' := [(0, _), (1, _), (2, _), (3, _), (4, _), (5, _)]) dX8_directionBy_96 (by decide) rfl ?_
            refine VW.iload dX8_directionBy_98 rfl ?_
            refine VW.if_eq 112 (by decide) dX8_directionBy_100 (by decide) (fun _ => ?_) (fun c100 => absurd c100 (by decide))
            refine VW.iload_n dX8_directionBy_112 rfl ?_
            refine VW.istore_n (lv' := [(0, _), (1, _), (2, _), (3, _), (4, _), (5, _)]) dX8_directionBy_113 (by decide) rfl ?_
            refine VW.iinc (lv' := [(0, _), (1, _), (2, _), (3, _), (4, _), (5, _)]) dX8_directionBy_114 rfl (by decide) rfl ?_
            refine VW.goto 4 dX8_directionBy_117 (by decide) ?_
            refine VW.sub ?_ [0, 1, 2, 3] rfl
            first
            | (rw [dbF_n (by omega)]; exact ih (d + 1) _ (by omega) (by omega) (by omega); done)
            | (rw [dbF_p (by omega)]; exact ih (d + 1) _ (by omega) (by omega) (by omega); done)
          · refine VW.iconst dX8_directionBy_59 ?_
            refine VW.goto 64 dX8_directionBy_60 (by decide) ?_
            refine VW.icmp_ne 95 (by decide) (by decide) dX8_directionBy_64 (by decide) (fun c64 => absurd c64 (by decide)) (fun _ => ?_)
            refine VW.iload_n dX8_directionBy_67 rfl ?_
            refine VW.pS1 cs_X8_directionBy_X8_down dX8_directionBy_68 (Nat.le_of_ble_eq_true rfl) (t_down hst (v := d) (by omega)) ?_
            refine VW.if_ne 78 ⟨by omega, by omega⟩ dX8_directionBy_71 (by decide) (fun c71 => ?_) (fun c71 => ?_)
            · refine VW.iconst dX8_directionBy_78 ?_
              refine VW.iload_n dX8_directionBy_79 rfl ?_
              refine VW.if_ne 87 ⟨by omega, by omega⟩ dX8_directionBy_80 (by decide) (fun c80 => ?_) (fun c80 => ?_)
              · refine VW.iconst dX8_directionBy_87 ?_
                refine VW.icmp_ne 95 (by decide) (by decide) dX8_directionBy_88 (by decide) (fun c88 => absurd c88 (by decide)) (fun _ => ?_)
                refine VW.iconst dX8_directionBy_91 ?_
                refine VW.goto 96 dX8_directionBy_92 (by decide) ?_
                refine VW.istore (lv' := [(0, _), (1, _), (2, _), (3, _), (4, _), (5, _)]) dX8_directionBy_96 (by decide) rfl ?_
                refine VW.iload dX8_directionBy_98 rfl ?_
                refine VW.if_eq 112 (by decide) dX8_directionBy_100 (by decide) (fun _ => ?_) (fun c100 => absurd c100 (by decide))
                refine VW.iload_n dX8_directionBy_112 rfl ?_
                refine VW.istore_n (lv' := [(0, _), (1, _), (2, _), (3, _), (4, _), (5, _)]) dX8_directionBy_113 (by decide) rfl ?_
                refine VW.iinc (lv' := [(0, _), (1, _), (2, _), (3, _), (4, _), (5, _)]) dX8_directionBy_114 rfl (by decide) rfl ?_
                refine VW.goto 4 dX8_directionBy_117 (by decide) ?_
                refine VW.sub ?_ [0, 1, 2, 3] rfl
                first
                | (rw [dbF_n (by omega)]; exact ih (d + 1) _ (by omega) (by omega) (by omega); done)
                | (rw [dbF_p (by omega)]; exact ih (d + 1) _ (by omega) (by omega) (by omega); done)
              · refine VW.iconst dX8_directionBy_83 ?_
                refine VW.goto 88 dX8_directionBy_84 (by decide) ?_
                refine VW.icmp_ne 95 (by decide) (by decide) dX8_directionBy_88 (by decide) (fun _ => ?_) (fun c88 => absurd c88 (by decide))
                refine VW.iconst dX8_directionBy_95 ?_
                refine VW.istore (lv' := [(0, _), (1, _), (2, _), (3, _), (4, _), (5, _)]) dX8_directionBy_96 (by decide) rfl ?_
                refine VW.iload dX8_directionBy_98 rfl ?_
                refine VW.if_eq 112 (by decide) dX8_directionBy_100 (by decide) (fun _ => ?_) (fun c100 => absurd c100 (by decide))
                refine VW.iload_n dX8_directionBy_112 rfl ?_
                refine VW.istore_n (lv' := [(0, _), (1, _), (2, _), (3, _), (4, _), (5, _)]) dX8_directionBy_113 (by decide) rfl ?_
                refine VW.iinc (lv' := [(0, _), (1, _), (2, _), (3, _), (4, _), (5, _)]) dX8_directionBy_114 rfl (by decide) rfl ?_
                refine VW.goto 4 dX8_directionBy_117 (by decide) ?_
                refine VW.sub ?_ [0, 1, 2, 3] rfl
                first
                | (rw [dbF_n (by omega)]; exact ih (d + 1) _ (by omega) (by omega) (by omega); done)
                | (rw [dbF_p (by omega)]; exact ih (d + 1) _ (by omega) (by omega) (by omega); done)
            · refine VW.iconst dX8_directionBy_74 ?_
              refine VW.goto 79 dX8_directionBy_75 (by decide) ?_
              refine VW.iload_n dX8_directionBy_79 rfl ?_
              refine VW.if_ne 87 ⟨by omega, by omega⟩ dX8_directionBy_80 (by decide) (fun c80 => ?_) (fun c80 => ?_)
              · refine VW.iconst dX8_directionBy_87 ?_
                refine VW.icmp_ne 95 (by decide) (by decide) dX8_directionBy_88 (by decide) (fun _ => ?_) (fun c88 => absurd c88 (by decide))
                refine VW.iconst dX8_directionBy_95 ?_
                refine VW.istore (lv' := [(0, _), (1, _), (2, _), (3, _), (4, _), (5, _)]) dX8_directionBy_96 (by decide) rfl ?_
                refine VW.iload dX8_directionBy_98 rfl ?_
                refine VW.if_eq 112 (by decide) dX8_directionBy_100 (by decide) (fun _ => ?_) (fun c100 => absurd c100 (by decide))
                refine VW.iload_n dX8_directionBy_112 rfl ?_
                refine VW.istore_n (lv' := [(0, _), (1, _), (2, _), (3, _), (4, _), (5, _)]) dX8_directionBy_113 (by decide) rfl ?_
                refine VW.iinc (lv' := [(0, _), (1, _), (2, _), (3, _), (4, _), (5, _)]) dX8_directionBy_114 rfl (by decide) rfl ?_
                refine VW.goto 4 dX8_directionBy_117 (by decide) ?_
                refine VW.sub ?_ [0, 1, 2, 3] rfl
                first
                | (rw [dbF_n (by omega)]; exact ih (d + 1) _ (by omega) (by omega) (by omega); done)
                | (rw [dbF_p (by omega)]; exact ih (d + 1) _ (by omega) (by omega) (by omega); done)
              · refine VW.iconst dX8_directionBy_83 ?_
                refine VW.goto 88 dX8_directionBy_84 (by decide) ?_
                refine VW.icmp_ne 95 (by decide) (by decide) dX8_directionBy_88 (by decide) (fun c88 => absurd c88 (by decide)) (fun _ => ?_)
                refine VW.iconst dX8_directionBy_91 ?_
                refine VW.goto 96 dX8_directionBy_92 (by decide) ?_
                refine VW.istore (lv' := [(0, _), (1, _), (2, _), (3, _), (4, _), (5, _)]) dX8_directionBy_96 (by decide) rfl ?_
                refine VW.iload dX8_directionBy_98 rfl ?_
                refine VW.if_eq 112 (by decide) dX8_directionBy_100 (by decide) (fun _ => ?_) (fun c100 => absurd c100 (by decide))
                refine VW.iload_n dX8_directionBy_112 rfl ?_
                refine VW.istore_n (lv' := [(0, _), (1, _), (2, _), (3, _), (4, _), (5, _)]) dX8_directionBy_113 (by decide) rfl ?_
                refine VW.iinc (lv' := [(0, _), (1, _), (2, _), (3, _), (4, _), (5, _)]) dX8_directionBy_114 rfl (by decide) rfl ?_
                refine VW.goto 4 dX8_directionBy_117 (by decide) ?_
                refine VW.sub ?_ [0, 1, 2, 3] rfl
                first
                | (rw [dbF_n (by omega)]; exact ih (d + 1) _ (by omega) (by omega) (by omega); done)
                | (rw [dbF_p (by omega)]; exact ih (d + 1) _ (by omega) (by omega) (by omega); done)
      · refine VW.iconst dX8_directionBy_36 ?_
        refine VW.goto 41 dX8_directionBy_37 (by decide) ?_
        refine VW.istore (lv' := [(0, _), (1, _), (2, _), (3, _), (4, _)]) dX8_directionBy_41 (by decide) rfl ?_
        refine VW.iload_n dX8_directionBy_43 rfl ?_
        refine VW.pS1 cs_X8_directionBy_X8_across dX8_directionBy_44 (Nat.le_of_ble_eq_true rfl) (t_across hst (v := d) (by omega)) ?_
        refine VW.if_ne 54 ⟨by omega, by omega⟩ dX8_directionBy_47 (by decide) (fun c47 => ?_) (fun c47 => ?_)
        · refine VW.iconst dX8_directionBy_54 ?_
          refine VW.iload_n dX8_directionBy_55 rfl ?_
          refine VW.if_ne 63 ⟨by omega, by omega⟩ dX8_directionBy_56 (by decide) (fun c56 => ?_) (fun c56 => ?_)
          · refine VW.iconst dX8_directionBy_63 ?_
            refine VW.icmp_ne 95 (by decide) (by decide) dX8_directionBy_64 (by decide) (fun c64 => absurd c64 (by decide)) (fun _ => ?_)
            refine VW.iload_n dX8_directionBy_67 rfl ?_
            refine VW.pS1 cs_X8_directionBy_X8_down dX8_directionBy_68 (Nat.le_of_ble_eq_true rfl) (t_down hst (v := d) (by omega)) ?_
            refine VW.if_ne 78 ⟨by omega, by omega⟩ dX8_directionBy_71 (by decide) (fun c71 => ?_) (fun c71 => ?_)
            · refine VW.iconst dX8_directionBy_78 ?_
              refine VW.iload_n dX8_directionBy_79 rfl ?_
              refine VW.if_ne 87 ⟨by omega, by omega⟩ dX8_directionBy_80 (by decide) (fun c80 => ?_) (fun c80 => ?_)
              · refine VW.iconst dX8_directionBy_87 ?_
                refine VW.icmp_ne 95 (by decide) (by decide) dX8_directionBy_88 (by decide) (fun c88 => absurd c88 (by decide)) (fun _ => ?_)
                refine VW.iconst dX8_directionBy_91 ?_
                refine VW.goto 96 dX8_directionBy_92 (by decide) ?_
                refine VW.istore (lv' := [(0, _), (1, _), (2, _), (3, _), (4, _), (5, _)]) dX8_directionBy_96 (by decide) rfl ?_
                refine VW.iload dX8_directionBy_98 rfl ?_
                refine VW.if_eq 112 (by decide) dX8_directionBy_100 (by decide) (fun c100 => absurd c100 (by decide)) (fun _ => ?_)
                refine VW.iload dX8_directionBy_103 rfl ?_
                refine VW.if_eq 112 (by decide) dX8_directionBy_105 (by decide) (fun c105 => absurd c105 (by decide)) (fun _ => ?_)
                refine VW.iload_n dX8_directionBy_108 rfl ?_
                refine VW.goto 113 dX8_directionBy_109 (by decide) ?_
                refine VW.istore_n (lv' := [(0, _), (1, _), (2, _), (3, _), (4, _), (5, _)]) dX8_directionBy_113 (by decide) rfl ?_
                refine VW.iinc (lv' := [(0, _), (1, _), (2, _), (3, _), (4, _), (5, _)]) dX8_directionBy_114 rfl (by decide) rfl ?_
                refine VW.goto 4 dX8_directionBy_117 (by decide) ?_
                refine VW.sub ?_ [0, 1, 2, 3] rfl
                first
                | (rw [dbF_n (by omega)]; exact ih (d + 1) _ (by omega) (by omega) (by omega); done)
                | (rw [dbF_p (by omega)]; exact ih (d + 1) _ (by omega) (by omega) (by omega); done)
              · refine VW.iconst dX8_directionBy_83 ?_
                refine VW.goto 88 dX8_directionBy_84 (by decide) ?_
                refine VW.icmp_ne 95 (by decide) (by decide) dX8_directionBy_88 (by decide) (fun _ => ?_) (fun c88 => absurd c88 (by decide))
                refine VW.iconst dX8_directionBy_95 ?_
                refine VW.istore (lv' := [(0, _), (1, _), (2, _), (3, _), (4, _), (5, _)]) dX8_directionBy_96 (by decide) rfl ?_
                refine VW.iload dX8_directionBy_98 rfl ?_
                refine VW.if_eq 112 (by decide) dX8_directionBy_100 (by decide) (fun c100 => absurd c100 (by decide)) (fun _ => ?_)
                refine VW.iload dX8_directionBy_103 rfl ?_
                refine VW.if_eq 112 (by decide) dX8_directionBy_105 (by decide) (fun _ => ?_) (fun c105 => absurd c105 (by decide))
                refine VW.iload_n dX8_directionBy_112 rfl ?_
                refine VW.istore_n (lv' := [(0, _), (1, _), (2, _), (3, _), (4, _), (5, _)]) dX8_directionBy_113 (by decide) rfl ?_
                refine VW.iinc (lv' := [(0, _), (1, _), (2, _), (3, _), (4, _), (5, _)]) dX8_directionBy_114 rfl (by decide) rfl ?_
                refine VW.goto 4 dX8_directionBy_117 (by decide) ?_
                refine VW.sub ?_ [0, 1, 2, 3] rfl
                first
                | (rw [dbF_n (by omega)]; exact ih (d + 1) _ (by omega) (by omega) (by omega); done)
                | (rw [dbF_p (by omega)]; exact ih (d + 1) _ (by omega) (by omega) (by omega); done)
            · refine VW.iconst dX8_directionBy_74 ?_
              refine VW.goto 79 dX8_directionBy_75 (by decide) ?_
              refine VW.iload_n dX8_directionBy_79 rfl ?_
              refine VW.if_ne 87 ⟨by omega, by omega⟩ dX8_directionBy_80 (by decide) (fun c80 => ?_) (fun c80 => ?_)
              · refine VW.iconst dX8_directionBy_87 ?_
                refine VW.icmp_ne 95 (by decide) (by decide) dX8_directionBy_88 (by decide) (fun _ => ?_) (fun c88 => absurd c88 (by decide))
                refine VW.iconst dX8_directionBy_95 ?_
                refine VW.istore (lv' := [(0, _), (1, _), (2, _), (3, _), (4, _), (5, _)]) dX8_directionBy_96 (by decide) rfl ?_
                refine VW.iload dX8_directionBy_98 rfl ?_
                refine VW.if_eq 112 (by decide) dX8_directionBy_100 (by decide) (fun c100 => absurd c100 (by decide)) (fun _ => ?_)
                refine VW.iload dX8_directionBy_103 rfl ?_
                refine VW.if_eq 112 (by decide) dX8_directionBy_105 (by decide) (fun _ => ?_) (fun c105 => absurd c105 (by decide))
                refine VW.iload_n dX8_directionBy_112 rfl ?_
                refine VW.istore_n (lv' := [(0, _), (1, _), (2, _), (3, _), (4, _), (5, _)]) dX8_directionBy_113 (by decide) rfl ?_
                refine VW.iinc (lv' := [(0, _), (1, _), (2, _), (3, _), (4, _), (5, _)]) dX8_directionBy_114 rfl (by decide) rfl ?_
                refine VW.goto 4 dX8_directionBy_117 (by decide) ?_
                refine VW.sub ?_ [0, 1, 2, 3] rfl
                first
                | (rw [dbF_n (by omega)]; exact ih (d + 1) _ (by omega) (by omega) (by omega); done)
                | (rw [dbF_p (by omega)]; exact ih (d + 1) _ (by omega) (by omega) (by omega); done)
              · refine VW.iconst dX8_directionBy_83 ?_
                refine VW.goto 88 dX8_directionBy_84 (by decide) ?_
                refine VW.icmp_ne 95 (by decide) (by decide) dX8_directionBy_88 (by decide) (fun c88 => absurd c88 (by decide)) (fun _ => ?_)
                refine VW.iconst dX8_directionBy_91 ?_
                refine VW.goto 96 dX8_directionBy_92 (by decide) ?_
                refine VW.istore (lv' := [(0, _), (1, _), (2, _), (3, _), (4, _), (5, _)]) dX8_directionBy_96 (by decide) rfl ?_
                refine VW.iload dX8_directionBy_98 rfl ?_
                refine VW.if_eq 112 (by decide) dX8_directionBy_100 (by decide) (fun c100 => absurd c100 (by decide)) (fun _ => ?_)
                refine VW.iload dX8_directionBy_103 rfl ?_
                refine VW.if_eq 112 (by decide) dX8_directionBy_105 (by decide) (fun c105 => absurd c105 (by decide)) (fun _ => ?_)
                refine VW.iload_n dX8_directionBy_108 rfl ?_
                refine VW.goto 113 dX8_directionBy_109 (by decide) ?_
                refine VW.istore_n (lv' := [(0, _), (1, _), (2, _), (3, _), (4, _), (5, _)]) dX8_directionBy_113 (by decide) rfl ?_
                refine VW.iinc (lv' := [(0, _), (1, _), (2, _), (3, _), (4, _), (5, _)]) dX8_directionBy_114 rfl (by decide) rfl ?_
                refine VW.goto 4 dX8_directionBy_117 (by decide) ?_
                refine VW.sub ?_ [0, 1, 2, 3] rfl
                first
                | (rw [dbF_n (by omega)]; exact ih (d + 1) _ (by omega) (by omega) (by omega); done)
                | (rw [dbF_p (by omega)]; exact ih (d + 1) _ (by omega) (by omega) (by omega); done)
          · refine VW.iconst dX8_directionBy_59 ?_
            refine VW.goto 64 dX8_directionBy_60 (by decide) ?_
            refine VW.icmp_ne 95 (by decide) (by decide) dX8_directionBy_64 (by decide) (fun _ => ?_) (fun c64 => absurd c64 (by decide))
            refine VW.iconst dX8_directionBy_95 ?_
            refine VW.istore (lv' := [(0, _), (1, _), (2, _), (3, _), (4, _), (5, _)]) dX8_directionBy_96 (by decide) rfl ?_
            refine VW.iload dX8_directionBy_98 rfl ?_
            refine VW.if_eq 112 (by decide) dX8_directionBy_100 (by decide) (fun c100 => absurd c100 (by decide)) (fun _ => ?_)
            refine VW.iload dX8_directionBy_103 rfl ?_
            refine VW.if_eq 112 (by decide) dX8_directionBy_105 (by decide) (fun _ => ?_) (fun c105 => absurd c105 (by decide))
            refine VW.iload_n dX8_directionBy_112 rfl ?_
            refine VW.istore_n (lv' := [(0, _), (1, _), (2, _), (3, _), (4, _), (5, _)]) dX8_directionBy_113 (by decide) rfl ?_
            refine VW.iinc (lv' := [(0, _), (1, _), (2, _), (3, _), (4, _), (5, _)]) dX8_directionBy_114 rfl (by decide) rfl ?_
            refine VW.goto 4 dX8_directionBy_117 (by decide) ?_
            refine VW.sub ?_ [0, 1, 2, 3] rfl
            first
            | (rw [dbF_n (by omega)]; exact ih (d + 1) _ (by omega) (by omega) (by omega); done)
            | (rw [dbF_p (by omega)]; exact ih (d + 1) _ (by omega) (by omega) (by omega); done)
        · refine VW.iconst dX8_directionBy_50 ?_
          refine VW.goto 55 dX8_directionBy_51 (by decide) ?_
          refine VW.iload_n dX8_directionBy_55 rfl ?_
          refine VW.if_ne 63 ⟨by omega, by omega⟩ dX8_directionBy_56 (by decide) (fun c56 => ?_) (fun c56 => ?_)
          · refine VW.iconst dX8_directionBy_63 ?_
            refine VW.icmp_ne 95 (by decide) (by decide) dX8_directionBy_64 (by decide) (fun _ => ?_) (fun c64 => absurd c64 (by decide))
            refine VW.iconst dX8_directionBy_95 ?_
            refine VW.istore (lv' := [(0, _), (1, _), (2, _), (3, _), (4, _), (5, _)]) dX8_directionBy_96 (by decide) rfl ?_
            refine VW.iload dX8_directionBy_98 rfl ?_
            refine VW.if_eq 112 (by decide) dX8_directionBy_100 (by decide) (fun c100 => absurd c100 (by decide)) (fun _ => ?_)
            refine VW.iload dX8_directionBy_103 rfl ?_
            refine VW.if_eq 112 (by decide) dX8_directionBy_105 (by decide) (fun _ => ?_) (fun c105 => absurd c105 (by decide))
            refine VW.iload_n dX8_directionBy_112 rfl ?_
            refine VW.istore_n (lv' := [(0, _), (1, _), (2, _), (3, _), (4, _), (5, _)]) dX8_directionBy_113 (by decide) rfl ?_
            refine VW.iinc (lv' := [(0, _), (1, _), (2, _), (3, _), (4, _), (5, _)]) dX8_directionBy_114 rfl (by decide) rfl ?_
            refine VW.goto 4 dX8_directionBy_117 (by decide) ?_
            refine VW.sub ?_ [0, 1, 2, 3] rfl
            first
            | (rw [dbF_n (by omega)]; exact ih (d + 1) _ (by omega) (by omega) (by omega); done)
            | (rw [dbF_p (by omega)]; exact ih (d + 1) _ (by omega) (by omega) (by omega); done)
          · refine VW.iconst dX8_directionBy_59 ?_
            refine VW.goto 64 dX8_directionBy_60 (by decide) ?_
            refine VW.icmp_ne 95 (by decide) (by decide) dX8_directionBy_64 (by decide) (fun c64 => absurd c64 (by decide)) (fun _ => ?_)
            refine VW.iload_n dX8_directionBy_67 rfl ?_
            refine VW.pS1 cs_X8_directionBy_X8_down dX8_directionBy_68 (Nat.le_of_ble_eq_true rfl) (t_down hst (v := d) (by omega)) ?_
            refine VW.if_ne 78 ⟨by omega, by omega⟩ dX8_directionBy_71 (by decide) (fun c71 => ?_) (fun c71 => ?_)
            · refine VW.iconst dX8_directionBy_78 ?_
              refine VW.iload_n dX8_directionBy_79 rfl ?_
              refine VW.if_ne 87 ⟨by omega, by omega⟩ dX8_directionBy_80 (by decide) (fun c80 => ?_) (fun c80 => ?_)
              · refine VW.iconst dX8_directionBy_87 ?_
                refine VW.icmp_ne 95 (by decide) (by decide) dX8_directionBy_88 (by decide) (fun c88 => absurd c88 (by decide)) (fun _ => ?_)
                refine VW.iconst dX8_directionBy_91 ?_
                refine VW.goto 96 dX8_directionBy_92 (by decide) ?_
                refine VW.istore (lv' := [(0, _), (1, _), (2, _), (3, _), (4, _), (5, _)]) dX8_directionBy_96 (by decide) rfl ?_
                refine VW.iload dX8_directionBy_98 rfl ?_
                refine VW.if_eq 112 (by decide) dX8_directionBy_100 (by decide) (fun c100 => absurd c100 (by decide)) (fun _ => ?_)
                refine VW.iload dX8_directionBy_103 rfl ?_
                refine VW.if_eq 112 (by decide) dX8_directionBy_105 (by decide) (fun c105 => absurd c105 (by decide)) (fun _ => ?_)
                refine VW.iload_n dX8_directionBy_108 rfl ?_
                refine VW.goto 113 dX8_directionBy_109 (by decide) ?_
                refine VW.istore_n (lv' := [(0, _), (1, _), (2, _), (3, _), (4, _), (5, _)]) dX8_directionBy_113 (by decide) rfl ?_
                refine VW.iinc (lv' := [(0, _), (1, _), (2, _), (3, _), (4, _), (5, _)]) dX8_directionBy_114 rfl (by decide) rfl ?_
                refine VW.goto 4 dX8_directionBy_117 (by decide) ?_
                refine VW.sub ?_ [0, 1, 2, 3] rfl
                first
                | (rw [dbF_n (by omega)]; exact ih (d + 1) _ (by omega) (by omega) (by omega); done)
                | (rw [dbF_p (by omega)]; exact ih (d + 1) _ (by omega) (by omega) (by omega); done)
              · refine VW.iconst dX8_directionBy_83 ?_
                refine VW.goto 88 dX8_directionBy_84 (by decide) ?_
                refine VW.icmp_ne 95 (by decide) (by decide) dX8_directionBy_88 (by decide) (fun _ => ?_) (fun c88 => absurd c88 (by decide))
                refine VW.iconst dX8_directionBy_95 ?_
                refine VW.istore (lv' := [(0, _), (1, _), (2, _), (3, _), (4, _), (5, _)]) dX8_directionBy_96 (by decide) rfl ?_
                refine VW.iload dX8_directionBy_98 rfl ?_
                refine VW.if_eq 112 (by decide) dX8_directionBy_100 (by decide) (fun c100 => absurd c100 (by decide)) (fun _ => ?_)
                refine VW.iload dX8_directionBy_103 rfl ?_
                refine VW.if_eq 112 (by decide) dX8_directionBy_105 (by decide) (fun _ => ?_) (fun c105 => absurd c105 (by decide))
                refine VW.iload_n dX8_directionBy_112 rfl ?_
                refine VW.istore_n (lv' := [(0, _), (1, _), (2, _), (3, _), (4, _), (5, _)]) dX8_directionBy_113 (by decide) rfl ?_
                refine VW.iinc (lv' := [(0, _), (1, _), (2, _), (3, _), (4, _), (5, _)]) dX8_directionBy_114 rfl (by decide) rfl ?_
                refine VW.goto 4 dX8_directionBy_117 (by decide) ?_
                refine VW.sub ?_ [0, 1, 2, 3] rfl
                first
                | (rw [dbF_n (by omega)]; exact ih (d + 1) _ (by omega) (by omega) (by omega); done)
                | (rw [dbF_p (by omega)]; exact ih (d + 1) _ (by omega) (by omega) (by omega); done)
            · refine VW.iconst dX8_directionBy_74 ?_
              refine VW.goto 79 dX8_directionBy_75 (by decide) ?_
              refine VW.iload_n dX8_directionBy_79 rfl ?_
              refine VW.if_ne 87 ⟨by omega, by omega⟩ dX8_directionBy_80 (by decide) (fun c80 => ?_) (fun c80 => ?_)
              · refine VW.iconst dX8_directionBy_87 ?_
                refine VW.icmp_ne 95 (by decide) (by decide) dX8_directionBy_88 (by decide) (fun _ => ?_) (fun c88 => absurd c88 (by decide))
                refine VW.iconst dX8_directionBy_95 ?_
                refine VW.istore (lv' := [(0, _), (1, _), (2, _), (3, _), (4, _), (5, _)]) dX8_directionBy_96 (by decide) rfl ?_
                refine VW.iload dX8_directionBy_98 rfl ?_
                refine VW.if_eq 112 (by decide) dX8_directionBy_100 (by decide) (fun c100 => absurd c100 (by decide)) (fun _ => ?_)
                refine VW.iload dX8_directionBy_103 rfl ?_
                refine VW.if_eq 112 (by decide) dX8_directionBy_105 (by decide) (fun _ => ?_) (fun c105 => absurd c105 (by decide))
                refine VW.iload_n dX8_directionBy_112 rfl ?_
                refine VW.istore_n (lv' := [(0, _), (1, _), (2, _), (3, _), (4, _), (5, _)]) dX8_directionBy_113 (by decide) rfl ?_
                refine VW.iinc (lv' := [(0, _), (1, _), (2, _), (3, _), (4, _), (5, _)]) dX8_directionBy_114 rfl (by decide) rfl ?_
                refine VW.goto 4 dX8_directionBy_117 (by decide) ?_
                refine VW.sub ?_ [0, 1, 2, 3] rfl
                first
                | (rw [dbF_n (by omega)]; exact ih (d + 1) _ (by omega) (by omega) (by omega); done)
                | (rw [dbF_p (by omega)]; exact ih (d + 1) _ (by omega) (by omega) (by omega); done)
              · refine VW.iconst dX8_directionBy_83 ?_
                refine VW.goto 88 dX8_directionBy_84 (by decide) ?_
                refine VW.icmp_ne 95 (by decide) (by decide) dX8_directionBy_88 (by decide) (fun c88 => absurd c88 (by decide)) (fun _ => ?_)
                refine VW.iconst dX8_directionBy_91 ?_
                refine VW.goto 96 dX8_directionBy_92 (by decide) ?_
                refine VW.istore (lv' := [(0, _), (1, _), (2, _), (3, _), (4, _), (5, _)]) dX8_directionBy_96 (by decide) rfl ?_
                refine VW.iload dX8_directionBy_98 rfl ?_
                refine VW.if_eq 112 (by decide) dX8_directionBy_100 (by decide) (fun c100 => absurd c100 (by decide)) (fun _ => ?_)
                refine VW.iload dX8_directionBy_103 rfl ?_
                refine VW.if_eq 112 (by decide) dX8_directionBy_105 (by decide) (fun c105 => absurd c105 (by decide)) (fun _ => ?_)
                refine VW.iload_n dX8_directionBy_108 rfl ?_
                refine VW.goto 113 dX8_directionBy_109 (by decide) ?_
                refine VW.istore_n (lv' := [(0, _), (1, _), (2, _), (3, _), (4, _), (5, _)]) dX8_directionBy_113 (by decide) rfl ?_
                refine VW.iinc (lv' := [(0, _), (1, _), (2, _), (3, _), (4, _), (5, _)]) dX8_directionBy_114 rfl (by decide) rfl ?_
                refine VW.goto 4 dX8_directionBy_117 (by decide) ?_
                refine VW.sub ?_ [0, 1, 2, 3] rfl
                first
                | (rw [dbF_n (by omega)]; exact ih (d + 1) _ (by omega) (by omega) (by omega); done)
                | (rw [dbF_p (by omega)]; exact ih (d + 1) _ (by omega) (by omega) (by omega); done)
theorem t_directionBy (hst : l.stackTraces = false) {x y : Int} (hx : -31 ≤ x ∧ x ≤ 31) (hy : -31 ≤ y ∧ y ≤ 31) : Zi G l N sh M_X8_directionBy [vI x, vI y] μ (fun r μ' => r = dirF (sgn x) (sgn y) 8 0 ∧ μ' = μ) := by
  refine Fx.of hst rfl (by decide +kernel) (Nat.le_of_ble_eq_true rfl) rfl ?_
  refine VW.iconst dX8_directionBy_0 ?_
  refine VW.istore_n (lv' := [(0, _), (1, _), (2, _)]) dX8_directionBy_1 (by decide) rfl ?_
  refine VW.iconst dX8_directionBy_2 ?_
  refine VW.istore_n (lv' := [(0, _), (1, _), (2, _), (3, _)]) dX8_directionBy_3 (by decide) rfl ?_
  rw [← dbF_dir]
  exact lp_X8_dirBy hst hx hy 8 0 (-1) (by omega) (by omega) (by omega)
theorem lp_X8_take (hst : l.stackTraces = false) (hm : isM N sh) (hz : zR (μ 274) xs ys C S) (hl : ys.length = xs.length ∧ xs.length ≤ 40) : ∀ (n : Nat) (i : Int), 0 ≤ i → i + n = xs.length → ∀ μ2 : Mem, (μ2 273 8 = (xs.length : Int)) → (∀ j : Int, 0 ≤ j ∧ j < i → μ2 277 j.toNat = rat xs j ∧ μ2 278 j.toNat = rat ys j) → frK [277, 278] [8] μ μ2 → VW G l none M_X8_takePath 12 [(0, .ref (gB G + 273)), (1, vI i)] [] (N, sh, μ2) 0 0 (fxP N sh (oN (vN_v (fun μ' => hasMP μ' xs ys ∧ frK [277, 278] [8] μ μ')))) := by
  intro n
  induction n with
  | zero =>
    intro i h1 h2 μ2 h8 h9 hf
    refine VW.iload_n dX8_takePath_12 rfl ?_
    refine VW.aload_n dX8_takePath_13 rfl ?_
    refine VW.getI dX8_takePath_14 fa_X8_64 (by have := hm.1; omega) hm.2.1 rfl ?_
    refine VW.icmp_ge 62 ⟨by omega, by omega⟩ ⟨by omega, by omega⟩ dX8_takePath_17 (by decide) (fun c17 => ?_) (fun c17 => by omega)
    refine VW.vreturn dX8_takePath_62 rfl ?_
    refine fxP.vv ?_
    obtain rfl : i = xs.length := by omega
    exact ⟨⟨h8, hl.1, fun k hk => (h9 k hk).1, fun k hk => (h9 k (by omega)).2⟩, hf⟩
  | succ n ih =>
    intro i h1 h2 μ2 h8 h9 hf
    refine VW.iload_n dX8_takePath_12 rfl ?_
    refine VW.aload_n dX8_takePath_13 rfl ?_
    refine VW.getI dX8_takePath_14 fa_X8_64 (by have := hm.1; omega) hm.2.1 rfl ?_
    refine VW.icmp_ge 62 ⟨by omega, by omega⟩ ⟨by omega, by omega⟩ dX8_takePath_17 (by decide) (fun c17 => by omega) (fun c17 => ?_)
    have z4 := (hz.2.2.2.1 i (by omega))
    have e274 : μ2 274 = μ 274 := hf.1 274 (by decide) (by decide)
    refine VW.aload_n dX8_takePath_20 rfl ?_
    refine VW.getR dX8_takePath_21 fa_X8_19 (by have := hm.1; omega) hm.2.1 rfl ?_
    refine VW.iload_n dX8_takePath_24 rfl ?_
    refine VW.aload_n dX8_takePath_25 rfl ?_
    refine VW.getR dX8_takePath_26 fa_X8_7 (by have := hm.1; omega) hm.2.1 rfl ?_
    refine VW.bipush dX8_takePath_29 rfl ?_
    refine VW.iconst dX8_takePath_31 ?_
    refine VW.iload_n dX8_takePath_32 rfl ?_
    refine VW.imul dX8_takePath_33 ?_
    refine VW.iadd dX8_takePath_34 ?_
    refine VW.iaload dX8_takePath_35 (by have := hm.1; omega) hm.2.2.1 (by omega) (by omega) (by decide) ?_
    refine VW.iastore dX8_takePath_36 (by have := hm.1; omega) hm.2.2.2.2.2.1 (by omega) (by omega) (by decide) ?_
    rw [e274, z4.1]
    refine VW.aload_n dX8_takePath_37 rfl ?_
    refine VW.getR dX8_takePath_38 fa_X8_22 (by have := hm.1; omega) hm.2.1 rfl ?_
    refine VW.iload_n dX8_takePath_41 rfl ?_
    refine VW.aload_n dX8_takePath_42 rfl ?_
    refine VW.getR dX8_takePath_43 fa_X8_7 (by have := hm.1; omega) hm.2.1 rfl ?_
    refine VW.bipush dX8_takePath_46 rfl ?_
    refine VW.iconst dX8_takePath_48 ?_
    refine VW.iload_n dX8_takePath_49 rfl ?_
    refine VW.imul dX8_takePath_50 ?_
    refine VW.iadd dX8_takePath_51 ?_
    refine VW.iconst dX8_takePath_52 ?_
    refine VW.iadd dX8_takePath_53 ?_
    refine VW.iaload dX8_takePath_54 (by have := hm.1; omega) hm.2.2.1 (by omega) (by omega) (by decide) ?_
    refine VW.iastore dX8_takePath_55 (by have := hm.1; omega) hm.2.2.2.2.2.2.1 (by omega) (by omega) (by decide) ?_
    rw [mup_n (show (274 : Nat) ≠ 277 by decide), e274, z4.2]
    refine VW.iinc (lv' := [(0, _), (1, _)]) dX8_takePath_56 rfl (by decide) rfl ?_
    refine VW.goto 12 dX8_takePath_59 (by decide) ?_
    have g1 : frK [277, 278] [] μ2 (mup (mup μ2 277 i.toNat (rat xs i)) 278 i.toNat (rat ys i)) := ((frK_a (by decide)).wid (by decide) (by decide)).tr ((frK_a (by decide)).wid (by decide) (by decide))
    refine ih (i + 1) (by omega) (by omega) _ (by rw [g1.2 8 (by decide)]; exact h8) (fun j hj => ?_) (hf.tr (g1.wid (by decide) (by decide)))
    by_cases e : j = i
    · subst e
      exact ⟨by rw [mup_n (by decide), mup_s], mup_s _ _ _ _⟩
    · rw [mup_n (show (277 : Nat) ≠ 278 by decide), mup_k (by omega), mup_k (by omega)]
      exact h9 j (by omega)
theorem t_takePath (hst : l.stackTraces = false) (hm : isM N sh) (hz : zR (μ 274) xs ys C S) (hl : ys.length = xs.length ∧ xs.length ≤ 40) : Zv G l N sh M_X8_takePath [.ref (gB G + 273)] μ (fun μ' => hasMP μ' xs ys ∧ frK [277, 278] [8] μ μ') := by
  refine Fx.of hst rfl (by decide +kernel) (Nat.le_of_ble_eq_true rfl) rfl ?_
  refine VW.aload_n dX8_takePath_0 rfl ?_
  refine VW.aload_n dX8_takePath_1 rfl ?_
  refine VW.getR dX8_takePath_2 fa_X8_7 (by have := hm.1; omega) hm.2.1 rfl ?_
  refine VW.iconst dX8_takePath_5 ?_
  refine VW.iaload dX8_takePath_6 (by have := hm.1; omega) hm.2.2.1 (by omega) (by omega) (by decide) ?_
  refine VW.putI dX8_takePath_7 fp_X8_64 (by have := hm.1; omega) hm.2.1 rfl ?_
  refine VW.iconst dX8_takePath_10 ?_
  refine VW.istore_n (lv' := [(0, _), (1, _)]) dX8_takePath_11 (by decide) rfl ?_
  have e5 : μ 274 5 = (xs.length : Int) := hz.2.1
  rw [show (5 : Int).toNat = 5 from rfl, e5]
  exact lp_X8_take hst hm hz hl xs.length 0 (by omega) (by omega) _ (mup_s _ _ _ _) (fun j hj => by omega) (frK_f.wid (by decide) (by decide))
theorem t_stepDirection (hst : l.stackTraces = false) (hm : isM N sh) (hP : hasMP μ xs ys) (hbx : bnd xs 0 31) (hby : bnd ys 0 31) (hl : xs.length ≤ 41) {i : Int} (hi : 0 ≤ i ∧ i < xs.length) : Zi G l N sh M_X8_stepDirection [.ref (gB G + 273), vI i] μ (fun r μ' => r = sDir xs ys i ∧ μ' = μ) := by
  refine Fx.of hst rfl (by decide +kernel) (Nat.le_of_ble_eq_true rfl) rfl ?_
  have a1 := hP.2.2.1 i hi
  have a2 := hP.2.2.2 i (by rw [hP.2.1]; exact hi)
  have b1 := rat_b hbx hi.1 hi.2
  have b2 := rat_b hby hi.1 (by rw [hP.2.1]; exact hi.2)
  have hle := hP.2.1
  refine VW.iload_n dX8_stepDirection_0 rfl ?_
  refine VW.if_ne 8 ⟨by omega, by omega⟩ dX8_stepDirection_1 (by decide) (fun c1 => ?_) (fun c1 => ?_)
  · have a3 := hP.2.2.1 (i - 1) (by omega)
    have a4 := hP.2.2.2 (i - 1) (by omega)
    have b3 := rat_b hbx (i := i - 1) (by omega) (by omega)
    have b4 := rat_b hby (i := i - 1) (by omega) (by omega)
    have d1 : dif xs i = rat xs i - rat xs (i - 1) := if_neg (by omega)
    have d2 : dif ys i = rat ys i - rat ys (i - 1) := if_neg (by omega)
    refine VW.aload_n dX8_stepDirection_8 rfl ?_
    refine VW.getR dX8_stepDirection_9 fa_X8_19 (by have := hm.1; omega) hm.2.1 rfl ?_
    refine VW.iload_n dX8_stepDirection_12 rfl ?_
    refine VW.iaload dX8_stepDirection_13 (by have := hm.1; omega) hm.2.2.2.2.2.1 (by omega) (by omega) (by decide) ?_
    refine VW.aload_n dX8_stepDirection_14 rfl ?_
    refine VW.getR dX8_stepDirection_15 fa_X8_19 (by have := hm.1; omega) hm.2.1 rfl ?_
    refine VW.iload_n dX8_stepDirection_18 rfl ?_
    refine VW.iconst dX8_stepDirection_19 ?_
    refine VW.isub dX8_stepDirection_20 ?_
    refine VW.iaload dX8_stepDirection_21 (by have := hm.1; omega) hm.2.2.2.2.2.1 (by omega) (by omega) (by decide) ?_
    refine VW.isub dX8_stepDirection_22 ?_
    refine VW.aload_n dX8_stepDirection_23 rfl ?_
    refine VW.getR dX8_stepDirection_24 fa_X8_22 (by have := hm.1; omega) hm.2.1 rfl ?_
    refine VW.iload_n dX8_stepDirection_27 rfl ?_
    refine VW.iaload dX8_stepDirection_28 (by have := hm.1; omega) hm.2.2.2.2.2.2.1 (by omega) (by omega) (by decide) ?_
    refine VW.aload_n dX8_stepDirection_29 rfl ?_
    refine VW.getR dX8_stepDirection_30 fa_X8_22 (by have := hm.1; omega) hm.2.1 rfl ?_
    refine VW.iload_n dX8_stepDirection_33 rfl ?_
    refine VW.iconst dX8_stepDirection_34 ?_
    refine VW.isub dX8_stepDirection_35 ?_
    refine VW.iaload dX8_stepDirection_36 (by have := hm.1; omega) hm.2.2.2.2.2.2.1 (by omega) (by omega) (by decide) ?_
    refine VW.isub dX8_stepDirection_37 ?_
    rw [a1, a2, a3, a4]
    refine VW.pS2 cs_X8_stepDirection_X8_directionBy dX8_stepDirection_38 (Nat.le_of_ble_eq_true rfl) (t_directionBy hst (x := rat xs i - rat xs (i - 1)) (y := rat ys i - rat ys (i - 1)) (by omega) (by omega)) ?_
    refine VW.ireturn dX8_stepDirection_41 rfl rfl ?_
    refine fxP.ii ⟨?_, rfl⟩
    unfold sDir
    rw [d1, d2]
    all_goals decide +kernel
  · have d1 : dif xs i = 0 := if_pos (by omega)
    have d2 : dif ys i = 0 := if_pos (by omega)
    refine VW.iconst dX8_stepDirection_4 ?_
    refine VW.goto 41 dX8_stepDirection_5 (by decide) ?_
    refine VW.ireturn dX8_stepDirection_41 rfl rfl ?_
    refine fxP.ii ⟨?_, rfl⟩
    unfold sDir
    rw [d1, d2]
    all_goals decide +kernel
theorem t_stepLength (hst : l.stackTraces = false) (hm : isM N sh) (hP : hasMP μ xs ys) (hbx : bnd xs 0 31) (hby : bnd ys 0 31) (hl : xs.length ≤ 41) {i : Int} (hi : 0 ≤ i ∧ i < xs.length) : Zi G l N sh M_X8_stepLength [.ref (gB G + 273), vI i] μ (fun r μ' => r = sLen xs ys i ∧ μ' = μ) := by
  refine Fx.of hst rfl (by decide +kernel) (Nat.le_of_ble_eq_true rfl) rfl ?_
  have a1 := hP.2.2.1 i hi
  have a2 := hP.2.2.2 i (by rw [hP.2.1]; exact hi)
  have b1 := rat_b hbx hi.1 hi.2
  have b2 := rat_b hby hi.1 (by rw [hP.2.1]; exact hi.2)
  have hle := hP.2.1
  refine VW.iload_n dX8_stepLength_0 rfl ?_
  refine VW.if_ne 8 ⟨by omega, by omega⟩ dX8_stepLength_1 (by decide) (fun c1 => ?_) (fun c1 => ?_)
  · have a3 := hP.2.2.1 (i - 1) (by omega)
    have a4 := hP.2.2.2 (i - 1) (by omega)
    have b3 := rat_b hbx (i := i - 1) (by omega) (by omega)
    have b4 := rat_b hby (i := i - 1) (by omega) (by omega)
    have d1 : dif xs i = rat xs i - rat xs (i - 1) := if_neg (by omega)
    have d2 : dif ys i = rat ys i - rat ys (i - 1) := if_neg (by omega)
    refine VW.aload_n dX8_stepLength_8 rfl ?_
    refine VW.getR dX8_stepLength_9 fa_X8_19 (by have := hm.1; omega) hm.2.1 rfl ?_
    refine VW.iload_n dX8_stepLength_12 rfl ?_
    refine VW.iaload dX8_stepLength_13 (by have := hm.1; omega) hm.2.2.2.2.2.1 (by omega) (by omega) (by decide) ?_
    refine VW.aload_n dX8_stepLength_14 rfl ?_
    refine VW.getR dX8_stepLength_15 fa_X8_19 (by have := hm.1; omega) hm.2.1 rfl ?_
    refine VW.iload_n dX8_stepLength_18 rfl ?_
    refine VW.iconst dX8_stepLength_19 ?_
    refine VW.isub dX8_stepLength_20 ?_
    refine VW.iaload dX8_stepLength_21 (by have := hm.1; omega) hm.2.2.2.2.2.1 (by omega) (by omega) (by decide) ?_
    refine VW.isub dX8_stepLength_22 ?_
    rw [a1, a3]
    refine VW.pS1 cs_X8_stepLength_X8_size dX8_stepLength_23 (Nat.le_of_ble_eq_true rfl) (t_size hst (v := rat xs i - rat xs (i - 1)) (by omega)) ?_
    refine VW.aload_n dX8_stepLength_26 rfl ?_
    refine VW.getR dX8_stepLength_27 fa_X8_22 (by have := hm.1; omega) hm.2.1 rfl ?_
    refine VW.iload_n dX8_stepLength_30 rfl ?_
    refine VW.iaload dX8_stepLength_31 (by have := hm.1; omega) hm.2.2.2.2.2.2.1 (by omega) (by omega) (by decide) ?_
    refine VW.aload_n dX8_stepLength_32 rfl ?_
    refine VW.getR dX8_stepLength_33 fa_X8_22 (by have := hm.1; omega) hm.2.1 rfl ?_
    refine VW.iload_n dX8_stepLength_36 rfl ?_
    refine VW.iconst dX8_stepLength_37 ?_
    refine VW.isub dX8_stepLength_38 ?_
    refine VW.iaload dX8_stepLength_39 (by have := hm.1; omega) hm.2.2.2.2.2.2.1 (by omega) (by omega) (by decide) ?_
    refine VW.isub dX8_stepLength_40 ?_
    rw [a2, a4]
    refine VW.pS1 cs_X8_stepLength_X8_size dX8_stepLength_41 (Nat.le_of_ble_eq_true rfl) (t_size hst (v := rat ys i - rat ys (i - 1)) (by omega)) ?_
    have q1 := iabs_r (x := rat xs i - rat xs (i - 1)) (by omega)
    have q2 := iabs_r (x := rat ys i - rat ys (i - 1)) (by omega)
    refine VW.pS2 cs_X8_stepLength_X8_greater dX8_stepLength_44 (Nat.le_of_ble_eq_true rfl) (t_greater hst ⟨by omega, by omega⟩ ⟨by omega, by omega⟩) ?_
    refine VW.ireturn dX8_stepLength_47 rfl rfl ?_
    refine fxP.ii ⟨?_, rfl⟩
    unfold sLen
    rw [d1, d2]
    all_goals decide +kernel
  · have d1 : dif xs i = 0 := if_pos (by omega)
    have d2 : dif ys i = 0 := if_pos (by omega)
    refine VW.iconst dX8_stepLength_4 ?_
    refine VW.goto 47 dX8_stepLength_5 (by decide) ?_
    refine VW.ireturn dX8_stepLength_47 rfl rfl ?_
    refine fxP.ii ⟨?_, rfl⟩
    unfold sLen
    rw [d1, d2]
    all_goals decide +kernel
variable {q : List Int × List Int}
theorem set_last {L : List Int} {a b : Int} : (L ++ [a]).set L.length b = L ++ [b] := by
  apply List.ext_getElem?
  intro j
  rw [List.getElem?_set]
  by_cases h : L.length = j
  · subst h
    simp
  · rw [if_neg h]
    by_cases h2 : j < L.length
    · rw [List.getElem?_append_left h2, List.getElem?_append_left h2]
    · rw [List.getElem?_eq_none (by simp; omega), List.getElem?_eq_none (by simp; omega)]
variable {Φ : RT → Prop}
theorem lr_tail (hst : l.stackTraces = false) (hm : isM N sh) (hP : hasMP μ xs ys) (hbx : bnd xs 0 31) (hby : bnd ys 0 31) (hl : xs.length ≤ 41) {i : Int} (hi : 0 ≤ i ∧ i < xs.length) {μ2 : Mem} (hf : frK [279, 280] [11] μ μ2) (hq : hasR μ2 q) (hq0 : 0 < q.1.length ∧ q.1.length ≤ 40)
    (kk : ∀ μ3 : Mem, hasR μ3 (q.1, q.2.set ((q.1.length : Int) - 1).toNat (rat q.2 ((q.1.length : Int) - 1) + sLen xs ys i)) → frK [279, 280] [11] μ μ3 → VW G l none M_X8_layRuns 7 [(0, .ref (gB G + 273)), (1, vI (i + 1))] [] (N, sh, μ3) 0 0 Φ) : VW G l none M_X8_layRuns 78 [(0, .ref (gB G + 273)), (1, vI i)] [] (N, sh, μ2) 0 0 Φ := by
  have hq4 := (hq.2.2.2 ((q.1.length : Int) - 1) (by rw [hq.2.1]; omega))
  have hq1 := hq.1
  have hq2 := hq.2.1
  refine VW.aload_n dX8_layRuns_78 rfl ?_
  refine VW.getR dX8_layRuns_79 fa_X8_28 (by have := hm.1; omega) hm.2.1 rfl ?_
  refine VW.aload_n dX8_layRuns_82 rfl ?_
  refine VW.getI dX8_layRuns_83 fa_X8_74 (by have := hm.1; omega) hm.2.1 rfl ?_
  rw [hq1]
  refine VW.iconst dX8_layRuns_86 ?_
  refine VW.isub dX8_layRuns_87 ?_
  refine VW.dup2 dX8_layRuns_88 rfl rfl ?_
  refine VW.iaload dX8_layRuns_89 (by have := hm.1; omega) hm.2.2.2.2.2.2.2.2.1 (by omega) (by omega) (by decide) ?_
  refine VW.aload_n dX8_layRuns_90 rfl ?_
  refine VW.iload_n dX8_layRuns_91 rfl ?_
  refine VW.pV1 cv_X8_layRuns_X8_stepLength dX8_layRuns_92 (Nat.le_of_ble_eq_true rfl) (by have := hm.1; omega) hm.2.1 (t_stepLength hst hm (hP.keep hf (by decide) (by decide) (by decide)) hbx hby hl hi) ?_
  rw [hq4]
  refine VW.iadd dX8_layRuns_95 ?_
  refine VW.iastore dX8_layRuns_96 (by have := hm.1; omega) hm.2.2.2.2.2.2.2.2.1 (by omega) (by omega) (by decide) ?_
  refine VW.iinc (lv' := [(0, _), (1, _)]) dX8_layRuns_97 rfl (by decide) rfl ?_
  refine VW.goto 7 dX8_layRuns_100 (by decide) ?_
  have g1 : frK [280] [] μ2 (mup μ2 280 ((q.1.length : Int) - 1).toNat (rat q.2 ((q.1.length : Int) - 1) + sLen xs ys i)) := frK_a (by decide)
  refine kk _ ⟨by rw [g1.2 11 (by decide)]; exact hq1, by rw [List.length_set]; exact hq2, hq.2.2.1.keep g1 (by decide) (by decide), hq.2.2.2.set (by rw [hq2]; omega)⟩ (hf.tr (g1.wid (by decide) (by decide)))
theorem lp_X8_runs (hst : l.stackTraces = false) (hm : isM N sh) (hP : hasMP μ xs ys) (hbx : bnd xs 0 31) (hby : bnd ys 0 31) (hl : xs.length ≤ 41) : ∀ (n : Nat) (i : Int), 1 ≤ i → (i + n = xs.length ∨ (n = 0 ∧ i = 1 ∧ xs.length = 0)) → ∀ μ2 : Mem, hasR μ2 (rq xs ys i) → frK [279, 280] [11] μ μ2 → VW G l none M_X8_layRuns 7 [(0, .ref (gB G + 273)), (1, vI i)] [] (N, sh, μ2) 0 0 (fxP N sh (oN (vN_v (fun μ' => hasR μ' (rnD xs ys, rnL xs ys) ∧ frK [279, 280] [11] μ μ')))) := by
  intro n
  induction n with
  | zero =>
    intro i h1 h2 μ2 hq hf
    refine VW.iload_n dX8_layRuns_7 rfl ?_
    have h8 := (hP.keep hf (by decide) (by decide) (by decide)).1
    refine VW.aload_n dX8_layRuns_8 rfl ?_
    refine VW.getI dX8_layRuns_9 fa_X8_64 (by have := hm.1; omega) hm.2.1 rfl ?_
    refine VW.icmp_ge 103 ⟨by omega, by omega⟩ ⟨by omega, by omega⟩ dX8_layRuns_12 (by decide) (fun c12 => ?_) (fun c12 => by omega)
    refine VW.vreturn dX8_layRuns_103 rfl ?_
    refine fxP.vv ?_
    have e : (i - 1).toNat = xs.length - 1 := by omega
    unfold rq at hq
    rw [e] at hq
    exact ⟨hq, hf⟩
  | succ n ih =>
    intro i h1 h2 μ2 hq hf
    refine VW.iload_n dX8_layRuns_7 rfl ?_
    have h8 := (hP.keep hf (by decide) (by decide) (by decide)).1
    refine VW.aload_n dX8_layRuns_8 rfl ?_
    refine VW.getI dX8_layRuns_9 fa_X8_64 (by have := hm.1; omega) hm.2.1 rfl ?_
    refine VW.icmp_ge 103 ⟨by omega, by omega⟩ ⟨by omega, by omega⟩ dX8_layRuns_12 (by decide) (fun c12 => by omega) (fun c12 => ?_)
    have hdb := sDir_b xs ys i
    have hq1 := hq.1
    have hq2 := hq.2.1
    have hok : okR (rq xs ys i) (i - 1).toNat := runsTo_ok hbx hby (i - 1).toNat
    obtain ⟨ok1, ok2, ok3, ok4, ok5⟩ := id hok
    refine VW.aload_n dX8_layRuns_15 rfl ?_
    refine VW.iload_n dX8_layRuns_16 rfl ?_
    refine VW.pV1 cv_X8_layRuns_X8_stepDirection dX8_layRuns_17 (Nat.le_of_ble_eq_true rfl) (by have := hm.1; omega) hm.2.1 (t_stepDirection hst hm (hP.keep hf (by decide) (by decide) (by decide)) hbx hby hl ⟨by omega, by omega⟩) ?_
    refine VW.istore_n (lv' := [(0, _), (1, _), (2, _)]) dX8_layRuns_20 (by decide) rfl ?_
    refine VW.iload_n dX8_layRuns_21 rfl ?_
    refine VW.iconst dX8_layRuns_22 ?_
    refine VW.icmp_eq 97 ⟨by omega, by omega⟩ ⟨by omega, by omega⟩ dX8_layRuns_23 (by decide) (fun c23 => ?_) (fun c23 => ?_)
    · refine VW.iinc (lv' := [(0, _), (1, _), (2, _)]) dX8_layRuns_97 rfl (by decide) rfl ?_
      refine VW.goto 7 dX8_layRuns_100 (by decide) ?_
      refine VW.sub ?_ [0, 1] rfl
      have e : rq xs ys (i + 1) = rq xs ys i := by
        rw [rq_succ xs ys h1]
        exact (if_neg (fun w => w.1 c23)).trans (if_neg (fun w => w c23))
      exact ih (i + 1) (by omega) (by omega) μ2 (by rw [e]; exact hq) hf
    · refine VW.aload_n dX8_layRuns_26 rfl ?_
      refine VW.getI dX8_layRuns_27 fa_X8_74 (by have := hm.1; omega) hm.2.1 rfl ?_
      refine VW.if_eq 48 ⟨by omega, by omega⟩ dX8_layRuns_30 (by decide) (fun c30 => ?_) (fun c30 => ?_)
      · have hnj : ¬ (sDir xs ys i ≠ -1 ∧ sDir xs ys i = rat (rq xs ys i).1 ((rq xs ys i).1.length - 1)) := by
          first
          | omega
          | (rw [rat_out (by omega)]; omega)
        refine VW.aload_n dX8_layRuns_48 rfl ?_
        refine VW.getR dX8_layRuns_49 fa_X8_25 (by have := hm.1; omega) hm.2.1 rfl ?_
        refine VW.aload_n dX8_layRuns_52 rfl ?_
        refine VW.getI dX8_layRuns_53 fa_X8_74 (by have := hm.1; omega) hm.2.1 rfl ?_
        refine VW.iload_n dX8_layRuns_56 rfl ?_
        refine VW.iastore dX8_layRuns_57 (by have := hm.1; omega) hm.2.2.2.2.2.2.2.1 (by omega) (by omega) (by decide) ?_
        rw [hq1, Int.toNat_natCast]
        have g1 : frK [279] [] μ2 (mup μ2 279 (rq xs ys i).1.length (sDir xs ys i)) := frK_a (by decide)
        have p1 := hq.2.2.1.push (v := sDir xs ys i)
        obtain ⟨μ3, hμ3⟩ : ∃ m, m = mup μ2 279 (rq xs ys i).1.length (sDir xs ys i) := ⟨_, rfl⟩
        rw [← hμ3] at g1 p1 ⊢
        have e3 : μ3 273 11 = ((rq xs ys i).1.length : Int) := by rw [g1.2 11 (by decide)]; exact hq1
        refine VW.aload_n dX8_layRuns_58 rfl ?_
        refine VW.getR dX8_layRuns_59 fa_X8_28 (by have := hm.1; omega) hm.2.1 rfl ?_
        refine VW.aload_n dX8_layRuns_62 rfl ?_
        refine VW.getI dX8_layRuns_63 fa_X8_74 (by have := hm.1; omega) hm.2.1 rfl ?_
        refine VW.iconst dX8_layRuns_66 ?_
        refine VW.iastore dX8_layRuns_67 (by have := hm.1; omega) hm.2.2.2.2.2.2.2.2.1 (by omega) (by omega) (by decide) ?_
        rw [e3, Int.toNat_natCast]
        have g2 : frK [280] [] μ3 (mup μ3 280 (rq xs ys i).1.length 0) := frK_a (by decide)
        have p2 := (hq.2.2.2.keep g1 (by decide) (by decide)).push (v := 0)
        rw [hq2] at p2
        obtain ⟨μ4, hμ4⟩ : ∃ m, m = mup μ3 280 (rq xs ys i).1.length 0 := ⟨_, rfl⟩
        rw [← hμ4] at g2 p2 ⊢
        have e4 : μ4 273 11 = ((rq xs ys i).1.length : Int) := by rw [g2.2 11 (by decide)]; exact e3
        refine VW.aload_n dX8_layRuns_68 rfl ?_
        refine VW.dup dX8_layRuns_69 rfl ?_
        refine VW.getI dX8_layRuns_70 fa_X8_74 (by have := hm.1; omega) hm.2.1 rfl ?_
        refine VW.iconst dX8_layRuns_73 ?_
        refine VW.iadd dX8_layRuns_74 ?_
        refine VW.putI dX8_layRuns_75 fp_X8_74 (by have := hm.1; omega) hm.2.1 rfl ?_
        rw [e4]
        have g3 : frK [] [11] μ4 (mup μ4 273 11 (((rq xs ys i).1.length : Int) + 1)) := frK_f
        have f4 : frK [279, 280] [11] μ (mup μ4 273 11 (((rq xs ys i).1.length : Int) + 1)) := ((hf.tr (g1.wid (by decide) (by decide))).tr (g2.wid (by decide) (by decide))).tr (g3.wid (by decide) (by decide))
        refine VW.sub ?_ [0, 1] rfl
        first
        | (have e : rq xs ys (i + 1) = ((rq xs ys i).1, (rq xs ys i).2.set (((rq xs ys i).1.length : Int) - 1).toNat (rat (rq xs ys i).2 (((rq xs ys i).1.length : Int) - 1) + sLen xs ys i)) := by
             rw [rq_succ xs ys h1]
             exact if_pos ⟨c23, c45.symm⟩
           exact lr_tail hst hm hP hbx hby hl ⟨by omega, by omega⟩ hf hq ⟨by omega, by omega⟩ (fun μ9 h9 f9 => ih (i + 1) (by omega) (by omega) μ9 (by rw [e]; exact h9) f9))
        | (have e : rq xs ys (i + 1) = ((rq xs ys i).1 ++ [sDir xs ys i], (rq xs ys i).2 ++ [sLen xs ys i]) := by
             rw [rq_succ xs ys h1]
             exact (if_neg hnj).trans (if_pos c23)
           have hR5 : hasR (mup μ4 273 11 (((rq xs ys i).1.length : Int) + 1)) ((rq xs ys i).1 ++ [sDir xs ys i], (rq xs ys i).2 ++ [0]) :=
             ⟨by rw [mup_s]; simp, by simp [hq2], (p1.keep g2 (by decide) (by decide)).keep g3 (by decide) (by decide), p2.keep g3 (by decide) (by decide)⟩
           refine lr_tail hst hm hP hbx hby hl ⟨by omega, by omega⟩ f4 hR5 ⟨by simp, by simp; omega⟩ (fun μ9 h9 f9 => ih (i + 1) (by omega) (by omega) μ9 ?_ f9)
           rw [e]
           have e9 : ((rq xs ys i).2 ++ [0]).set ((((rq xs ys i).1 ++ [sDir xs ys i]).length : Int) - 1).toNat (rat ((rq xs ys i).2 ++ [0]) ((((rq xs ys i).1 ++ [sDir xs ys i]).length : Int) - 1) + sLen xs ys i) = (rq xs ys i).2 ++ [sLen xs ys i] := by
             rw [show ((((rq xs ys i).1 ++ [sDir xs ys i]).length : Int) - 1) = ((rq xs ys i).2.length : Int) by rw [hq2]; simp, Int.toNat_natCast, set_last, rat_snoc, if_pos rfl]
             congr 2
             omega
           rw [← e9]
           exact h9)
      · have hq3 := hq.2.2.1 (((rq xs ys i).1.length : Int) - 1) (by omega)
        have hrb := rat_b1 ok3 (i := ((rq xs ys i).1.length : Int) - 1) (by omega) (by omega)
        refine VW.aload_n dX8_layRuns_33 rfl ?_
        refine VW.getR dX8_layRuns_34 fa_X8_25 (by have := hm.1; omega) hm.2.1 rfl ?_
        refine VW.aload_n dX8_layRuns_37 rfl ?_
        refine VW.getI dX8_layRuns_38 fa_X8_74 (by have := hm.1; omega) hm.2.1 rfl ?_
        rw [hq1]
        refine VW.iconst dX8_layRuns_41 ?_
        refine VW.isub dX8_layRuns_42 ?_
        refine VW.iaload dX8_layRuns_43 (by have := hm.1; omega) hm.2.2.2.2.2.2.2.1 (by omega) (by omega) (by decide) ?_
        rw [hq3]
        refine VW.iload_n dX8_layRuns_44 rfl ?_
        refine VW.icmp_eq 78 ⟨by omega, by omega⟩ ⟨by omega, by omega⟩ dX8_layRuns_45 (by decide) (fun c45 => ?_) (fun c45 => ?_)
        · refine VW.sub ?_ [0, 1] rfl
          first
          | (have e : rq xs ys (i + 1) = ((rq xs ys i).1, (rq xs ys i).2.set (((rq xs ys i).1.length : Int) - 1).toNat (rat (rq xs ys i).2 (((rq xs ys i).1.length : Int) - 1) + sLen xs ys i)) := by
               rw [rq_succ xs ys h1]
               exact if_pos ⟨c23, c45.symm⟩
             exact lr_tail hst hm hP hbx hby hl ⟨by omega, by omega⟩ hf hq ⟨by omega, by omega⟩ (fun μ9 h9 f9 => ih (i + 1) (by omega) (by omega) μ9 (by rw [e]; exact h9) f9))
          | (have e : rq xs ys (i + 1) = ((rq xs ys i).1 ++ [sDir xs ys i], (rq xs ys i).2 ++ [sLen xs ys i]) := by
               rw [rq_succ xs ys h1]
               exact (if_neg hnj).trans (if_pos c23)
             have hR5 : hasR (mup μ4 273 11 (((rq xs ys i).1.length : Int) + 1)) ((rq xs ys i).1 ++ [sDir xs ys i], (rq xs ys i).2 ++ [0]) :=
               ⟨by rw [mup_s]; simp, by simp [hq2], (p1.keep g2 (by decide) (by decide)).keep g3 (by decide) (by decide), p2.keep g3 (by decide) (by decide)⟩
             refine lr_tail hst hm hP hbx hby hl ⟨by omega, by omega⟩ f4 hR5 ⟨by simp, by simp; omega⟩ (fun μ9 h9 f9 => ih (i + 1) (by omega) (by omega) μ9 ?_ f9)
             rw [e]
             have e9 : ((rq xs ys i).2 ++ [0]).set ((((rq xs ys i).1 ++ [sDir xs ys i]).length : Int) - 1).toNat (rat ((rq xs ys i).2 ++ [0]) ((((rq xs ys i).1 ++ [sDir xs ys i]).length : Int) - 1) + sLen xs ys i) = (rq xs ys i).2 ++ [sLen xs ys i] := by
               rw [show ((((rq xs ys i).1 ++ [sDir xs ys i]).length : Int) - 1) = ((rq xs ys i).2.length : Int) by rw [hq2]; simp, Int.toNat_natCast, set_last, rat_snoc, if_pos rfl]
               congr 2
               omega
             rw [← e9]
             exact h9)
        · have hnj : ¬ (sDir xs ys i ≠ -1 ∧ sDir xs ys i = rat (rq xs ys i).1 ((rq xs ys i).1.length - 1)) := by
            first
            | omega
            | (rw [rat_out (by omega)]; omega)
          refine VW.aload_n dX8_layRuns_48 rfl ?_
          refine VW.getR dX8_layRuns_49 fa_X8_25 (by have := hm.1; omega) hm.2.1 rfl ?_
          refine VW.aload_n dX8_layRuns_52 rfl ?_
          refine VW.getI dX8_layRuns_53 fa_X8_74 (by have := hm.1; omega) hm.2.1 rfl ?_
          refine VW.iload_n dX8_layRuns_56 rfl ?_
          refine VW.iastore dX8_layRuns_57 (by have := hm.1; omega) hm.2.2.2.2.2.2.2.1 (by omega) (by omega) (by decide) ?_
          rw [hq1, Int.toNat_natCast]
          have g1 : frK [279] [] μ2 (mup μ2 279 (rq xs ys i).1.length (sDir xs ys i)) := frK_a (by decide)
          have p1 := hq.2.2.1.push (v := sDir xs ys i)
          obtain ⟨μ3, hμ3⟩ : ∃ m, m = mup μ2 279 (rq xs ys i).1.length (sDir xs ys i) := ⟨_, rfl⟩
          rw [← hμ3] at g1 p1 ⊢
          have e3 : μ3 273 11 = ((rq xs ys i).1.length : Int) := by rw [g1.2 11 (by decide)]; exact hq1
          refine VW.aload_n dX8_layRuns_58 rfl ?_
          refine VW.getR dX8_layRuns_59 fa_X8_28 (by have := hm.1; omega) hm.2.1 rfl ?_
          refine VW.aload_n dX8_layRuns_62 rfl ?_
          refine VW.getI dX8_layRuns_63 fa_X8_74 (by have := hm.1; omega) hm.2.1 rfl ?_
          refine VW.iconst dX8_layRuns_66 ?_
          refine VW.iastore dX8_layRuns_67 (by have := hm.1; omega) hm.2.2.2.2.2.2.2.2.1 (by omega) (by omega) (by decide) ?_
          rw [e3, Int.toNat_natCast]
          have g2 : frK [280] [] μ3 (mup μ3 280 (rq xs ys i).1.length 0) := frK_a (by decide)
          have p2 := (hq.2.2.2.keep g1 (by decide) (by decide)).push (v := 0)
          rw [hq2] at p2
          obtain ⟨μ4, hμ4⟩ : ∃ m, m = mup μ3 280 (rq xs ys i).1.length 0 := ⟨_, rfl⟩
          rw [← hμ4] at g2 p2 ⊢
          have e4 : μ4 273 11 = ((rq xs ys i).1.length : Int) := by rw [g2.2 11 (by decide)]; exact e3
          refine VW.aload_n dX8_layRuns_68 rfl ?_
          refine VW.dup dX8_layRuns_69 rfl ?_
          refine VW.getI dX8_layRuns_70 fa_X8_74 (by have := hm.1; omega) hm.2.1 rfl ?_
          refine VW.iconst dX8_layRuns_73 ?_
          refine VW.iadd dX8_layRuns_74 ?_
          refine VW.putI dX8_layRuns_75 fp_X8_74 (by have := hm.1; omega) hm.2.1 rfl ?_
          rw [e4]
          have g3 : frK [] [11] μ4 (mup μ4 273 11 (((rq xs ys i).1.length : Int) + 1)) := frK_f
          have f4 : frK [279, 280] [11] μ (mup μ4 273 11 (((rq xs ys i).1.length : Int) + 1)) := ((hf.tr (g1.wid (by decide) (by decide))).tr (g2.wid (by decide) (by decide))).tr (g3.wid (by decide) (by decide))
          refine VW.sub ?_ [0, 1] rfl
          first
          | (have e : rq xs ys (i + 1) = ((rq xs ys i).1, (rq xs ys i).2.set (((rq xs ys i).1.length : Int) - 1).toNat (rat (rq xs ys i).2 (((rq xs ys i).1.length : Int) - 1) + sLen xs ys i)) := by
               rw [rq_succ xs ys h1]
               exact if_pos ⟨c23, c45.symm⟩
             exact lr_tail hst hm hP hbx hby hl ⟨by omega, by omega⟩ hf hq ⟨by omega, by omega⟩ (fun μ9 h9 f9 => ih (i + 1) (by omega) (by omega) μ9 (by rw [e]; exact h9) f9))
          | (have e : rq xs ys (i + 1) = ((rq xs ys i).1 ++ [sDir xs ys i], (rq xs ys i).2 ++ [sLen xs ys i]) := by
               rw [rq_succ xs ys h1]
               exact (if_neg hnj).trans (if_pos c23)
             have hR5 : hasR (mup μ4 273 11 (((rq xs ys i).1.length : Int) + 1)) ((rq xs ys i).1 ++ [sDir xs ys i], (rq xs ys i).2 ++ [0]) :=
               ⟨by rw [mup_s]; simp, by simp [hq2], (p1.keep g2 (by decide) (by decide)).keep g3 (by decide) (by decide), p2.keep g3 (by decide) (by decide)⟩
             refine lr_tail hst hm hP hbx hby hl ⟨by omega, by omega⟩ f4 hR5 ⟨by simp, by simp; omega⟩ (fun μ9 h9 f9 => ih (i + 1) (by omega) (by omega) μ9 ?_ f9)
             rw [e]
             have e9 : ((rq xs ys i).2 ++ [0]).set ((((rq xs ys i).1 ++ [sDir xs ys i]).length : Int) - 1).toNat (rat ((rq xs ys i).2 ++ [0]) ((((rq xs ys i).1 ++ [sDir xs ys i]).length : Int) - 1) + sLen xs ys i) = (rq xs ys i).2 ++ [sLen xs ys i] := by
               rw [show ((((rq xs ys i).1 ++ [sDir xs ys i]).length : Int) - 1) = ((rq xs ys i).2.length : Int) by rw [hq2]; simp, Int.toNat_natCast, set_last, rat_snoc, if_pos rfl]
               congr 2
               omega
             rw [← e9]
             exact h9)
theorem t_layRuns (hst : l.stackTraces = false) (hm : isM N sh) (hP : hasMP μ xs ys) (hbx : bnd xs 0 31) (hby : bnd ys 0 31) (hl : xs.length ≤ 41) : Zv G l N sh M_X8_layRuns [.ref (gB G + 273)] μ (fun μ' => hasR μ' (rnD xs ys, rnL xs ys) ∧ frK [279, 280] [11] μ μ') := by
  refine Fx.of hst rfl (by decide +kernel) (Nat.le_of_ble_eq_true rfl) rfl ?_
  refine VW.aload_n dX8_layRuns_0 rfl ?_
  refine VW.iconst dX8_layRuns_1 ?_
  refine VW.putI dX8_layRuns_2 fp_X8_74 (by have := hm.1; omega) hm.2.1 rfl ?_
  refine VW.iconst dX8_layRuns_5 ?_
  refine VW.istore_n (lv' := [(0, _), (1, _)]) dX8_layRuns_6 (by decide) rfl ?_
  exact lp_X8_runs hst hm hP hbx hby hl (xs.length - 1) 1 (by omega) (by omega) _ ⟨mup_s _ _ _ _, rfl, fun k hk => by have := hk.2; simp [rq, runsTo] at this; omega, fun k hk => by have := hk.2; simp [rq, runsTo] at this; omega⟩ (frK_f.wid (by decide) (by decide))
theorem t_isShort (hst : l.stackTraces = false) (hm : isM N sh) (hz : zR (μ 274) xs ys C S) (hw : wfS S) (hq : hasR μ (D, Ln)) (okd : okF D Ln) {p : Int} (hp : 0 ≤ p ∧ p < D.length) : Zi G l N sh M_X8_isShort [.ref (gB G + 273), vI p] μ (fun r μ' => r = bI (decide (rat Ln p < rat S 0)) ∧ μ' = μ) := by
  refine Fx.of hst rfl (by decide +kernel) (Nat.le_of_ble_eq_true rfl) rfl ?_
  obtain ⟨ok1, ok2, ok3, ok4, ok5⟩ := id okd
  obtain ⟨hw5, hw0, hw1, hw2, hw3, hw4⟩ := id hw
  have z0 : μ 274 0 = rat S 0 := hz.1 0 (by omega)
  have z1 : μ 274 1 = rat S 1 := hz.1 1 (by omega)
  have hq1 : μ 273 11 = (D.length : Int) := hq.1
  have hqD : arr μ 279 D := hq.2.2.1
  have hqL : arr μ 280 Ln := hq.2.2.2
  have a1 := hqD p hp
  have a2 := hqL p (by omega)
  have nr := nng_rat ok4 p
  have sr := sum_rat ok4 p
  have br := rat_b ok3 hp.1 hp.2
  refine VW.aload_n dX8_isShort_0 rfl ?_
  refine VW.getR dX8_isShort_1 fa_X8_28 (by have := hm.1; omega) hm.2.1 rfl ?_
  refine VW.iload_n dX8_isShort_4 rfl ?_
  refine VW.iaload dX8_isShort_5 (by have := hm.1; omega) hm.2.2.2.2.2.2.2.2.1 (by omega) (by omega) (by decide) ?_
  refine VW.aload_n dX8_isShort_6 rfl ?_
  refine VW.getR dX8_isShort_7 fa_X8_7 (by have := hm.1; omega) hm.2.1 rfl ?_
  refine VW.iconst dX8_isShort_10 ?_
  refine VW.iaload dX8_isShort_11 (by have := hm.1; omega) hm.2.2.1 (by omega) (by omega) (by decide) ?_
  rw [a2, show (0 : Int).toNat = 0 from rfl, z0]
  refine VW.icmp_ge 19 ⟨by omega, by omega⟩ ⟨by omega, by omega⟩ dX8_isShort_12 (by decide) (fun c12 => ?_) (fun c12 => ?_)
  · refine VW.iconst dX8_isShort_19 ?_
    refine VW.ireturn dX8_isShort_20 rfl rfl ?_
    refine fxP.ii ⟨?_, rfl⟩
    unfold bI
    first | (rw [if_pos (by rw [decide_eq_true_eq]; omega)]; done) | (rw [if_neg (by rw [decide_eq_true_eq]; omega)]; done)
  · refine VW.iconst dX8_isShort_15 ?_
    refine VW.goto 20 dX8_isShort_16 (by decide) ?_
    refine VW.ireturn dX8_isShort_20 rfl rfl ?_
    refine fxP.ii ⟨?_, rfl⟩
    unfold bI
    first | (rw [if_pos (by rw [decide_eq_true_eq]; omega)]; done) | (rw [if_neg (by rw [decide_eq_true_eq]; omega)]; done)
theorem eig_c {a b : Int} (ha : 0 ≤ a ∧ a ≤ 7) (hb : 0 ≤ b ∧ b ≤ 7) : eig a b = eig b a := by
  unfold eig
  split <;> split <;> omega
theorem t_isCorner (hst : l.stackTraces = false) (hm : isM N sh) (hz : zR (μ 274) xs ys C S) (hw : wfS S) (hq : hasR μ (D, Ln)) (okd : okF D Ln) {p : Int} (hp : 0 ≤ p ∧ p < D.length) : Zi G l N sh M_X8_isCorner [.ref (gB G + 273), vI p] μ (fun r μ' => r = bI (isCut D Ln p (rat S 1)) ∧ μ' = μ) := by
  refine Fx.of hst rfl (by decide +kernel) (Nat.le_of_ble_eq_true rfl) rfl ?_
  obtain ⟨ok1, ok2, ok3, ok4, ok5⟩ := id okd
  obtain ⟨hw5, hw0, hw1, hw2, hw3, hw4⟩ := id hw
  have z0 : μ 274 0 = rat S 0 := hz.1 0 (by omega)
  have z1 : μ 274 1 = rat S 1 := hz.1 1 (by omega)
  have hq1 : μ 273 11 = (D.length : Int) := hq.1
  have hqD : arr μ 279 D := hq.2.2.1
  have hqL : arr μ 280 Ln := hq.2.2.2
  have a1 := hqD p hp
  have a2 := hqL p (by omega)
  have nr := nng_rat ok4 p
  have sr := sum_rat ok4 p
  have br := rat_b ok3 hp.1 hp.2
  refine VW.iload_n dX8_isCorner_0 rfl ?_
  refine VW.if_eq 14 ⟨by omega, by omega⟩ dX8_isCorner_1 (by decide) (fun c1 => ?_) (fun c1 => ?_)
  · refine VW.iconst dX8_isCorner_14 ?_
    refine VW.ireturn dX8_isCorner_15 rfl rfl ?_
    refine fxP.ii ⟨?_, rfl⟩
    unfold bI
    first | (rw [if_pos (by unfold isCut; rw [decide_eq_true_eq]; omega)]; done) | (rw [if_neg (by unfold isCut; rw [decide_eq_true_eq]; omega)]; done)
  · refine VW.iload_n dX8_isCorner_4 rfl ?_
    refine VW.aload_n dX8_isCorner_5 rfl ?_
    refine VW.getI dX8_isCorner_6 fa_X8_74 (by have := hm.1; omega) hm.2.1 rfl ?_
    refine VW.iconst dX8_isCorner_9 ?_
    refine VW.isub dX8_isCorner_10 ?_
    refine VW.icmp_ne 16 ⟨by omega, by omega⟩ ⟨by omega, by omega⟩ dX8_isCorner_11 (by decide) (fun c11 => ?_) (fun c11 => ?_)
    · have a3 := hqD (p - 1) (by omega)
      have a4 := hqD (p + 1) (by omega)
      have b3 := rat_b ok3 (i := p - 1) (by omega) (by omega)
      have b4 := rat_b ok3 (i := p + 1) (by omega) (by omega)
      have ec := eig_c b4 br
      have e1 := eig_b (rat D (p - 1)) (rat D p)
      have e2 := eig_b (rat D (p + 1)) (rat D p)
      have e3 := eig_b (rat D (p - 1)) (rat D (p + 1))
      refine VW.aload_n dX8_isCorner_16 rfl ?_
      refine VW.getR dX8_isCorner_17 fa_X8_25 (by have := hm.1; omega) hm.2.1 rfl ?_
      refine VW.iload_n dX8_isCorner_20 rfl ?_
      refine VW.iconst dX8_isCorner_21 ?_
      refine VW.isub dX8_isCorner_22 ?_
      refine VW.iaload dX8_isCorner_23 (by have := hm.1; omega) hm.2.2.2.2.2.2.2.1 (by omega) (by omega) (by decide) ?_
      rw [a3]
      refine VW.istore_n (lv' := [(0, _), (1, _), (2, _)]) dX8_isCorner_24 (by decide) rfl ?_
      refine VW.aload_n dX8_isCorner_25 rfl ?_
      refine VW.getR dX8_isCorner_26 fa_X8_25 (by have := hm.1; omega) hm.2.1 rfl ?_
      refine VW.iload_n dX8_isCorner_29 rfl ?_
      refine VW.iconst dX8_isCorner_30 ?_
      refine VW.iadd dX8_isCorner_31 ?_
      refine VW.iaload dX8_isCorner_32 (by have := hm.1; omega) hm.2.2.2.2.2.2.2.1 (by omega) (by omega) (by decide) ?_
      rw [a4]
      refine VW.istore_n (lv' := [(0, _), (1, _), (2, _), (3, _)]) dX8_isCorner_33 (by decide) rfl ?_
      refine VW.iload_n dX8_isCorner_34 rfl ?_
      refine VW.aload_n dX8_isCorner_35 rfl ?_
      refine VW.getR dX8_isCorner_36 fa_X8_25 (by have := hm.1; omega) hm.2.1 rfl ?_
      refine VW.iload_n dX8_isCorner_39 rfl ?_
      refine VW.iaload dX8_isCorner_40 (by have := hm.1; omega) hm.2.2.2.2.2.2.2.1 (by omega) (by omega) (by decide) ?_
      rw [a1]
      refine VW.pS2 cs_X8_isCorner_X8_eighths dX8_isCorner_41 (Nat.le_of_ble_eq_true rfl) (t_eighths hst (by omega) (by omega)) ?_
      refine VW.iconst dX8_isCorner_44 ?_
      refine VW.icmp_ne 75 ⟨by omega, by omega⟩ ⟨by omega, by omega⟩ dX8_isCorner_45 (by decide) (fun c45 => ?_) (fun c45 => ?_)
      · refine VW.iconst dX8_isCorner_75 ?_
        refine VW.istore (lv' := [(0, _), (1, _), (2, _), (3, _), (4, _)]) dX8_isCorner_76 (by decide) rfl ?_
        refine VW.iload dX8_isCorner_78 rfl ?_
        refine VW.if_eq 102 (by decide) dX8_isCorner_80 (by decide) (fun _ => ?_) (fun c80 => absurd c80 (by decide))
        refine VW.iconst dX8_isCorner_102 ?_
        refine VW.ireturn dX8_isCorner_103 rfl rfl ?_
        refine fxP.ii ⟨?_, rfl⟩
        unfold bI
        first | (rw [if_pos (by unfold isCut; rw [decide_eq_true_eq]; omega)]; done) | (rw [if_neg (by unfold isCut; rw [decide_eq_true_eq]; omega)]; done)
      · refine VW.iload_n dX8_isCorner_48 rfl ?_
        refine VW.aload_n dX8_isCorner_49 rfl ?_
        refine VW.getR dX8_isCorner_50 fa_X8_25 (by have := hm.1; omega) hm.2.1 rfl ?_
        refine VW.iload_n dX8_isCorner_53 rfl ?_
        refine VW.iaload dX8_isCorner_54 (by have := hm.1; omega) hm.2.2.2.2.2.2.2.1 (by omega) (by omega) (by decide) ?_
        rw [a1]
        refine VW.pS2 cs_X8_isCorner_X8_eighths dX8_isCorner_55 (Nat.le_of_ble_eq_true rfl) (t_eighths hst (by omega) (by omega)) ?_
        refine VW.iconst dX8_isCorner_58 ?_
        refine VW.icmp_ne 75 ⟨by omega, by omega⟩ ⟨by omega, by omega⟩ dX8_isCorner_59 (by decide) (fun c59 => ?_) (fun c59 => ?_)
        · refine VW.iconst dX8_isCorner_75 ?_
          refine VW.istore (lv' := [(0, _), (1, _), (2, _), (3, _), (4, _)]) dX8_isCorner_76 (by decide) rfl ?_
          refine VW.iload dX8_isCorner_78 rfl ?_
          refine VW.if_eq 102 (by decide) dX8_isCorner_80 (by decide) (fun _ => ?_) (fun c80 => absurd c80 (by decide))
          refine VW.iconst dX8_isCorner_102 ?_
          refine VW.ireturn dX8_isCorner_103 rfl rfl ?_
          refine fxP.ii ⟨?_, rfl⟩
          unfold bI
          first | (rw [if_pos (by unfold isCut; rw [decide_eq_true_eq]; omega)]; done) | (rw [if_neg (by unfold isCut; rw [decide_eq_true_eq]; omega)]; done)
        · refine VW.iload_n dX8_isCorner_62 rfl ?_
          refine VW.iload_n dX8_isCorner_63 rfl ?_
          refine VW.pS2 cs_X8_isCorner_X8_eighths dX8_isCorner_64 (Nat.le_of_ble_eq_true rfl) (t_eighths hst (by omega) (by omega)) ?_
          refine VW.iconst dX8_isCorner_67 ?_
          refine VW.icmp_ne 75 ⟨by omega, by omega⟩ ⟨by omega, by omega⟩ dX8_isCorner_68 (by decide) (fun c68 => ?_) (fun c68 => ?_)
          · refine VW.iconst dX8_isCorner_75 ?_
            refine VW.istore (lv' := [(0, _), (1, _), (2, _), (3, _), (4, _)]) dX8_isCorner_76 (by decide) rfl ?_
            refine VW.iload dX8_isCorner_78 rfl ?_
            refine VW.if_eq 102 (by decide) dX8_isCorner_80 (by decide) (fun _ => ?_) (fun c80 => absurd c80 (by decide))
            refine VW.iconst dX8_isCorner_102 ?_
            refine VW.ireturn dX8_isCorner_103 rfl rfl ?_
            refine fxP.ii ⟨?_, rfl⟩
            unfold bI
            first | (rw [if_pos (by unfold isCut; rw [decide_eq_true_eq]; omega)]; done) | (rw [if_neg (by unfold isCut; rw [decide_eq_true_eq]; omega)]; done)
          · refine VW.iconst dX8_isCorner_71 ?_
            refine VW.goto 76 dX8_isCorner_72 (by decide) ?_
            refine VW.istore (lv' := [(0, _), (1, _), (2, _), (3, _), (4, _)]) dX8_isCorner_76 (by decide) rfl ?_
            refine VW.iload dX8_isCorner_78 rfl ?_
            refine VW.if_eq 102 (by decide) dX8_isCorner_80 (by decide) (fun c80 => absurd c80 (by decide)) (fun _ => ?_)
            refine VW.aload_n dX8_isCorner_83 rfl ?_
            refine VW.getR dX8_isCorner_84 fa_X8_28 (by have := hm.1; omega) hm.2.1 rfl ?_
            refine VW.iload_n dX8_isCorner_87 rfl ?_
            refine VW.iaload dX8_isCorner_88 (by have := hm.1; omega) hm.2.2.2.2.2.2.2.2.1 (by omega) (by omega) (by decide) ?_
            refine VW.aload_n dX8_isCorner_89 rfl ?_
            refine VW.getR dX8_isCorner_90 fa_X8_7 (by have := hm.1; omega) hm.2.1 rfl ?_
            refine VW.iconst dX8_isCorner_93 ?_
            refine VW.iaload dX8_isCorner_94 (by have := hm.1; omega) hm.2.2.1 (by omega) (by omega) (by decide) ?_
            rw [a2, show (1 : Int).toNat = 1 from rfl, z1]
            refine VW.icmp_gt 102 ⟨by omega, by omega⟩ ⟨by omega, by omega⟩ dX8_isCorner_95 (by decide) (fun c95 => ?_) (fun c95 => ?_)
            · refine VW.iconst dX8_isCorner_102 ?_
              refine VW.ireturn dX8_isCorner_103 rfl rfl ?_
              refine fxP.ii ⟨?_, rfl⟩
              unfold bI
              first | (rw [if_pos (by unfold isCut; rw [decide_eq_true_eq]; omega)]; done) | (rw [if_neg (by unfold isCut; rw [decide_eq_true_eq]; omega)]; done)
            · refine VW.iconst dX8_isCorner_98 ?_
              refine VW.goto 103 dX8_isCorner_99 (by decide) ?_
              refine VW.ireturn dX8_isCorner_103 rfl rfl ?_
              refine fxP.ii ⟨?_, rfl⟩
              unfold bI
              first | (rw [if_pos (by unfold isCut; rw [decide_eq_true_eq]; omega)]; done) | (rw [if_neg (by unfold isCut; rw [decide_eq_true_eq]; omega)]; done)
    · refine VW.iconst dX8_isCorner_14 ?_
      refine VW.ireturn dX8_isCorner_15 rfl rfl ?_
      refine fxP.ii ⟨?_, rfl⟩
      unfold bI
      first | (rw [if_pos (by unfold isCut; rw [decide_eq_true_eq]; omega)]; done) | (rw [if_neg (by unfold isCut; rw [decide_eq_true_eq]; omega)]; done)
theorem lp_X8_ff (hst : l.stackTraces = false) (hm : isM N sh) (hz : zR (μ 274) xs ys C S) (hw : wfS S) (hq : hasR μ (D, Ln)) (okd : okF D Ln) (h2 : 1 < D.length) : ∀ (n : Nat) (p f : Int), p + 1 = n ∧ p < D.length → f = fdF D Ln (rat S 0) (rat S 1) (D.length - (p + 1).toNat) (p + 1) → -1 ≤ f ∧ f < D.length → VW G l none M_X8_firstForgiven 9 [(0, .ref (gB G + 273)), (1, vI f), (2, vI p)] [] (N, sh, μ) 0 0 (fxP N sh (oN (vN_i (fun a μ' => a = fdrop D Ln (rat S 0) (rat S 1) ∧ μ' = μ)))) := by
  obtain ⟨ok1, ok2, ok3, ok4, ok5⟩ := id okd
  obtain ⟨hw5, hw0, hw1, hw2, hw3, hw4⟩ := id hw
  have z0 : μ 274 0 = rat S 0 := hz.1 0 (by omega)
  have z1 : μ 274 1 = rat S 1 := hz.1 1 (by omega)
  have hq1 : μ 273 11 = (D.length : Int) := hq.1
  have hqD : arr μ 279 D := hq.2.2.1
  have hqL : arr μ 280 Ln := hq.2.2.2
  intro n
  induction n with
  | zero =>
    intro p f h1 hf hfb
    refine VW.iload_n dX8_firstForgiven_9 rfl ?_
    refine VW.if_lt 49 ⟨by omega, by omega⟩ dX8_firstForgiven_10 (by decide) (fun c10 => ?_) (fun c10 => by omega)
    refine VW.iload_n dX8_firstForgiven_49 rfl ?_
    refine VW.ireturn dX8_firstForgiven_50 rfl rfl ?_
    obtain rfl : p = -1 := by omega
    exact fxP.ii ⟨hf, rfl⟩
  | succ n ih =>
    intro p f h1 hf hfb
    refine VW.iload_n dX8_firstForgiven_9 rfl ?_
    refine VW.if_lt 49 ⟨by omega, by omega⟩ dX8_firstForgiven_10 (by decide) (fun c10 => by omega) (fun c10 => ?_)
    refine VW.aload_n dX8_firstForgiven_13 rfl ?_
    refine VW.getI dX8_firstForgiven_14 fa_X8_74 (by have := hm.1; omega) hm.2.1 rfl ?_
    refine VW.iconst dX8_firstForgiven_17 ?_
    refine VW.icmp_le 49 ⟨by omega, by omega⟩ ⟨by omega, by omega⟩ dX8_firstForgiven_18 (by decide) (fun c18 => by omega) (fun c18 => ?_)
    refine VW.aload_n dX8_firstForgiven_21 rfl ?_
    refine VW.iload_n dX8_firstForgiven_22 rfl ?_
    refine VW.pV1 cv_X8_firstForgiven_X8_isShort dX8_firstForgiven_23 (Nat.le_of_ble_eq_true rfl) (by have := hm.1; omega) hm.2.1 (t_isShort hst hm hz hw hq okd (p := p) ⟨by omega, by omega⟩) ?_
    refine VW.if_ne 37 (bR2 _) dX8_firstForgiven_26 (by decide) (fun c26 => ?_) (fun c26 => ?_)
    · refine VW.iload_n dX8_firstForgiven_37 rfl ?_
      refine VW.goto 42 dX8_firstForgiven_38 (by decide) ?_
      refine VW.istore_n (lv' := [(0, _), (1, _), (2, _)]) dX8_firstForgiven_42 (by decide) rfl ?_
      refine VW.iinc (lv' := [(0, _), (1, _), (2, _)]) dX8_firstForgiven_43 rfl (by decide) rfl ?_
      refine VW.goto 9 dX8_firstForgiven_46 (by decide) ?_
      refine VW.sub ?_ [0, 1, 2] rfl
      have hfd : ∀ b : Int, (if rat Ln p < rat S 0 ∨ isCut D Ln p (rat S 1) = true then p else f) = b → fdF D Ln (rat S 0) (rat S 1) (D.length - p.toNat) p = b := fun b hb => by
        rw [← hb, hf, show D.length - p.toNat = (D.length - (p + 1).toNat) + 1 by omega]
        rfl
      rw [bI0d] at c26
      first
      | (rw [bI0] at c34
         exact ih (p - 1) _ (by omega) (by rw [show p - 1 + 1 = p by omega]; exact (hfd f (if_neg (by rintro (w | w); { exact c26 w }; { exact c34 w }))).symm) (by omega))
      | (rw [bI0] at c34
         exact ih (p - 1) _ (by omega) (by rw [show p - 1 + 1 = p by omega]; exact (hfd p (if_pos (Or.inr (by cases hh : isCut D Ln p (rat S 1) with | true => rfl | false => exact absurd (by rw [hh]; simp) c34)))).symm) (by omega))
      | exact ih (p - 1) _ (by omega) (by rw [show p - 1 + 1 = p by omega]; exact (hfd p (if_pos (Or.inl (by omega)))).symm) (by omega)
    · refine VW.aload_n dX8_firstForgiven_29 rfl ?_
      refine VW.iload_n dX8_firstForgiven_30 rfl ?_
      refine VW.pV1 cv_X8_firstForgiven_X8_isCorner dX8_firstForgiven_31 (Nat.le_of_ble_eq_true rfl) (by have := hm.1; omega) hm.2.1 (t_isCorner hst hm hz hw hq okd (p := p) ⟨by omega, by omega⟩) ?_
      refine VW.if_eq 41 (bR2 _) dX8_firstForgiven_34 (by decide) (fun c34 => ?_) (fun c34 => ?_)
      · refine VW.iload_n dX8_firstForgiven_41 rfl ?_
        refine VW.istore_n (lv' := [(0, _), (1, _), (2, _)]) dX8_firstForgiven_42 (by decide) rfl ?_
        refine VW.iinc (lv' := [(0, _), (1, _), (2, _)]) dX8_firstForgiven_43 rfl (by decide) rfl ?_
        refine VW.goto 9 dX8_firstForgiven_46 (by decide) ?_
        refine VW.sub ?_ [0, 1, 2] rfl
        have hfd : ∀ b : Int, (if rat Ln p < rat S 0 ∨ isCut D Ln p (rat S 1) = true then p else f) = b → fdF D Ln (rat S 0) (rat S 1) (D.length - p.toNat) p = b := fun b hb => by
          rw [← hb, hf, show D.length - p.toNat = (D.length - (p + 1).toNat) + 1 by omega]
          rfl
        rw [bI0d] at c26
        first
        | (rw [bI0] at c34
           exact ih (p - 1) _ (by omega) (by rw [show p - 1 + 1 = p by omega]; exact (hfd f (if_neg (by rintro (w | w); { exact c26 w }; { exact c34 w }))).symm) (by omega))
        | (rw [bI0] at c34
           exact ih (p - 1) _ (by omega) (by rw [show p - 1 + 1 = p by omega]; exact (hfd p (if_pos (Or.inr (by cases hh : isCut D Ln p (rat S 1) with | true => rfl | false => exact absurd (by rw [hh]; simp) c34)))).symm) (by omega))
        | exact ih (p - 1) _ (by omega) (by rw [show p - 1 + 1 = p by omega]; exact (hfd p (if_pos (Or.inl (by omega)))).symm) (by omega)
      · refine VW.iload_n dX8_firstForgiven_37 rfl ?_
        refine VW.goto 42 dX8_firstForgiven_38 (by decide) ?_
        refine VW.istore_n (lv' := [(0, _), (1, _), (2, _)]) dX8_firstForgiven_42 (by decide) rfl ?_
        refine VW.iinc (lv' := [(0, _), (1, _), (2, _)]) dX8_firstForgiven_43 rfl (by decide) rfl ?_
        refine VW.goto 9 dX8_firstForgiven_46 (by decide) ?_
        refine VW.sub ?_ [0, 1, 2] rfl
        have hfd : ∀ b : Int, (if rat Ln p < rat S 0 ∨ isCut D Ln p (rat S 1) = true then p else f) = b → fdF D Ln (rat S 0) (rat S 1) (D.length - p.toNat) p = b := fun b hb => by
          rw [← hb, hf, show D.length - p.toNat = (D.length - (p + 1).toNat) + 1 by omega]
          rfl
        rw [bI0d] at c26
        first
        | (rw [bI0] at c34
           exact ih (p - 1) _ (by omega) (by rw [show p - 1 + 1 = p by omega]; exact (hfd f (if_neg (by rintro (w | w); { exact c26 w }; { exact c34 w }))).symm) (by omega))
        | (rw [bI0] at c34
           exact ih (p - 1) _ (by omega) (by rw [show p - 1 + 1 = p by omega]; exact (hfd p (if_pos (Or.inr (by cases hh : isCut D Ln p (rat S 1) with | true => rfl | false => exact absurd (by rw [hh]; simp) c34)))).symm) (by omega))
        | exact ih (p - 1) _ (by omega) (by rw [show p - 1 + 1 = p by omega]; exact (hfd p (if_pos (Or.inl (by omega)))).symm) (by omega)
theorem t_firstForgiven (hst : l.stackTraces = false) (hm : isM N sh) (hz : zR (μ 274) xs ys C S) (hw : wfS S) (hq : hasR μ (D, Ln)) (okd : okF D Ln) : Zi G l N sh M_X8_firstForgiven [.ref (gB G + 273)] μ (fun r μ' => r = (if D.length ≤ 1 then -1 else fdrop D Ln (rat S 0) (rat S 1)) ∧ μ' = μ) := by
  refine Fx.of hst rfl (by decide +kernel) (Nat.le_of_ble_eq_true rfl) rfl ?_
  obtain ⟨ok1, ok2, ok3, ok4, ok5⟩ := id okd
  obtain ⟨hw5, hw0, hw1, hw2, hw3, hw4⟩ := id hw
  have z0 : μ 274 0 = rat S 0 := hz.1 0 (by omega)
  have z1 : μ 274 1 = rat S 1 := hz.1 1 (by omega)
  have hq1 : μ 273 11 = (D.length : Int) := hq.1
  have hqD : arr μ 279 D := hq.2.2.1
  have hqL : arr μ 280 Ln := hq.2.2.2
  by_cases h2 : D.length ≤ 1
  · rw [if_pos h2]
    refine VW.iconst dX8_firstForgiven_0 ?_
    refine VW.istore_n (lv' := [(0, _), (1, _)]) dX8_firstForgiven_1 (by decide) rfl ?_
    refine VW.aload_n dX8_firstForgiven_2 rfl ?_
    refine VW.getI dX8_firstForgiven_3 fa_X8_74 (by have := hm.1; omega) hm.2.1 rfl ?_
    rw [hq1]
    refine VW.iconst dX8_firstForgiven_6 ?_
    refine VW.isub dX8_firstForgiven_7 ?_
    refine VW.istore_n (lv' := [(0, _), (1, _), (2, _)]) dX8_firstForgiven_8 (by decide) rfl ?_
    refine VW.iload_n dX8_firstForgiven_9 rfl ?_
    refine VW.if_lt 49 ⟨by omega, by omega⟩ dX8_firstForgiven_10 (by decide) (fun c10 => ?_) (fun c10 => ?_)
    · refine VW.iload_n dX8_firstForgiven_49 rfl ?_
      refine VW.ireturn dX8_firstForgiven_50 rfl rfl ?_
      exact fxP.ii ⟨rfl, rfl⟩
    · refine VW.aload_n dX8_firstForgiven_13 rfl ?_
      refine VW.getI dX8_firstForgiven_14 fa_X8_74 (by have := hm.1; omega) hm.2.1 rfl ?_
      rw [hq1]
      refine VW.iconst dX8_firstForgiven_17 ?_
      refine VW.icmp_le 49 ⟨by omega, by omega⟩ ⟨by omega, by omega⟩ dX8_firstForgiven_18 (by decide) (fun c18 => ?_) (fun c18 => by omega)
      refine VW.iload_n dX8_firstForgiven_49 rfl ?_
      refine VW.ireturn dX8_firstForgiven_50 rfl rfl ?_
      exact fxP.ii ⟨rfl, rfl⟩
  · rw [if_neg h2]
    refine VW.iconst dX8_firstForgiven_0 ?_
    refine VW.istore_n (lv' := [(0, _), (1, _)]) dX8_firstForgiven_1 (by decide) rfl ?_
    refine VW.aload_n dX8_firstForgiven_2 rfl ?_
    refine VW.getI dX8_firstForgiven_3 fa_X8_74 (by have := hm.1; omega) hm.2.1 rfl ?_
    rw [hq1]
    refine VW.iconst dX8_firstForgiven_6 ?_
    refine VW.isub dX8_firstForgiven_7 ?_
    refine VW.istore_n (lv' := [(0, _), (1, _), (2, _)]) dX8_firstForgiven_8 (by decide) rfl ?_
    exact lp_X8_ff hst hm hz hw hq okd (by omega) D.length ((D.length : Int) - 1) (-1) (by omega) (by rw [show D.length - ((D.length : Int) - 1 + 1).toNat = 0 by omega]; rfl) (by omega)
end PL
