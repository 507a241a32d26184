/-! ===== act: set, forget, learn, and the whole of it ===== -/
section PAC
variable {G : GT} {l : Launch} {N : Nat} {sh : Nat → ShT} {μ μ' : Mem} {xs ys S D Ln : List Int} {C : List (List Int)} {d : Nat}
variable {Z : List St} {p k m : Nat} {Φ : RT → Prop} {c q y act : Int} {sh0 : Nat → ShT}
theorem tb_4 {s : Int} (h : s = 4) : tbo 1 s = 0 ∧ tbo 2 s = 20 := by
  subst h
  decide
theorem tb_1 {s : Int} (h : s = 1) : tbo 1 s = 0 ∧ tbo 2 s = 9 := by
  subst h
  decide
theorem tb_x {s : Int} (h : s = 0 ∨ s = 2 ∨ s = 3) : tbo 1 s = 1 ∧ tbo 2 s = 9 := by
  rcases h with rfl | rfl | rfl <;> decide
theorem act_set (hst : l.stackTraces = false) (hg : isG N sh) (hl : isL N sh) (ht : isT N sh d) (hI : Inv μ xs ys C S Z) (hN : p + k = N) (hk : k ≤ 3) (hm : m ≤ 82) (hsh : los p sh0 sh) {x : Int} : VW G l (some p) M_L_act 785 [(0, .ref (gB G + 0)), (1, vI x), (2, vI y), (3, .ref (gB G + 273)), (4, .ref (gB G + 274)), (5, .ref (gB G + 275)), (6, .ref (gB G + 276)), (7, vI act), (8, .ref (gB G + d)), (9, .ref (gB G + (d + 1))), (10, .ref (gB G + (d + 2)))] [] (N, sh, μ) k m (xaP p sh0 70 700 aP) := by
  obtain ⟨hA, ok, hL, hok, hpw⟩ := id hI
  obtain ⟨⟨⟨ok1, ok2, ok3, ok4⟩, ⟨ok5, ok6, ok7⟩, ok8⟩, ⟨ok9, ok10⟩, ok11, ok12⟩ := okA.un ok
  have hd1 := ht.1.1
  have hd2 := ht.1.2
  have h7 := hok.1
  refine VW.iload_n dL_act_785 rfl ?_
  refine VW.iconst dL_act_786 ?_
  refine VW.zqS (av := [vI y, vI 5]) cs_L_act_L_at dL_act_787 rfl (Nat.le_of_ble_eq_true rfl) (l_at hst ⟨by omega, by omega⟩) (fun s hs => ?_)
  refine VW.istore (lv' := [(0, _), (1, _), (2, _), (3, _), (4, _), (5, _), (6, _), (7, _), (8, _), (9, _), (10, _), (11, _)]) dL_act_790 (by decide) rfl ?_
  refine VW.aload_n dL_act_792 rfl ?_
  refine VW.iconst dL_act_793 ?_
  refine VW.iload dL_act_794 rfl ?_
  refine VW.iadd dL_act_796 ?_
  refine VW.iaload dL_act_797 (hl.1 273 (by decide)) hl.2.1 (by omega) (by omega) (by decide) ?_
  rw [hL.2.2.2.1.at hs]
  refine VW.istore (lv' := [(0, _), (1, _), (2, _), (3, _), (4, _), (5, _), (6, _), (7, _), (8, _), (9, _), (10, _), (11, _), (12, _)]) dL_act_798 (by decide) rfl ?_
  refine VW.aload_n dL_act_800 rfl ?_
  refine VW.iconst dL_act_801 ?_
  refine VW.iload dL_act_802 rfl ?_
  refine VW.iadd dL_act_804 ?_
  refine VW.iload dL_act_805 rfl ?_
  refine VW.iconst dL_act_807 ?_
  refine VW.icmp_ne 822 ⟨by omega, by omega⟩ ⟨by omega, by omega⟩ dL_act_808 (by decide) (fun c808 => ?_) (fun c808 => ?_)
  · refine VW.iload dL_act_822 rfl ?_
    refine VW.iconst dL_act_824 ?_
    refine VW.icmp_ne 839 ⟨by omega, by omega⟩ ⟨by omega, by omega⟩ dL_act_825 (by decide) (fun c825 => ?_) (fun c825 => ?_)
    · refine VW.iconst dL_act_839 ?_
      refine VW.iload_n dL_act_840 rfl ?_
      refine VW.iconst dL_act_841 ?_
      refine VW.ishrX dL_act_842 (fun x842 hx842 => ?_)
      refine VW.bipush dL_act_843 rfl ?_
      refine VW.zqS (av := [vI x842, vI 9]) cs_L_act_L_at dL_act_845 rfl (Nat.le_of_ble_eq_true rfl) (l_at hst ⟨by omega, by omega⟩) (fun r3 hr3 => ?_)
      refine VW.iadd dL_act_848 ?_
      have tb : tbo 1 s = _ ∧ tbo 2 s = _ := tb_x (by omega)
      exact act_set2 hst hg hl ht hI hN hk hm hsh hs ⟨by omega, by omega⟩
    · refine VW.iload_n dL_act_828 rfl ?_
      refine VW.iconst dL_act_829 ?_
      refine VW.ishrX dL_act_830 (fun x830 hx830 => ?_)
      refine VW.bipush dL_act_831 rfl ?_
      refine VW.zqS (av := [vI x830, vI 10]) cs_L_act_L_at dL_act_833 rfl (Nat.le_of_ble_eq_true rfl) (l_at hst ⟨by omega, by omega⟩) (fun r2 hr2 => ?_)
      refine VW.goto 849 dL_act_836 (by decide) ?_
      have tb : tbo 1 s = _ ∧ tbo 2 s = _ := tb_1 (by omega)
      exact act_set2 hst hg hl ht hI hN hk hm hsh hs ⟨by omega, by omega⟩
  · refine VW.iload_n dL_act_811 rfl ?_
    refine VW.iconst dL_act_812 ?_
    refine VW.ishrX dL_act_813 (fun x813 hx813 => ?_)
    refine VW.bipush dL_act_814 rfl ?_
    refine VW.zqS (av := [vI x813, vI 6]) cs_L_act_L_at dL_act_816 rfl (Nat.le_of_ble_eq_true rfl) (l_at hst ⟨by omega, by omega⟩) (fun r1 hr1 => ?_)
    refine VW.goto 849 dL_act_819 (by decide) ?_
    have tb : tbo 1 s = _ ∧ tbo 2 s = _ := tb_4 (by omega)
    exact act_set2 hst hg hl ht hI hN hk hm hsh hs ⟨by omega, by omega⟩
theorem lp_fg (hst : l.stackTraces = false) (hl : isL N sh) {x : Int} {μ1 : Mem} (hc : 0 ≤ c ∧ c < C.length) (h7 : C.length ≤ 7) (h1n : μ1 273 1 = (C.length : Int) - 1) (kk : ∀ μ2 : Mem, frm μ1 μ2 276 277 → (∀ i : Int, 0 ≤ i ∧ i < 64 → μ2 276 i.toNat = if 9 * c ≤ i ∧ i < (9 * ((C.length : Int) - 1)) then μ1 276 (i + 9).toNat else μ1 276 i.toNat) → VW G l (some p) M_L_act 752 [(0, .ref (gB G + 0)), (1, vI x), (2, vI y), (3, .ref (gB G + 273)), (4, .ref (gB G + 274)), (5, .ref (gB G + 275)), (6, .ref (gB G + 276)), (7, vI act), (8, .ref (gB G + d)), (9, .ref (gB G + (d + 1))), (10, .ref (gB G + (d + 2))), (11, vI c), (12, vI (9 * ((C.length : Int) - 1)))] [] (N, sh, μ2) k m (xaP p sh0 70 700 aP)) : ∀ (n : Nat) (j : Int), 9 * c ≤ j → j + n = (9 * ((C.length : Int) - 1)) → ∀ μ2 : Mem, frm μ1 μ2 276 277 → (∀ i : Int, 0 ≤ i ∧ i < 64 → μ2 276 i.toNat = if 9 * c ≤ i ∧ i < j then μ1 276 (i + 9).toNat else μ1 276 i.toNat) → VW G l (some p) M_L_act 722 [(0, .ref (gB G + 0)), (1, vI x), (2, vI y), (3, .ref (gB G + 273)), (4, .ref (gB G + 274)), (5, .ref (gB G + 275)), (6, .ref (gB G + 276)), (7, vI act), (8, .ref (gB G + d)), (9, .ref (gB G + (d + 1))), (10, .ref (gB G + (d + 2))), (11, vI c), (12, vI j)] [] (N, sh, μ2) k m (xaP p sh0 70 700 aP) := by
  intro n
  induction n with
  | zero =>
    intro j h1 h2 μ2 hf2 hs2
    have e1 : μ2 273 (1 : Int).toNat = (C.length : Int) - 1 := (congrFun (hf2 273 (by decide)) 1).trans h1n
    refine VW.iload dL_act_722 rfl ?_
    refine VW.bipush dL_act_724 rfl ?_
    refine VW.aload_n dL_act_726 rfl ?_
    refine VW.iconst dL_act_727 ?_
    refine VW.iaload dL_act_728 (hl.1 273 (by decide)) hl.2.1 (by omega) (by omega) (by decide) ?_
    rw [e1]
    refine VW.imul dL_act_729 ?_
    refine VW.icmp_ge 752 ⟨by omega, by omega⟩ ⟨by omega, by omega⟩ dL_act_730 (by decide) (fun c730 => ?_) (fun c730 => by omega)
    obtain rfl : j = 9 * ((C.length : Int) - 1) := by omega
    exact kk μ2 hf2 hs2
  | succ n ih =>
    intro j h1 h2 μ2 hf2 hs2
    have e1 : μ2 273 (1 : Int).toNat = (C.length : Int) - 1 := (congrFun (hf2 273 (by decide)) 1).trans h1n
    refine VW.iload dL_act_722 rfl ?_
    refine VW.bipush dL_act_724 rfl ?_
    refine VW.aload_n dL_act_726 rfl ?_
    refine VW.iconst dL_act_727 ?_
    refine VW.iaload dL_act_728 (hl.1 273 (by decide)) hl.2.1 (by omega) (by omega) (by decide) ?_
    rw [e1]
    refine VW.imul dL_act_729 ?_
    refine VW.icmp_ge 752 ⟨by omega, by omega⟩ ⟨by omega, by omega⟩ dL_act_730 (by decide) (fun c730 => by omega) (fun c730 => ?_)
    refine VW.aload dL_act_733 rfl ?_
    refine VW.iload dL_act_735 rfl ?_
    refine VW.aload dL_act_737 rfl ?_
    refine VW.iload dL_act_739 rfl ?_
    refine VW.bipush dL_act_741 rfl ?_
    refine VW.iadd dL_act_743 ?_
    refine VW.iaload dL_act_744 (hl.1 276 (by decide)) hl.2.2.2.2 (by omega) (by omega) (by decide) ?_
    rw [hs2 (j + 9) ⟨by omega, by omega⟩, if_neg (by omega)]
    refine VW.iastore dL_act_745 (hl.1 276 (by decide)) hl.2.2.2.2 (by omega) (by omega) (by decide) ?_
    refine VW.iinc (lv' := [(0, _), (1, _), (2, _), (3, _), (4, _), (5, _), (6, _), (7, _), (8, _), (9, _), (10, _), (11, _), (12, _)]) dL_act_746 rfl (by decide) rfl ?_
    refine VW.goto 722 dL_act_749 (by decide) ?_
    refine ih (j + 1) (by omega) (by omega) _ (hf2.tr (frm_mup ⟨by decide, by decide⟩)) (fun i hi => ?_)
    by_cases e : i = j
    · subst e
      rw [mup_s, if_pos (by omega)]
    · rw [mup_k (by omega), hs2 i hi]
      by_cases e2 : 9 * c ≤ i ∧ i < j
      · rw [if_pos e2, if_pos (by omega)]
      · rw [if_neg e2, if_neg (by omega)]
theorem co_erase {μ1 μ2 : Mem} (h : hasCo μ1 C) (okc : okC C) (hc : 0 ≤ c ∧ c < C.length) (hs2 : ∀ i : Int, 0 ≤ i ∧ i < 64 → μ2 276 i.toNat = if 9 * c ≤ i ∧ i < 9 * ((C.length : Int) - 1) then μ1 276 (i + 9).toNat else μ1 276 i.toNat) : hasCo μ2 (C.eraseIdx c.toNat) := fun a ha => by
  have h7 := okc.1
  have el : (C.eraseIdx c.toNat).length = C.length - 1 := by rw [List.length_eraseIdx, if_pos (by omega)]
  rw [el] at ha
  rw [getD_erase hc ha.1]
  by_cases e : a < c
  · rw [if_pos e]
    obtain ⟨z1, z2⟩ := h a ⟨by omega, by omega⟩
    have l8 := okc.at (c := a) ⟨by omega, by omega⟩
    refine ⟨by rw [hs2 (9 * a) ⟨by omega, by omega⟩, if_neg (by omega)]; exact z1, fun j hj => ?_⟩
    rw [hs2 (9 * a + 1 + j) ⟨by omega, by omega⟩, if_neg (by omega)]
    exact z2 j hj
  · rw [if_neg e]
    obtain ⟨z1, z2⟩ := h (a + 1) ⟨by omega, by omega⟩
    have l8 := okc.at (c := a + 1) ⟨by omega, by omega⟩
    refine ⟨by rw [hs2 (9 * a) ⟨by omega, by omega⟩, if_pos (by omega), show 9 * a + 9 = 9 * (a + 1) by omega]; exact z1, fun j hj => ?_⟩
    rw [hs2 (9 * a + 1 + j) ⟨by omega, by omega⟩, if_pos (by omega), show 9 * a + 1 + j + 9 = 9 * (a + 1) + 1 + j by omega]
    exact z2 j hj
theorem okC.erase (h : okC C) : okC (C.eraseIdx c.toNat) := ⟨by rw [List.length_eraseIdx]; have := h.1; split <;> omega, fun L hL => h.2 L (List.mem_of_mem_eraseIdx hL)⟩
theorem okC.snoc (h : okC C) (h7 : C.length < 7) (hD : (1 ≤ D.length ∧ D.length ≤ 8) ∧ bnd D 0 7) : okC (C ++ [D]) := ⟨by rw [List.length_append, List.length_singleton]; omega, fun L hL => by
  rcases List.mem_append.mp hL with hL | hL
  · exact h.2 L hL
  · rw [List.mem_singleton.mp hL]; exact hD⟩
theorem act_forget (hst : l.stackTraces = false) (hg : isG N sh) (hl : isL N sh) (ht : isT N sh d) (hI : Inv μ xs ys C S Z) (hN : p + k = N) (hk : k ≤ 3) (hm : m ≤ 82) (hsh : los p sh0 sh) {x : Int} (hc0 : 0 < (C.length : Int)) : VW G l (some p) M_L_act 699 [(0, .ref (gB G + 0)), (1, vI x), (2, vI y), (3, .ref (gB G + 273)), (4, .ref (gB G + 274)), (5, .ref (gB G + 275)), (6, .ref (gB G + 276)), (7, vI act), (8, .ref (gB G + d)), (9, .ref (gB G + (d + 1))), (10, .ref (gB G + (d + 2)))] [] (N, sh, μ) k m (xaP p sh0 70 700 aP) := by
  obtain ⟨hA, ok, hL, hok, hpw⟩ := id hI
  obtain ⟨⟨⟨ok1, ok2, ok3, ok4⟩, ⟨ok5, ok6, ok7⟩, ok8⟩, ⟨ok9, ok10⟩, ok11, ok12⟩ := okA.un ok
  have hd1 := ht.1.1
  have hd2 := ht.1.2
  have h7 := hok.1
  refine VW.iload_n dL_act_699 rfl ?_
  refine VW.aload_n dL_act_700 rfl ?_
  refine VW.iconst dL_act_701 ?_
  refine VW.iaload dL_act_702 (hl.1 273 (by decide)) hl.2.1 (by omega) (by omega) (by decide) ?_
  rw [show μ 273 (1 : Int).toNat = (C.length : Int) from hL.2.1]
  refine VW.zqS (av := [vI y, vI (C.length : Int)]) cs_L_act_L_at dL_act_703 rfl (Nat.le_of_ble_eq_true rfl) (l_at hst ⟨by omega, by omega⟩) (fun c hc => ?_)
  refine VW.istore (lv' := [(0, _), (1, _), (2, _), (3, _), (4, _), (5, _), (6, _), (7, _), (8, _), (9, _), (10, _), (11, _)]) dL_act_706 (by decide) rfl ?_
  refine VW.aload_n dL_act_708 rfl ?_
  refine VW.iconst dL_act_709 ?_
  refine VW.dup2 dL_act_710 rfl rfl ?_
  refine VW.iaload dL_act_711 (hl.1 273 (by decide)) hl.2.1 (by omega) (by omega) (by decide) ?_
  rw [show μ 273 (1 : Int).toNat = (C.length : Int) from hL.2.1]
  refine VW.iconst dL_act_712 ?_
  refine VW.isub dL_act_713 ?_
  refine VW.iastore dL_act_714 (hl.1 273 (by decide)) hl.2.1 (by omega) (by omega) (by decide) ?_
  refine VW.nmm (fun μ1 hμ1 => ?_)
  have A1 : hasA μ1 (mk xs ys C S Z []) := by
    rw [hμ1]
    exact hA.keep (frm_mup (lo := 273) (hi := 277) ⟨by decide, by decide⟩) (Nat.le_refl _)
  have h1n : μ1 273 1 = (C.length : Int) - 1 := by
    rw [hμ1]
    exact mup_s _ _ _ _
  have C1 : hasCo μ1 C := by
    rw [hμ1]
    exact hL.2.2.2.2.2.2.eq (mup_n (by decide))
  obtain ⟨σ0, hσ⟩ : ∃ σ0 : St, σ0 = ((xs, ys), C, S) := ⟨_, rfl⟩
  refine VW.bipush dL_act_715 rfl ?_
  refine VW.iload dL_act_717 rfl ?_
  refine VW.imul dL_act_719 ?_
  refine VW.istore (lv' := [(0, _), (1, _), (2, _), (3, _), (4, _), (5, _), (6, _), (7, _), (8, _), (9, _), (10, _), (11, _), (12, _)]) dL_act_720 (by decide) rfl ?_
  refine lp_fg hst hl hc h7 h1n (fun μ2 hf2 hs2 => ?_) (9 * ((C.length : Int) - 1) - 9 * c).toNat (9 * c) (by omega) (by omega) μ1 frm.rf (fun i hi => by rw [if_neg (by omega)])
  have el : ((C.eraseIdx c.toNat).length : Int) = (C.length : Int) - 1 := by rw [List.length_eraseIdx, if_pos (by omega)]; omega
  have L2 : hasL μ2 xs ys (C.eraseIdx c.toNat) S Z.length := by
    obtain ⟨q1, q2, q3, ⟨q4, q5, q6, q7, q8⟩, qx, qy, qc⟩ := hL
    have e3 : μ2 273 = μ1 273 := hf2 273 (by decide)
    refine ⟨?_, ?_, ?_, ⟨?_, ?_, ?_, ?_, ?_⟩, qx.same ((hf2 274 (by decide)).trans (by rw [hμ1]; exact mup_n (by decide))), qy.same ((hf2 275 (by decide)).trans (by rw [hμ1]; exact mup_n (by decide))), co_erase C1 hok hc hs2⟩
    · rw [e3, hμ1]; exact (mup_k (by decide)).trans q1
    · rw [e3, el]; exact h1n
    · rw [e3, hμ1]; exact (mup_k (by decide)).trans q3
    · rw [e3, hμ1]; exact (mup_k (by decide)).trans q4
    · rw [e3, hμ1]; exact (mup_k (by decide)).trans q5
    · rw [e3, hμ1]; exact (mup_k (by decide)).trans q6
    · rw [e3, hμ1]; exact (mup_k (by decide)).trans q7
    · rw [e3, hμ1]; exact (mup_k (by decide)).trans q8
  have A2 := A1.keep hf2 (by decide)
  refine VW.aload_n dL_act_752 rfl ?_
  refine VW.iconst dL_act_753 ?_
  refine VW.iaload dL_act_754 (hl.1 273 (by decide)) hl.2.1 (by omega) (by omega) (by decide) ?_
  rw [show μ2 273 (2 : Int).toNat = (Z.length : Int) from L2.2.2.1]
  refine VW.bipush dL_act_755 rfl ?_
  refine VW.icmp_ge 767 ⟨by omega, by omega⟩ ⟨by omega, by omega⟩ dL_act_757 (by decide) (fun c757 => ?_) (fun c757 => ?_)
  · refine VW.nmm (fun μz hμz => ?_)
    have LZ : hasL μz xs ys (C.eraseIdx c.toNat) S ((kp Z σ0).length : Int) := by
      rw [hμz, kp_ge (by omega)]
      exact L2
    have AZ : hasA μz (mk xs ys C S Z []) := by
      rw [hμz]
      exact A2
    have hop : opForget xs ys C S Z [] c = ((0, (C.length : Int) - 1), mk2 xs ys (C.eraseIdx c.toNat) S xs ys C S Z []) := if_neg (fun q9 => q9 hc)
    have hok9 := okA_forget ok c
    rw [hop] at hok9
    refine VW.aload_n dL_act_767 rfl ?_
    refine VW.iload dL_act_768 rfl ?_
    refine VW.gPc (av := [vI c]) cv_L_act_X7_forget dL_act_770 rfl (Nat.le_of_ble_eq_true rfl) (gLt hg) hg.2.1 (g_forget hst hg AZ ok ⟨by omega, by omega⟩) hop (fun μ9 h9 f9 => ?_)
    have LF := LZ.rl (n := 277) (rl.rf.f f9) (Nat.le_refl _)
    rw [hσ] at LF
    refine VW.aload_n dL_act_773 rfl ?_
    refine VW.iconst dL_act_774 ?_
    refine VW.iaload dL_act_775 (hl.1 273 (by decide)) hl.2.1 (by omega) (by omega) (by decide) ?_
    rw [show μ9 273 (1 : Int).toNat = (C.length : Int) - 1 from LF.2.1.trans el]
    refine VW.icmp_neS 783 dL_act_776 (by decide) ?_
    refine VW.iconst dL_act_779 ?_
    refine VW.goto 784 dL_act_780 (by decide) ?_
    refine VW.ireturn dL_act_784 rfl rfl ?_
    exact xaP.i (by omega) (by omega) (by omega) hsh ⟨rfl, _, _, _, _, _, h9, hok9, LF, hok.erase, (hpw.erase hc)⟩
  · refine VW.aload_n dL_act_760 rfl ?_
    refine VW.iconst dL_act_761 ?_
    refine VW.dup2 dL_act_762 rfl rfl ?_
    refine VW.iaload dL_act_763 (hl.1 273 (by decide)) hl.2.1 (by omega) (by omega) (by decide) ?_
    rw [show μ2 273 (2 : Int).toNat = (Z.length : Int) from L2.2.2.1]
    refine VW.iconst dL_act_764 ?_
    refine VW.iadd dL_act_765 ?_
    refine VW.iastore dL_act_766 (hl.1 273 (by decide)) hl.2.1 (by omega) (by omega) (by decide) ?_
    refine VW.nmm (fun μz hμz => ?_)
    have LZ : hasL μz xs ys (C.eraseIdx c.toNat) S ((kp Z σ0).length : Int) := by
      rw [hμz, kp_lt (by omega)]
      exact L2.z
    have AZ : hasA μz (mk xs ys C S Z []) := by
      rw [hμz]
      exact A2.keep (frm_mup (lo := 273) (hi := 277) ⟨by decide, by decide⟩) (Nat.le_refl _)
    have hop : opForget xs ys C S Z [] c = ((0, (C.length : Int) - 1), mk2 xs ys (C.eraseIdx c.toNat) S xs ys C S Z []) := if_neg (fun q9 => q9 hc)
    have hok9 := okA_forget ok c
    rw [hop] at hok9
    refine VW.aload_n dL_act_767 rfl ?_
    refine VW.iload dL_act_768 rfl ?_
    refine VW.gPc (av := [vI c]) cv_L_act_X7_forget dL_act_770 rfl (Nat.le_of_ble_eq_true rfl) (gLt hg) hg.2.1 (g_forget hst hg AZ ok ⟨by omega, by omega⟩) hop (fun μ9 h9 f9 => ?_)
    have LF := LZ.rl (n := 277) (rl.rf.f f9) (Nat.le_refl _)
    rw [hσ] at LF
    refine VW.aload_n dL_act_773 rfl ?_
    refine VW.iconst dL_act_774 ?_
    refine VW.iaload dL_act_775 (hl.1 273 (by decide)) hl.2.1 (by omega) (by omega) (by decide) ?_
    rw [show μ9 273 (1 : Int).toNat = (C.length : Int) - 1 from LF.2.1.trans el]
    refine VW.icmp_neS 783 dL_act_776 (by decide) ?_
    refine VW.iconst dL_act_779 ?_
    refine VW.goto 784 dL_act_780 (by decide) ?_
    refine VW.ireturn dL_act_784 rfl rfl ?_
    exact xaP.i (by omega) (by omega) (by omega) hsh ⟨rfl, _, _, _, _, _, h9, hok9, LF, hok.erase, (hpw.erase hc)⟩
end PAC
