/-! ===== what an int is as a long, whatever its number ===== -/
def w32 (a : Int) : Int := (Int32.ofInt a).toInt
theorem w32_R (a : Int) : R32 (w32 a) := ⟨by unfold w32; have := (Int32.ofInt a).le_toInt; omega, by unfold w32; have := (Int32.ofInt a).toInt_lt; omega⟩
theorem vI_w (a : Int) : vI (w32 a) = vI a := by unfold vI w32; rw [Int32.ofInt_toInt]
section VWW
variable {G : GT} {l : Launch} {z : Option Nat} {M : MD} {pc : Nat} {lv : List (Nat × Value)} {rest : List Value} {w : WT} {k n : Nat} {Φ : RT → Prop}
theorem VW.i2lw {a : Int} (hd : decode (mC M) pc = .ok (.i2l, 1)) (kk : VW G l z M (pc + 1) lv (vL (w32 a) :: rest) w k n Φ) : VW G l z M pc lv (vI a :: rest) w k n Φ := by
  rw [← vI_w]
  exact VW.i2l hd (w32_R a) kk
theorem VW.icmp_eqS {a : Int} {off : Int} (tgt : Nat) (hd : decode (mC M) pc = .ok (.if_icmp .eq off, 3)) (ht : (pc : Int) + off = (tgt : Int)) (kt : VW G l z M tgt lv rest w k n Φ) : VW G l z M pc lv (vI a :: vI a :: rest) w k n Φ := by
  rw [← vI_w]
  exact VW.icmp_eq tgt (w32_R a) (w32_R a) hd ht (fun _ => kt) (fun q => absurd rfl q)
theorem lg_cmpS (a : Int) : lg_cmp (Int64.ofInt a) (Int64.ofInt a) = Int32.ofInt 0 := by
  unfold lg_cmp
  simp
theorem VW.lcmpS {a : Int} (hd : decode (mC M) pc = .ok (.lcmp, 1)) (kk : VW G l z M (pc + 1) lv (vI 0 :: rest) w k n Φ) : VW G l z M pc lv (vL a :: vL a :: rest) w k n Φ :=
  VW.lcmp hd (lg_cmpS a) kk
end VWW
