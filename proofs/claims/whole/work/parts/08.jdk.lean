/-! the JDK's methods that are called -/
section
variable {g : QG} {d : Nat} {M : QM} {o : Option Value × QS} {pc : Nat} {lv : List (Nat × Value)} {st : List Value} {σ : QS}
theorem qx_mmax {index : Nat} {x y : Int32} (hw : Cond.methodLink M.1.cls index yJ9_max_7cf53 ∈ qx_tb) (hd1 : 1 ≤ d) (hW : (st.map fun v => v.category).sum ≤ 8) (hd : decode M.2.1 pc = .ok (.invokestatic index, 3)) (k : qx_E g d M o (pc + 3) lv (.int (if x < y then y else x) :: st) σ) : qx_E g d M o pc lv (.int y :: .int x :: st) σ := by
  intro p e s m args below meth c H locs ls X hP hD hS hl
  have hts := X.2.2.2.2.2.2.1
  exact va_mmax X.1 X.2.1 (X.2.2.1.trans hl.1.symm) X.2.2.2.2.2.1 (hts _ hw) (hts _ qcs_J9_max_7cf53) (hts _ qci_Math) (hts _ qcc_J9_max_7cf53) (by simp only [qx_rm]; omega) (by simp only [qx_rm]; omega) (Nat.le_refl _) (Nat.le_refl _) hd (k p e s m args below meth c H locs ls X hP hD hS hl)
theorem qx_mabs {index : Nat} {x : Int32} (hw : Cond.methodLink M.1.cls index yJ9_abs_0f7a4 ∈ qx_tb) (hd1 : 1 ≤ d) (hW : (st.map fun v => v.category).sum ≤ 8) (hd : decode M.2.1 pc = .ok (.invokestatic index, 3)) (k : qx_E g d M o (pc + 3) lv (.int (if 0 ≤ x then x else 0 - x) :: st) σ) : qx_E g d M o pc lv (.int x :: st) σ := by
  intro p e s m args below meth c H locs ls X hP hD hS hl
  have hts := X.2.2.2.2.2.2.1
  exact va_mabs X.1 X.2.1 (X.2.2.1.trans hl.1.symm) X.2.2.2.2.2.1 (hts _ hw) (hts _ qcs_J9_abs_0f7a4) (hts _ qci_Math) (hts _ qcc_J9_abs_0f7a4) (by simp only [qx_rm]; omega) (by simp only [qx_rm]; omega) (Nat.le_refl _) (Nat.le_refl _) hd (k p e s m args below meth c H locs ls X hP hD hS hl)
end
