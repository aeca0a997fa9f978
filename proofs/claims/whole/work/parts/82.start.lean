/-! the law's start: the first worlds hold one map; statics and texts -/
theorem qp_ords0 (f : Nat → Nat → Int32) : qp_ords 0 f = [] := by
  have : ∀ j, qp_oo 0 f j = [] := by
    intro j
    induction j with
    | zero => rfl
    | succ j ih => show qp_oo 0 f j ++ [] = []; rw [List.append_nil]; exact ih
  exact this 9
theorem qR_0 : qR qy_s0 qy_t0 := by
  refine ⟨0, fun _ _ => 0, fun i => match i with | 2 => 60 | 3 => 40 | _ => 0, fun _ => -1, ⟨by omega, fun p hp => by omega, by unfold qv_win; decide⟩, fun p hp => by omega, ⟨⟨rfl, ⟨rfl, rfl, rfl, rfl⟩, fun p hp => by omega⟩, fun p hp => by omega, ?_⟩, ⟨rfl, ⟨rfl, rfl, rfl, rfl⟩, fun p hp => by omega⟩, ⟨0, by omega, rfl, rfl, fun i hi => by omega⟩, ⟨0, by omega, rfl, rfl, fun i hi => by omega⟩⟩
  rw [qp_ords0]
  intro i p h
  simp at h
theorem qx_ZC.narrow {A B : Nat → Prop} {z : Nat → Nat} {U : State} {H : Heap} (h : qx_ZC A z U H) (hAB : ∀ q, B q → A q) : qx_ZC B z U H := by
  obtain ⟨⟨a1, a2⟩, ⟨b1, b2⟩, ⟨c1, c2⟩, d, e, f, g⟩ := h
  exact ⟨⟨a1.narrow hAB, a2.narrow hAB⟩, ⟨b1.narrow hAB, b2.narrow hAB⟩, ⟨c1.narrow hAB, c2.narrow hAB⟩, d.narrow hAB, e, f.narrow hAB, g.narrow hAB⟩
theorem qx_ZokC {l : Launch} {D : va_G} {ci : Nat → ClassId} {a z : Nat → Nat} : qx_Zok (qx_gC l D ci a z) := by
  refine ⟨fun u U H hvm h => ?_, fun u U H hW h => ?_, fun U H H1 hq h => ?_⟩
  · obtain ⟨⟨a1, a2⟩, ⟨b1, b2⟩, ⟨c1, c2⟩, d, e, f, g⟩ := (show qx_ZC (qx_AC a) z u H from h)
    have hA : u.vm.Alike U.vm := by rw [hvm]; exact Vm.Alike.refl u.vm
    exact ⟨⟨va_Z.moved hA a1, va_T.moved hA a2⟩, ⟨va_Z.moved hA b1, va_T.moved hA b2⟩, ⟨va_Z.moved hA c1, va_T.moved hA c2⟩, vk_S.moved hA d, fun i hi => vk_R.same hvm (e i hi), va_Z.moved hA f, va_Zq.moved hA g⟩
  · obtain ⟨⟨a1, a2⟩, ⟨b1, b2⟩, ⟨c1, c2⟩, d, e, f, g⟩ := (show qx_ZC (qx_AC a) z u H from h)
    have hA : u.vm.Alike U.vm := hW.alike
    exact ⟨⟨va_Z.moved hA a1, va_T.moved hA a2⟩, ⟨va_Z.moved hA b1, va_T.moved hA b2⟩, ⟨va_Z.moved hA c1, va_T.moved hA c2⟩, vk_S.moved hA d, fun i hi => vk_R.warm hW (e i hi), va_Z.moved hA f, va_Zq.moved hA g⟩
  · obtain ⟨⟨a1, a2⟩, ⟨b1, b2⟩, ⟨c1, c2⟩, d, e, f, g⟩ := (show qx_ZC (qx_AC a) z U H from h)
    exact ⟨⟨a1.kept hq, a2.kept hq⟩, ⟨b1.kept hq, b2.kept hq⟩, ⟨c1.kept hq, c2.kept hq⟩, d.kept hq, e, f.kept hq, g.kept hq⟩
theorem qx_ZokM {l : Launch} {D : va_G} {ci : Nat → ClassId} {a : Nat → Nat} : qx_Zok (qx_gM l D ci a) := ⟨fun _ _ _ _ _ => trivial, fun _ _ _ _ _ => trivial, fun _ _ _ _ _ => trivial⟩
theorem q6 {j : Nat} (h : j < 6) : j = 0 ∨ j = 1 ∨ j = 2 ∨ j = 3 ∨ j = 4 ∨ j = 5 := by omega
def qs_tm (i : Nat) : Term := .string "LabelPlacer$Command" (qx_sidx.getD i 0)
set_option maxRecDepth 100000 in
theorem qs_elm : ∀ i, i < 6 → ∀ j, j < qx_slen.getD i 0 → (Cond.eq (.elem (.field (qs_tm i) "java/lang/String" "value" "[B") (.int (Int32.ofNat j))) (.int ((qx_sbyt.getD i []).getD j 0))) ∈ flatC (Jvm.Cond.and given_1 narrow_1) := by decide +kernel
set_option maxRecDepth 100000 in
theorem qs_nem : ∀ i, i < 6 → ∀ j, j < 6 → i ≠ j → (Cond.not (Cond.eq (qs_tm i) (qs_tm j))) ∈ flatC (Jvm.Cond.and given_1 narrow_1) ∨ (Cond.not (Cond.eq (qs_tm j) (qs_tm i))) ∈ flatC (Jvm.Cond.and given_1 narrow_1) := by decide +kernel
set_option maxRecDepth 100000 in
theorem qs_exm : ∀ i, i < 6 → (Cond.exactly (qs_tm i) "java/lang/String") ∈ flatC (Jvm.Cond.and given_1 narrow_1) ∧ (Cond.eq (.field (qs_tm i) "java/lang/String" "coder" "B") (.int 0)) ∈ flatC (Jvm.Cond.and given_1 narrow_1) ∧ (Cond.arrayOf (.field (qs_tm i) "java/lang/String" "value" "[B") .byte) ∈ flatC (Jvm.Cond.and given_1 narrow_1) ∧ (Cond.eq (.length (.field (qs_tm i) "java/lang/String" "value" "[B")) (.int (Int32.ofNat (qx_slen.getD i 0)))) ∈ flatC (Jvm.Cond.and given_1 narrow_1) := by decide +kernel
def qs_tt (t : Nat) : Term := match t with | 0 => .static RX4 "LEAST" "[I" | 1 => .static RX4 "GREATEST" "[I" | _ => .static RX0 "NUMBERS" "[I"
set_option maxRecDepth 100000 in
theorem qs_tbm : ∀ t, t < 3 → (Cond.arrayOf (qs_tt t) .int) ∈ flatC (Jvm.Cond.and given_1 narrow_1) ∧ (Cond.eq (.length (qs_tt t)) (.int (Int32.ofNat 6))) ∈ flatC (Jvm.Cond.and given_1 narrow_1) ∧ ∀ j, j < 6 → (Cond.eq (.elem (qs_tt t) (.int (Int32.ofNat j))) (.int (qx_tab t j))) ∈ flatC (Jvm.Cond.and given_1 narrow_1) := by decide +kernel
theorem qs_str : ∀ i, i < 6 → (Cond.stringRef RX0 (qx_sidx.getD i 0) (qx_stxt.getD i "")) ∈ lw_tbl := by
  intro i hi
  rcases q6 hi with rfl | rfl | rfl | rfl | rfl | rfl
  · exact List.mem_of_getElem? (i := 699) (by decide +kernel)
  · exact List.mem_of_getElem? (i := 752) (by decide +kernel)
  · exact List.mem_of_getElem? (i := 753) (by decide +kernel)
  · exact List.mem_of_getElem? (i := 754) (by decide +kernel)
  · exact List.mem_of_getElem? (i := 755) (by decide +kernel)
  · exact List.mem_of_getElem? (i := 756) (by decide +kernel)
theorem qs_ZC {s : State} {args : Array Value} (hts : ∀ w ∈ lw_tbl, w.before args s = true) (hgv : (Jvm.Cond.and given_1 narrow_1).before args s = true) : ∃ z : Nat → Nat, qx_ZC (fun q => s.heap.size ≤ q) z s s.heap := by
  have hs := flat_of_before _ hgv
  have hA : ∀ a : Nat, a < s.heap.size → ¬ (fun q : Nat => s.heap.size ≤ q) a := fun a h => Nat.not_le.mpr h
  have hT : ∀ t, t < 3 → ∃ a : Nat, (qs_tt t).eval args s none [] s = some (.ref a) ∧ va_T .int a 6 (fun j => .int (qx_tab t j)) (fun q => s.heap.size ≤ q) s s.heap := fun t ht => va_Tof (by decide) (hs _ (qs_tbm t ht).1) (va_eqt (hs _ (qs_tbm t ht).2.1)) (fun j hj => va_eqt (hs _ ((qs_tbm t ht).2.2 j hj))) hA
  obtain ⟨z0, e0, T0⟩ := hT 0 (by omega)
  obtain ⟨z1, e1, T1⟩ := hT 1 (by omega)
  obtain ⟨z2, e2, T2⟩ := hT 2 (by omega)
  obtain ⟨aK, aV, S, eS⟩ := vk_Sof (args := args) (s := s) (N := 6) (tm := qs_tm) (len := qx_slen) (byt := qx_sbyt) (A := fun q => s.heap.size ≤ q) (fun i hi => by rcases q6 hi with rfl | rfl | rfl | rfl | rfl | rfl <;> decide) (fun i hi => hs _ (qs_exm i hi).1) (fun i hi => hs _ (qs_exm i hi).2.1) (fun i hi => hs _ (qs_exm i hi).2.2.1) (fun i hi => hs _ (qs_exm i hi).2.2.2) (fun i hi j hj => hs _ (qs_elm i hi j hj)) (fun i j hi hj hne => (qs_nem i hi j hj hne).imp (hs _) (hs _)) hA
  have hR : ∀ i, i < 6 → vk_R RX0 (qx_sidx.getD i 0) (qx_stxt.getD i "") (aK i) s := fun i hi => vk_R.of (hts _ (qs_str i hi)) (eS i hi)
  have Z0 : va_Z RX4 "LEAST" "[I" (.ref z0) (fun q => s.heap.size ≤ q) s s.heap := va_Zof (hts _ (List.mem_of_getElem? (i := 303) (by decide +kernel))) (hts _ (List.mem_of_getElem? (i := 70) (by decide +kernel))) e0 hA
  have Z1 : va_Z RX4 "GREATEST" "[I" (.ref z1) (fun q => s.heap.size ≤ q) s s.heap := va_Zof (hts _ (List.mem_of_getElem? (i := 305) (by decide +kernel))) (hts _ (List.mem_of_getElem? (i := 70) (by decide +kernel))) e1 hA
  have Z2 : va_Z RX0 "NUMBERS" "[I" (.ref z2) (fun q => s.heap.size ≤ q) s s.heap := va_Zof (hts _ (List.mem_of_getElem? (i := 758) (by decide +kernel))) (hts _ (List.mem_of_getElem? (i := 78) (by decide +kernel))) e2 hA
  have Z3 : va_Z "java/lang/String" "COMPACT_STRINGS" "Z" (.int 1) (fun q => s.heap.size ≤ q) s s.heap := va_Zof (hts _ (List.mem_of_getElem? (i := 713) (by decide +kernel))) (hts _ (List.mem_of_getElem? (i := 81) (by decide +kernel))) (va_eqi (hs _ (by decide +kernel))) hA
  have Z4 : va_Zq "jdk/internal/util/Preconditions" "SIOOBE_FORMATTER" "Ljava/util/function/BiFunction;" (fun q => s.heap.size ≤ q) s s.heap := va_Zqof (hts _ (List.mem_of_getElem? (i := 729) (by decide +kernel))) (hts _ (List.mem_of_getElem? (i := 83) (by decide +kernel))) (hs _ (by decide +kernel)) hA
  refine ⟨fun k => if k = 0 then z0 else if k = 1 then z1 else if k = 2 then z2 else if k < 20 then aK (k - 10) else aV (k - 20), ⟨Z0, T0⟩, ⟨Z1, T1⟩, ⟨Z2, T2⟩, ?_, ?_, Z3, Z4⟩
  · refine ⟨fun i hi => ?_, fun i j hi hj h => ?_⟩
    · have := S.1 i hi
      simp only [show ¬ 10 + i = 0 by omega, show ¬ 10 + i = 1 by omega, show ¬ 10 + i = 2 by omega, show 10 + i < 20 by omega, show ¬ 20 + i = 0 by omega, show ¬ 20 + i = 1 by omega, show ¬ 20 + i = 2 by omega, show ¬ 20 + i < 20 by omega, if_true, if_false, show 10 + i - 10 = i by omega, show 20 + i - 20 = i by omega]
      exact this
    · simp only [show ¬ 10 + i = 0 by omega, show ¬ 10 + i = 1 by omega, show ¬ 10 + i = 2 by omega, show 10 + i < 20 by omega, show ¬ 10 + j = 0 by omega, show ¬ 10 + j = 1 by omega, show ¬ 10 + j = 2 by omega, show 10 + j < 20 by omega, if_true, if_false, show 10 + i - 10 = i by omega, show 10 + j - 10 = j by omega] at h
      exact S.2 i j hi hj h
  · intro i hi
    simp only [show ¬ 10 + i = 0 by omega, show ¬ 10 + i = 1 by omega, show ¬ 10 + i = 2 by omega, show 10 + i < 20 by omega, if_true, if_false, show 10 + i - 10 = i by omega]
    exact hR i hi
/-- classes and array classes, by number -/
theorem qs_arr {s : State} {args : Array Value} {ty : FieldType} (h : (Cond.arrayClass ty).before args s = true) : ∃ cA : ClassId, ArrOfT s cA ty ∧ s.vm.findClass ("[" ++ ty.toString) = some cA := by
  obtain ⟨cA, kA, comp, h1, h2, h3⟩ := Cond.arrayClass_spec h
  exact ⟨cA, fun n z => ⟨fun k h => (by cases h), kA, h2, comp, h3⟩, h1⟩
theorem qs_K {s : State} {args : Array Value} (hts : ∀ w ∈ lw_tbl, w.before args s = true) : ∃ (D : va_G) (ci : Nat → ClassId), va_K D vwCl (qx_tys ci) s := by
  have hq : ∀ w ∈ qx_tb, w.before args s = true := fun w hw => hts w (qx_tbIn hw)
  obtain ⟨c0, i0, k0⟩ := u_known (C := RX0) (T := TX0) (N := 3) hq inX0 (hq _ qyn_X0)
  obtain ⟨c1, i1, k1⟩ := u_known (C := RX1) (T := TX1) (N := 3) hq inX1 (hq _ qyn_X1)
  obtain ⟨c2, i2, k2⟩ := u_known (C := RX2) (T := TX2) (N := 6) hq inX2 (hq _ qyn_X2)
  obtain ⟨c3, i3, k3⟩ := u_known (C := RX3) (T := TX3) (N := 7) hq inX3 (hq _ qyn_X3)
  obtain ⟨c4, i4, k4⟩ := u_known (C := RX4) (T := TX4) (N := 3) hq inX4 (hq _ qyn_X4)
  obtain ⟨c5, i5, k5⟩ := u_known (C := RX5) (T := TX5) (N := 5) hq inX5 (hq _ qyn_X5)
  obtain ⟨c6, i6, k6⟩ := u_known (C := RX6) (T := TX6) (N := 2) hq inX6 (hq _ qyn_X6)
  obtain ⟨c7, i7, k7⟩ := u_known (C := RX7) (T := TX7) (N := 4) hq inX7 (hq _ qyn_X7)
  obtain ⟨c8, i8, k8⟩ := u_known (C := RX8) (T := TX8) (N := 8) hq inX8 (hq _ qyn_X8)
  obtain ⟨c9, i9, k9⟩ := u_known (C := RX9) (T := TX9) (N := 21) hq inX9 (hq _ qyn_X9)
  obtain ⟨a0, p0, r0⟩ := qs_arr (hq _ qy_aI)
  obtain ⟨a1, p1, r1⟩ := qs_arr (hq _ qy_aZ)
  obtain ⟨a2, p2, r2⟩ := qs_arr (hq _ qy_aB)
  obtain ⟨a3, p3, r3⟩ := qs_arr (hq _ qy_aJ)
  refine ⟨(fun k => [c0, c1, c2, c3, c4, c5, c6, c7, c8, c9].getD k c0, fun k => [i0, i1, i2, i3, i4, i5, i6, i7, i8, i9].getD k i0), fun k => [a0, a1, a2, a3].getD k a0, fun k q hq => ?_, fun k q hq => ?_⟩
  · match k, hq with
    | 0, hq => cases hq; exact k0
    | 1, hq => cases hq; exact k1
    | 2, hq => cases hq; exact k2
    | 3, hq => cases hq; exact k3
    | 4, hq => cases hq; exact k4
    | 5, hq => cases hq; exact k5
    | 6, hq => cases hq; exact k6
    | 7, hq => cases hq; exact k7
    | 8, hq => cases hq; exact k8
    | 9, hq => cases hq; exact k9
    | k + 10, hq => simp at hq
  · match k, hq with
    | 0, hq => cases hq; exact ⟨p0, r0⟩
    | 1, hq => cases hq; exact ⟨p1, r1⟩
    | 2, hq => cases hq; exact ⟨p2, r2⟩
    | 3, hq => cases hq; exact ⟨p3, r3⟩
    | k + 4, hq => simp at hq
