/-! the JDK's methods that are called -/
section
variable {g : QG} {d : Nat} {M : QM} {o : Option Value × QS} {pc : Nat} {lv : List (Nat × Value)} {st : List Value} {σ : QS}
theorem qx_mmax {index : Nat} {x y : Int32} (hw : Cond.methodLink M.1.cls index yJ9_max_7cf53 ∈ qx_tb) (hd1 : 1 ≤ d) (hW : (st.map fun v => v.category).sum ≤ 8) (hd : decode M.2.1 pc = .ok (.invokestatic index, 3)) (k : qx_E g d M o (pc + 3) lv (.int (if x < y then y else x) :: st) σ) : qx_E g d M o pc lv (.int y :: .int x :: st) σ := by
  intro p e s m args below meth c H locs ls X hP hD hS hl
  have hts := X.2.2.2.2.2.2.1
  exact va_mmax X.1 X.2.1 (X.2.2.1.trans hl.1.symm) X.2.2.2.2.2.1 (hts _ hw) (hts _ qcs_J9_max_7cf53) (hts _ qci_Math) (hts _ qcc_J9_max_7cf53) (by simp only [qx_rm]; omega) (by simp only [qx_rm]; omega) (Nat.le_refl _) (Nat.le_refl _) hd (k p e s m args below meth c H locs ls X hP hD hS hl)
theorem qx_mabs {index : Nat} {x : Int32} (hw : Cond.methodLink M.1.cls index yJ9_abs_0f7a4 ∈ qx_tb) (hd1 : 1 ≤ d) (hW : (st.map fun v => v.category).sum ≤ 8) (hd : decode M.2.1 pc = .ok (.invokestatic index, 3)) (k : qx_E g d M o (pc + 3) lv (.int (if 0 ≤ x then x else 0 - x) :: st) σ) : qx_E g d M o pc lv (.int x :: st) σ := by
  intro p e s m args below meth c H locs ls X hP hD hS hl
  have hts := X.2.2.2.2.2.2.1
  exact va_mabs X.1 X.2.1 (X.2.2.1.trans hl.1.symm) X.2.2.2.2.2.1 (hts _ hw) (hts _ qcs_J9_abs_0f7a4) (hts _ qci_Math) (hts _ qcc_J9_abs_0f7a4) (by simp only [qx_rm]; omega) (by simp only [qx_rm]; omega) (Nat.le_refl _) (Nat.le_refl _) hd (k p e s m args below meth c H locs ls X hP hD hS hl)
end

def mJ0_coder_7d493 : QM := (yJ0_coder_7d493, cJ0_coder_7d493, 1, (some .byte))
theorem qcm_J0_coder_7d493 : qx_cm mJ0_coder_7d493 0 := ⟨qx_tbOf (List.mem_of_getElem? (i := 711) (by decide +kernel)) (by decide +kernel), qx_tbOf (List.mem_of_getElem? (i := 81) (by decide +kernel)) (by decide +kernel), ⟨by decide, by decide, by decide +kernel⟩, by decide, by decide⟩
theorem qcv_J0_coder_7d493 : qx_cv mJ0_coder_7d493 := ⟨qx_tbOf (List.mem_of_getElem? (i := 709) (by decide +kernel)) (by decide +kernel), qx_tbOf (List.mem_of_getElem? (i := 710) (by decide +kernel)) (by decide +kernel)⟩
theorem dJ0_coder_7d493_0 : decode cJ0_coder_7d493 0 = .ok (.getstatic 38, 3) := by decide +kernel
theorem dJ0_coder_7d493_3 : decode cJ0_coder_7d493 3 = .ok (.ifCond .eq 10, 3) := by decide +kernel
theorem dJ0_coder_7d493_6 : decode cJ0_coder_7d493 6 = .ok (.aload_n 0, 1) := by decide +kernel
theorem dJ0_coder_7d493_7 : decode cJ0_coder_7d493 7 = .ok (.getfield 15, 3) := by decide +kernel
theorem dJ0_coder_7d493_10 : decode cJ0_coder_7d493 10 = .ok (.goto 4, 3) := by decide +kernel
theorem dJ0_coder_7d493_13 : decode cJ0_coder_7d493 13 = .ok (.iconst 1, 1) := by decide +kernel
theorem dJ0_coder_7d493_14 : decode cJ0_coder_7d493 14 = .ok (.ireturn, 1) := by decide +kernel
def mJ0_isLatin1_aae02 : QM := (yJ0_isLatin1_aae02, cJ0_isLatin1_aae02, 1, (some .boolean))
theorem qcm_J0_isLatin1_aae02 : qx_cm mJ0_isLatin1_aae02 0 := ⟨qx_tbOf (List.mem_of_getElem? (i := 721) (by decide +kernel)) (by decide +kernel), qx_tbOf (List.mem_of_getElem? (i := 81) (by decide +kernel)) (by decide +kernel), ⟨by decide, by decide, by decide +kernel⟩, by decide, by decide⟩
theorem qcv_J0_isLatin1_aae02 : qx_cv mJ0_isLatin1_aae02 := ⟨qx_tbOf (List.mem_of_getElem? (i := 719) (by decide +kernel)) (by decide +kernel), qx_tbOf (List.mem_of_getElem? (i := 720) (by decide +kernel)) (by decide +kernel)⟩
theorem dJ0_isLatin1_aae02_0 : decode cJ0_isLatin1_aae02 0 = .ok (.getstatic 38, 3) := by decide +kernel
theorem dJ0_isLatin1_aae02_3 : decode cJ0_isLatin1_aae02 3 = .ok (.ifCond .eq 14, 3) := by decide +kernel
theorem dJ0_isLatin1_aae02_6 : decode cJ0_isLatin1_aae02 6 = .ok (.aload_n 0, 1) := by decide +kernel
theorem dJ0_isLatin1_aae02_7 : decode cJ0_isLatin1_aae02 7 = .ok (.getfield 15, 3) := by decide +kernel
theorem dJ0_isLatin1_aae02_10 : decode cJ0_isLatin1_aae02 10 = .ok (.ifCond .ne 7, 3) := by decide +kernel
theorem dJ0_isLatin1_aae02_13 : decode cJ0_isLatin1_aae02 13 = .ok (.iconst 1, 1) := by decide +kernel
theorem dJ0_isLatin1_aae02_14 : decode cJ0_isLatin1_aae02 14 = .ok (.goto 4, 3) := by decide +kernel
theorem dJ0_isLatin1_aae02_17 : decode cJ0_isLatin1_aae02 17 = .ok (.iconst 0, 1) := by decide +kernel
theorem dJ0_isLatin1_aae02_18 : decode cJ0_isLatin1_aae02 18 = .ok (.ireturn, 1) := by decide +kernel
def mJ0_length_8abf5 : QM := (yJ0_length_8abf5, cJ0_length_8abf5, 1, (some .int))
theorem qcm_J0_length_8abf5 : qx_cm mJ0_length_8abf5 0 := ⟨qx_tbOf (List.mem_of_getElem? (i := 707) (by decide +kernel)) (by decide +kernel), qx_tbOf (List.mem_of_getElem? (i := 81) (by decide +kernel)) (by decide +kernel), ⟨by decide, by decide, by decide +kernel⟩, by decide, by decide⟩
theorem qcv_J0_length_8abf5 : qx_cv mJ0_length_8abf5 := ⟨qx_tbOf (List.mem_of_getElem? (i := 705) (by decide +kernel)) (by decide +kernel), qx_tbOf (List.mem_of_getElem? (i := 706) (by decide +kernel)) (by decide +kernel)⟩
theorem dJ0_length_8abf5_0 : decode cJ0_length_8abf5 0 = .ok (.aload_n 0, 1) := by decide +kernel
theorem dJ0_length_8abf5_1 : decode cJ0_length_8abf5 1 = .ok (.getfield 9, 3) := by decide +kernel
theorem dJ0_length_8abf5_4 : decode cJ0_length_8abf5 4 = .ok (.arraylength, 1) := by decide +kernel
theorem dJ0_length_8abf5_5 : decode cJ0_length_8abf5 5 = .ok (.aload_n 0, 1) := by decide +kernel
theorem dJ0_length_8abf5_6 : decode cJ0_length_8abf5 6 = .ok (.invokevirtual 335, 3) := by decide +kernel
theorem dJ0_length_8abf5_9 : decode cJ0_length_8abf5 9 = .ok (.ishr, 1) := by decide +kernel
theorem dJ0_length_8abf5_10 : decode cJ0_length_8abf5 10 = .ok (.ireturn, 1) := by decide +kernel
def mJ3_checkIndex_8e157 : QM := (yJ3_checkIndex_8e157, cJ3_checkIndex_8e157, 3, (some .int))
theorem qcm_J3_checkIndex_8e157 : qx_cm mJ3_checkIndex_8e157 3 := ⟨qx_tbOf (List.mem_of_getElem? (i := 732) (by decide +kernel)) (by decide +kernel), qx_tbOf (List.mem_of_getElem? (i := 83) (by decide +kernel)) (by decide +kernel), ⟨by decide, by decide, by decide +kernel⟩, by decide, by decide⟩
theorem qcs_J3_checkIndex_8e157 : Cond.static yJ3_checkIndex_8e157 ∈ qx_tb := qx_tbOf (List.mem_of_getElem? (i := 731) (by decide +kernel)) (by decide +kernel)
theorem dJ3_checkIndex_8e157_0 : decode cJ3_checkIndex_8e157 0 = .ok (.iload_n 0, 1) := by decide +kernel
theorem dJ3_checkIndex_8e157_1 : decode cJ3_checkIndex_8e157 1 = .ok (.ifCond .lt 8, 3) := by decide +kernel
theorem dJ3_checkIndex_8e157_4 : decode cJ3_checkIndex_8e157 4 = .ok (.iload_n 0, 1) := by decide +kernel
theorem dJ3_checkIndex_8e157_5 : decode cJ3_checkIndex_8e157 5 = .ok (.iload_n 1, 1) := by decide +kernel
theorem dJ3_checkIndex_8e157_6 : decode cJ3_checkIndex_8e157 6 = .ok (.if_icmp .lt 10, 3) := by decide +kernel
theorem dJ3_checkIndex_8e157_9 : decode cJ3_checkIndex_8e157 9 = .ok (.aload_n 2, 1) := by decide +kernel
theorem dJ3_checkIndex_8e157_10 : decode cJ3_checkIndex_8e157 10 = .ok (.iload_n 0, 1) := by decide +kernel
theorem dJ3_checkIndex_8e157_11 : decode cJ3_checkIndex_8e157 11 = .ok (.iload_n 1, 1) := by decide +kernel
theorem dJ3_checkIndex_8e157_12 : decode cJ3_checkIndex_8e157 12 = .ok (.invokestatic 95, 3) := by decide +kernel
theorem dJ3_checkIndex_8e157_15 : decode cJ3_checkIndex_8e157 15 = .ok (.athrow, 1) := by decide +kernel
theorem dJ3_checkIndex_8e157_16 : decode cJ3_checkIndex_8e157 16 = .ok (.iload_n 0, 1) := by decide +kernel
theorem dJ3_checkIndex_8e157_17 : decode cJ3_checkIndex_8e157 17 = .ok (.ireturn, 1) := by decide +kernel
def mJ0_checkIndex_df160 : QM := (yJ0_checkIndex_df160, cJ0_checkIndex_df160, 2, none)
theorem qcm_J0_checkIndex_df160 : qx_cm mJ0_checkIndex_df160 2 := ⟨qx_tbOf (List.mem_of_getElem? (i := 727) (by decide +kernel)) (by decide +kernel), qx_tbOf (List.mem_of_getElem? (i := 81) (by decide +kernel)) (by decide +kernel), ⟨by decide, by decide, by decide +kernel⟩, by decide, by decide⟩
theorem qcs_J0_checkIndex_df160 : Cond.static yJ0_checkIndex_df160 ∈ qx_tb := qx_tbOf (List.mem_of_getElem? (i := 726) (by decide +kernel)) (by decide +kernel)
theorem dJ0_checkIndex_df160_0 : decode cJ0_checkIndex_df160 0 = .ok (.iload_n 0, 1) := by decide +kernel
theorem dJ0_checkIndex_df160_1 : decode cJ0_checkIndex_df160 1 = .ok (.iload_n 1, 1) := by decide +kernel
theorem dJ0_checkIndex_df160_2 : decode cJ0_checkIndex_df160 2 = .ok (.getstatic 1053, 3) := by decide +kernel
theorem dJ0_checkIndex_df160_5 : decode cJ0_checkIndex_df160 5 = .ok (.invokestatic 1059, 3) := by decide +kernel
theorem dJ0_checkIndex_df160_8 : decode cJ0_checkIndex_df160 8 = .ok (.pop, 1) := by decide +kernel
theorem dJ0_checkIndex_df160_9 : decode cJ0_checkIndex_df160 9 = .ok (.return_, 1) := by decide +kernel
def mJ1_charAt_3b067 : QM := (yJ1_charAt_3b067, cJ1_charAt_3b067, 2, (some .char))
theorem qcm_J1_charAt_3b067 : qx_cm mJ1_charAt_3b067 2 := ⟨qx_tbOf (List.mem_of_getElem? (i := 724) (by decide +kernel)) (by decide +kernel), qx_tbOf (List.mem_of_getElem? (i := 82) (by decide +kernel)) (by decide +kernel), ⟨by decide, by decide, by decide +kernel⟩, by decide, by decide⟩
theorem qcs_J1_charAt_3b067 : Cond.static yJ1_charAt_3b067 ∈ qx_tb := qx_tbOf (List.mem_of_getElem? (i := 723) (by decide +kernel)) (by decide +kernel)
theorem dJ1_charAt_3b067_0 : decode cJ1_charAt_3b067 0 = .ok (.iload_n 1, 1) := by decide +kernel
theorem dJ1_charAt_3b067_1 : decode cJ1_charAt_3b067 1 = .ok (.aload_n 0, 1) := by decide +kernel
theorem dJ1_charAt_3b067_2 : decode cJ1_charAt_3b067 2 = .ok (.arraylength, 1) := by decide +kernel
theorem dJ1_charAt_3b067_3 : decode cJ1_charAt_3b067 3 = .ok (.invokestatic 9, 3) := by decide +kernel
theorem dJ1_charAt_3b067_6 : decode cJ1_charAt_3b067 6 = .ok (.aload_n 0, 1) := by decide +kernel
theorem dJ1_charAt_3b067_7 : decode cJ1_charAt_3b067 7 = .ok (.iload_n 1, 1) := by decide +kernel
theorem dJ1_charAt_3b067_8 : decode cJ1_charAt_3b067 8 = .ok (.baload, 1) := by decide +kernel
theorem dJ1_charAt_3b067_9 : decode cJ1_charAt_3b067 9 = .ok (.sipush 255, 3) := by decide +kernel
theorem dJ1_charAt_3b067_12 : decode cJ1_charAt_3b067 12 = .ok (.iand, 1) := by decide +kernel
theorem dJ1_charAt_3b067_13 : decode cJ1_charAt_3b067 13 = .ok (.i2c, 1) := by decide +kernel
theorem dJ1_charAt_3b067_14 : decode cJ1_charAt_3b067 14 = .ok (.ireturn, 1) := by decide +kernel
def mJ0_charAt_5068e : QM := (yJ0_charAt_5068e, cJ0_charAt_5068e, 2, (some .char))
theorem qcm_J0_charAt_5068e : qx_cm mJ0_charAt_5068e 1 := ⟨qx_tbOf (List.mem_of_getElem? (i := 717) (by decide +kernel)) (by decide +kernel), qx_tbOf (List.mem_of_getElem? (i := 81) (by decide +kernel)) (by decide +kernel), ⟨by decide, by decide, by decide +kernel⟩, by decide, by decide⟩
theorem qcv_J0_charAt_5068e : qx_cv mJ0_charAt_5068e := ⟨qx_tbOf (List.mem_of_getElem? (i := 715) (by decide +kernel)) (by decide +kernel), qx_tbOf (List.mem_of_getElem? (i := 716) (by decide +kernel)) (by decide +kernel)⟩
theorem dJ0_charAt_5068e_0 : decode cJ0_charAt_5068e 0 = .ok (.aload_n 0, 1) := by decide +kernel
theorem dJ0_charAt_5068e_1 : decode cJ0_charAt_5068e 1 = .ok (.invokevirtual 492, 3) := by decide +kernel
theorem dJ0_charAt_5068e_4 : decode cJ0_charAt_5068e 4 = .ok (.ifCond .eq 12, 3) := by decide +kernel
theorem dJ0_charAt_5068e_7 : decode cJ0_charAt_5068e 7 = .ok (.aload_n 0, 1) := by decide +kernel
theorem dJ0_charAt_5068e_8 : decode cJ0_charAt_5068e 8 = .ok (.getfield 9, 3) := by decide +kernel
theorem dJ0_charAt_5068e_11 : decode cJ0_charAt_5068e 11 = .ok (.iload_n 1, 1) := by decide +kernel
theorem dJ0_charAt_5068e_12 : decode cJ0_charAt_5068e 12 = .ok (.invokestatic 495, 3) := by decide +kernel
theorem dJ0_charAt_5068e_15 : decode cJ0_charAt_5068e 15 = .ok (.ireturn, 1) := by decide +kernel
theorem dJ0_charAt_5068e_16 : decode cJ0_charAt_5068e 16 = .ok (.aload_n 0, 1) := by decide +kernel
theorem dJ0_charAt_5068e_17 : decode cJ0_charAt_5068e 17 = .ok (.getfield 9, 3) := by decide +kernel
theorem dJ0_charAt_5068e_20 : decode cJ0_charAt_5068e 20 = .ok (.iload_n 1, 1) := by decide +kernel
theorem dJ0_charAt_5068e_21 : decode cJ0_charAt_5068e 21 = .ok (.invokestatic 498, 3) := by decide +kernel
theorem dJ0_charAt_5068e_24 : decode cJ0_charAt_5068e 24 = .ok (.ireturn, 1) := by decide +kernel
theorem qws_X6_23 : Cond.methodLink RX6 23 yJ0_length_8abf5 ∈ qx_tb := qx_tbOf (List.mem_of_getElem? (i := 704) (by decide +kernel)) (by decide +kernel)
theorem qws_J0_335 : Cond.methodLink RJ0 335 yJ0_coder_7d493 ∈ qx_tb := qx_tbOf (List.mem_of_getElem? (i := 708) (by decide +kernel)) (by decide +kernel)
theorem qws_X6_28 : Cond.methodLink RX6 28 yJ0_charAt_5068e ∈ qx_tb := qx_tbOf (List.mem_of_getElem? (i := 714) (by decide +kernel)) (by decide +kernel)
theorem qws_J0_492 : Cond.methodLink RJ0 492 yJ0_isLatin1_aae02 ∈ qx_tb := qx_tbOf (List.mem_of_getElem? (i := 718) (by decide +kernel)) (by decide +kernel)
theorem qws_J0_495 : Cond.methodLink RJ0 495 yJ1_charAt_3b067 ∈ qx_tb := qx_tbOf (List.mem_of_getElem? (i := 722) (by decide +kernel)) (by decide +kernel)
theorem qws_J1_9 : Cond.methodLink RJ1 9 yJ0_checkIndex_df160 ∈ qx_tb := qx_tbOf (List.mem_of_getElem? (i := 725) (by decide +kernel)) (by decide +kernel)
theorem qws_J0_1059 : Cond.methodLink RJ0 1059 yJ3_checkIndex_8e157 ∈ qx_tb := qx_tbOf (List.mem_of_getElem? (i := 730) (by decide +kernel)) (by decide +kernel)
theorem qwsf_J0_38 : Cond.fieldLink RJ0 38 "java/lang/String" "COMPACT_STRINGS" "Z" ∈ qx_tb := qx_tbOf (List.mem_of_getElem? (i := 712) (by decide +kernel)) (by decide +kernel)
theorem qwsf_J0_1053 : Cond.fieldLink RJ0 1053 "jdk/internal/util/Preconditions" "SIOOBE_FORMATTER" "Ljava/util/function/BiFunction;" ∈ qx_tb := qx_tbOf (List.mem_of_getElem? (i := 728) (by decide +kernel)) (by decide +kernel)
theorem qwsf_J0_9 : Cond.fieldLink RJ0 9 "java/lang/String" "value" "[B" ∈ qx_tb := qx_tbOf (List.mem_of_getElem? (i := 1171) (by decide +kernel)) (by decide +kernel)
theorem qwsf_J0_15 : Cond.fieldLink RJ0 15 "java/lang/String" "coder" "B" ∈ qx_tb := qx_tbOf (List.mem_of_getElem? (i := 1172) (by decide +kernel)) (by decide +kernel)
section
variable {l : Launch} {D : va_G} {ci : Nat → ClassId} {a z : Nat → Nat} {d : Nat} {M : QM} {o : Option Value × QS} {pc : Nat} {lv : List (Nat × Value)} {st : List Value} {σ : QS}
theorem qstr_ldc {index : Nat} (i : Nat) (hi : i < 6) (hM : M.1.cls = RX0) (hix : qx_sidx.getD i 0 = index) (hd : decode M.2.1 pc = .ok (.ldc index, 2)) (k : qx_E (qx_gC l D ci a z) d M o (pc + 2) lv (.ref (z (10 + i)) :: st) σ) : qx_E (qx_gC l D ci a z) d M o pc lv st σ := by
  intro p e s m args below meth c H locs ls X hP hD hS hl
  have hZ : qx_ZC (qx_AC a) z s s.heap := X.2.2.2.2.2.2.2.2.1
  have hR := hZ.2.2.2.2.1 i hi
  rw [hix] at hR
  exact va_ldcS X.1 X.2.1 (by rw [← hM]; exact X.2.2.2.2.2.1) hR hd (k p e s m args below meth c H locs ls X hP hD hS hl)
theorem qstr_compact {index : Nat} (hw : Cond.fieldLink M.1.cls index "java/lang/String" "COMPACT_STRINGS" "Z" ∈ qx_tb) (hd : decode M.2.1 pc = .ok (.getstatic index, 3)) (k : qx_E (qx_gC l D ci a z) d M o (pc + 3) lv (.int 1 :: st) σ) : qx_E (qx_gC l D ci a z) d M o pc lv st σ := by
  intro p e s m args below meth c H locs ls X hP hD hS hl
  have hZ : qx_ZC (qx_AC a) z s s.heap := X.2.2.2.2.2.2.2.2.1
  exact va_gets X.1 X.2.1 hZ.2.2.2.2.2.1 hS X.2.2.2.2.2.1 (X.2.2.2.2.2.2.1 _ hw) (fun _ h => h) hd (k p e s m args below meth c H locs ls X hP hD hS hl)
theorem qstr_coderF {index w : Nat} (hi : w < 6) (hw : Cond.fieldLink M.1.cls index "java/lang/String" "coder" "B" ∈ qx_tb) (hd : decode M.2.1 pc = .ok (.getfield index, 3)) (k : qx_E (qx_gC l D ci a z) d M o (pc + 3) lv (.int 0 :: st) σ) : qx_E (qx_gC l D ci a z) d M o pc lv (.ref (z (10 + w)) :: st) σ := by
  intro p e s m args below meth c H locs ls X hP hD hS hl
  have hZ : qx_ZC (qx_AC a) z s s.heap := X.2.2.2.2.2.2.2.2.1
  exact vk_getf X.1 X.2.1 (hZ.2.2.2.1.1 w hi).2.1 hS X.2.2.2.2.2.1 (X.2.2.2.2.2.2.1 _ hw) (fun _ h => h) hd (k p e s m args below meth c H locs ls X hP hD hS hl)
theorem qstr_valueF {index w : Nat} (hi : w < 6) (hw : Cond.fieldLink M.1.cls index "java/lang/String" "value" "[B" ∈ qx_tb) (hd : decode M.2.1 pc = .ok (.getfield index, 3)) (k : qx_E (qx_gC l D ci a z) d M o (pc + 3) lv (.ref (z (20 + w)) :: st) σ) : qx_E (qx_gC l D ci a z) d M o pc lv (.ref (z (10 + w)) :: st) σ := by
  intro p e s m args below meth c H locs ls X hP hD hS hl
  have hZ : qx_ZC (qx_AC a) z s s.heap := X.2.2.2.2.2.2.2.2.1
  exact vk_getf X.1 X.2.1 (hZ.2.2.2.1.1 w hi).2.2.1 hS X.2.2.2.2.2.1 (X.2.2.2.2.2.2.1 _ hw) (fun _ h => h) hd (k p e s m args below meth c H locs ls X hP hD hS hl)
theorem qstr_alen {w : Nat} (hi : w < 6) (hd : decode M.2.1 pc = .ok (.arraylength, 1)) (k : qx_E (qx_gC l D ci a z) d M o (pc + 1) lv (.int (nI (qx_slen.getD w 0)) :: st) σ) : qx_E (qx_gC l D ci a z) d M o pc lv (.ref (z (20 + w)) :: st) σ := by
  intro p e s m args below meth c H locs ls X hP hD hS hl
  have hZ : qx_ZC (qx_AC a) z s s.heap := X.2.2.2.2.2.2.2.2.1
  exact va_tlen X.1 X.2.1 (hZ.2.2.2.1.1 w hi).2.2.2 hS rfl hd (k p e s m args below meth c H locs ls X hP hD hS hl)
theorem qstr_bald {w : Nat} {i : Int32} (hi : w < 6) (hin : vp_in i (qx_slen.getD w 0)) (hd : decode M.2.1 pc = .ok (.baload, 1)) (k : qx_E (qx_gC l D ci a z) d M o (pc + 1) lv (.int ((qx_sbyt.getD w []).getD i.toNatClampNeg 0) :: st) σ) : qx_E (qx_gC l D ci a z) d M o pc lv (.int i :: .ref (z (20 + w)) :: st) σ := by
  intro p e s m args below meth c H locs ls X hP hD hS hl
  have hZ : qx_ZC (qx_AC a) z s s.heap := X.2.2.2.2.2.2.2.2.1
  exact va_tb X.1 X.2.1 (hZ.2.2.2.1.1 w hi).2.2.2 hS hin rfl hd (k p e s m args below meth c H locs ls X hP hD hS hl)
theorem qx_i2c {g : QG} {x : Int32} (v : Int32) (hv : (x.toUInt32 % 65536).toInt32 = v) (hd : decode M.2.1 pc = .ok (.i2c, 1)) (k : qx_E g d M o (pc + 1) lv (.int v :: st) σ) : qx_E g d M o pc lv (.int x :: st) σ := by
  intro p e s m args below meth c H locs ls X hP hD hS h
  exact lv_i2c X.1 X.2.1 hd hv (k p e s m args below meth c H locs ls X hP hD hS h)
theorem qx_callVs {M' : QM} {d' index n w : Nat} (o1 : Option Value × QS) (As rest : List Value) (hst : st = As.reverse ++ .ref (z (10 + w)) :: rest) (hi : w < 6) (hMc : M'.1.cls = "java/lang/String") (hm : qx_cm M' n) (hv : qx_cv M') (hw : Cond.methodLink M.1.cls index M'.1 ∈ qx_tb) (hn : As.length = n) (hlen : (lg_sl (.ref (z (10 + w)) :: As)).length ≤ M'.2.2.1) (hW : (rest.map fun v => v.category).sum ≤ 8) (hdd : d' < d) (hd : decode M.2.1 pc = .ok (.invokevirtual index, 3))
    (h1 : qx_E (qx_gC l D ci a z) d' M' o1 0 (lv_args 0 (.ref (z (10 + w)) :: As)) [] σ) (k : qx_E (qx_gC l D ci a z) d M o (pc + 3) lv (o1.1.toList ++ rest) o1.2) : qx_E (qx_gC l D ci a z) d M o pc lv st σ := by
  intro p e s m args below meth c H locs ls X hP hD hS hl
  have hts := X.2.2.2.2.2.2.1
  have hZ : qx_ZC (qx_AC a) z s s.heap := X.2.2.2.2.2.2.2.2.1
  have hr := vk_recv hZ.2.2.2.1 hi hS
  refine qx_goOn (o1 := o1) (rest := rest) X hS hl (va_runV (As := As) (rest := rest) (C := M'.1.cls) (n := n) (Ts := qx_tb) ⟨X.1, X.2.1, X.2.2.1, X.2.2.2.2.2.1, hts⟩ (qx_met hm.2.2.2.1 (.ref (z (10 + w)) :: As) hlen h1) (ret := M'.2.2.2) (bytes := M'.2.1) (maxL := M'.2.2.1) ⟨callB_of n hts (qx_goodIn hm.1) rfl rfl rfl (hts _ hm.2.1) (hts _ hw) hm.2.2.1 (qx_room hm hdd), hts _ hv.1, hts _ hv.2⟩ ⟨qx_blind _, by rw [hMc]; exact hr, fun U hU hW => ⟨rfl, qx_pre X hP hD hS U hU hW⟩⟩ rfl hn hl.1 hst (lv_room hW) hd ⟨Nat.le_refl _, Nat.le_refl _⟩) k
theorem qstr_coder {w : Nat} (hi : w < 6) : qx_E (qx_gC l D ci a z) 1 mJ0_coder_7d493 (some (.int 0), σ) 0 [(0, .ref (z (10 + w)))] [] σ := by
  refine qstr_compact (pc := 0) qwsf_J0_38 dJ0_coder_7d493_0 ?_
  refine qx_if_eq (pc := 3) (r := ()) (A1 := none) (A2 := some ()) 13 (by simp) dJ0_coder_7d493_3 (by decide) (fun h => (qx_none h).elim) (fun h => ?_)
  refine qx_aload_n (pc := 6) 0 dJ0_coder_7d493_6 rfl ?_
  refine qstr_coderF (pc := 7) hi qwsf_J0_15 dJ0_coder_7d493_7 ?_
  refine qx_goto (pc := 10) 14 dJ0_coder_7d493_10 (by decide) ?_
  exact qx_nret rfl rfl rfl dJ0_coder_7d493_14
theorem qstr_isLatin1 {w : Nat} (hi : w < 6) : qx_E (qx_gC l D ci a z) 1 mJ0_isLatin1_aae02 (some (.int 1), σ) 0 [(0, .ref (z (10 + w)))] [] σ := by
  refine qstr_compact (pc := 0) qwsf_J0_38 dJ0_isLatin1_aae02_0 ?_
  refine qx_if_eq (pc := 3) (r := ()) (A1 := none) (A2 := some ()) 17 (by simp) dJ0_isLatin1_aae02_3 (by decide) (fun h => (qx_none h).elim) (fun h => ?_)
  refine qx_aload_n (pc := 6) 0 dJ0_isLatin1_aae02_6 rfl ?_
  refine qstr_coderF (pc := 7) hi qwsf_J0_15 dJ0_isLatin1_aae02_7 ?_
  refine qx_if_ne (pc := 10) (r := ()) (A1 := none) (A2 := some ()) 17 (by simp) dJ0_isLatin1_aae02_10 (by decide) (fun h => (qx_none h).elim) (fun h => ?_)
  refine qx_iconst (pc := 13) 1 dJ0_isLatin1_aae02_13 (by decide) ?_
  refine qx_goto (pc := 14) 18 dJ0_isLatin1_aae02_14 (by decide) ?_
  exact qx_nret rfl rfl rfl dJ0_isLatin1_aae02_18
theorem qstr_shr0 (x : Int32) : x >>> ((0 : Int32) &&& 31) = x := by
  have h : ((0 : Int32) &&& 31) = 0 := by decide
  rw [h]
  apply Int32.toBitVec_inj.mp
  simp
theorem qstr_length {w : Nat} {r : Int32} (hi : w < 6) (h : qstr_len w = some r) : qx_E (qx_gC l D ci a z) 2 mJ0_length_8abf5 (some (.int r), σ) 0 [(0, .ref (z (10 + w)))] [] σ := by
  refine qx_aload_n (pc := 0) 0 dJ0_length_8abf5_0 rfl ?_
  refine qstr_valueF (pc := 1) hi qwsf_J0_9 dJ0_length_8abf5_1 ?_
  refine qstr_alen (pc := 4) hi dJ0_length_8abf5_4 ?_
  refine qx_aload_n (pc := 5) 0 dJ0_length_8abf5_5 rfl ?_
  refine qx_callVs (pc := 6) (some (.int 0), σ) [] [.int (nI (qx_slen.getD w 0))] rfl hi rfl qcm_J0_coder_7d493 qcv_J0_coder_7d493 qws_J0_335 rfl (Nat.le_of_ble_eq_true rfl) (Nat.le_of_ble_eq_true rfl) (by decide) dJ0_length_8abf5_6 (qstr_coder hi) ?_
  refine qx_ishr (pc := 9) dJ0_length_8abf5_9 ?_
  exact qx_iret (by rw [qstr_shr0]; exact h) rfl dJ0_length_8abf5_10
theorem qstr_pre {i n : Int32} {q : Value} (h1 : ¬ i < 0) (h2 : i < n) : qx_E (qx_gC l D ci a z) 1 mJ3_checkIndex_8e157 (some (.int i), σ) 0 [(0, .int i), (1, .int n), (2, q)] [] σ := by
  refine qx_iload_n (pc := 0) 0 dJ3_checkIndex_8e157_0 rfl ?_
  refine qx_if_lt (pc := 1) (r := ()) (A1 := none) (A2 := some ()) 9 (by simp [h1]) dJ3_checkIndex_8e157_1 (by decide) (fun h => (qx_none h).elim) (fun h => ?_)
  refine qx_iload_n (pc := 4) 0 dJ3_checkIndex_8e157_4 rfl ?_
  refine qx_iload_n (pc := 5) 1 dJ3_checkIndex_8e157_5 rfl ?_
  refine qx_icmp_lt (pc := 6) (r := ()) (A1 := some ()) (A2 := none) 16 (by simp [h2]) dJ3_checkIndex_8e157_6 (by decide) (fun h => ?_) (fun h => (qx_none h).elim)
  refine qx_iload_n (pc := 16) 0 dJ3_checkIndex_8e157_16 rfl ?_
  exact qx_iret rfl rfl dJ3_checkIndex_8e157_17
theorem qstr_check {i n : Int32} (h1 : ¬ i < 0) (h2 : i < n) : qx_E (qx_gC l D ci a z) 2 mJ0_checkIndex_df160 (none, σ) 0 [(0, .int i), (1, .int n)] [] σ := by
  refine qx_iload_n (pc := 0) 0 dJ0_checkIndex_df160_0 rfl ?_
  refine qx_iload_n (pc := 1) 1 dJ0_checkIndex_df160_1 rfl ?_
  have key : ∀ q : Value, (lg_sl [.int i, .int n, q]).length ≤ 3 → qx_E (qx_gC l D ci a z) 2 mJ0_checkIndex_df160 (none, σ) 5 [(0, .int i), (1, .int n)] [q, .int n, .int i] σ := by
    intro q hq
    refine qx_callSi (pc := 5) i σ [.int i, .int n, q] [] rfl qcm_J3_checkIndex_8e157 qcs_J3_checkIndex_8e157 qws_J0_1059 rfl hq (Nat.le_of_ble_eq_true rfl) (by decide) dJ0_checkIndex_df160_5 (qstr_pre h1 h2) ?_
    refine qx_pop (pc := 8) dJ0_checkIndex_df160_8 rfl ?_
    exact qx_vret rfl rfl dJ0_checkIndex_df160_9
  intro p e s m args below meth c H locs ls X hP hD hS hl
  have hZ : qx_ZC (qx_AC a) z s s.heap := X.2.2.2.2.2.2.2.2.1
  rcases hZ.2.2.2.2.2.2 with h | ⟨t, h⟩
  · exact va_gets X.1 X.2.1 h hS X.2.2.2.2.2.1 (X.2.2.2.2.2.2.1 _ qwsf_J0_1053) (fun _ h => h) dJ0_checkIndex_df160_2 (key .null (Nat.le_of_ble_eq_true rfl) p e s m args below meth c H locs ls X hP hD hS hl)
  · exact va_gets X.1 X.2.1 h hS X.2.2.2.2.2.1 (X.2.2.2.2.2.2.1 _ qwsf_J0_1053) (fun _ h => h) dJ0_checkIndex_df160_2 (key (.ref t) (Nat.le_of_ble_eq_true rfl) p e s m args below meth c H locs ls X hP hD hS hl)
theorem qstr_byte : ∀ w, w < 6 → ∀ j, j < qx_slen.getD w 0 → (((qx_sbyt.getD w []).getD j 0 &&& 255).toUInt32 % 65536).toInt32 = (qx_sbyt.getD w []).getD j 0 ∧ narrow .char (.int ((qx_sbyt.getD w []).getD j 0)) = .int ((qx_sbyt.getD w []).getD j 0) := by decide +kernel
theorem qstr_slt : ∀ w, w < 6 → qx_slen.getD w 0 < 100 := by decide
theorem qstr_lchar {w : Nat} {i r : Int32} (hi : w < 6) (h : qstr_chr w i = some r) : qx_E (qx_gC l D ci a z) 3 mJ1_charAt_3b067 (some (.int r), σ) 0 [(0, .ref (z (20 + w))), (1, .int i)] [] σ := by
  obtain ⟨hin, hr⟩ := qx_obE h
  have hlt : i.toNatClampNeg < qx_slen.getD w 0 := Nat.not_le.mp fun q => hin (Or.inr q)
  have hb := qstr_byte w hi i.toNatClampNeg hlt
  obtain ⟨j, hj, rfl⟩ := vp_in_of hin (Nat.lt_trans (qstr_slt w hi) (by decide))
  refine qx_iload_n (pc := 0) 1 dJ1_charAt_3b067_0 rfl ?_
  refine qx_aload_n (pc := 1) 0 dJ1_charAt_3b067_1 rfl ?_
  refine qstr_alen (pc := 2) hi dJ1_charAt_3b067_2 ?_
  refine qx_callSv (pc := 3) σ [.int (nI j), .int (nI (qx_slen.getD w 0))] [] rfl qcm_J0_checkIndex_df160 qcs_J0_checkIndex_df160 qws_J1_9 rfl (Nat.le_of_ble_eq_true rfl) (Nat.le_of_ble_eq_true rfl) (by decide) dJ1_charAt_3b067_3 (qstr_check (nI_pos (Nat.lt_trans hj (Nat.lt_trans (qstr_slt w hi) (by decide)))) (nI_lt hj (Nat.lt_trans (qstr_slt w hi) (by decide)))) ?_
  refine qx_aload_n (pc := 6) 0 dJ1_charAt_3b067_6 rfl ?_
  refine qx_iload_n (pc := 7) 1 dJ1_charAt_3b067_7 rfl ?_
  refine qstr_bald (pc := 8) hi hin dJ1_charAt_3b067_8 ?_
  refine qx_sipush (pc := 9) 255 dJ1_charAt_3b067_9 (by decide) ?_
  refine qx_iand (pc := 12) dJ1_charAt_3b067_12 ?_
  refine qx_i2c (pc := 13) _ hb.1 dJ1_charAt_3b067_13 ?_
  exact qx_nret hr rfl hb.2 dJ1_charAt_3b067_14
theorem qstr_char {w : Nat} {i r : Int32} (hi : w < 6) (h : qstr_chr w i = some r) : qx_E (qx_gC l D ci a z) 4 mJ0_charAt_5068e (some (.int r), σ) 0 [(0, .ref (z (10 + w))), (1, .int i)] [] σ := by
  refine qx_aload_n (pc := 0) 0 dJ0_charAt_5068e_0 rfl ?_
  refine qx_callVs (pc := 1) (some (.int 1), σ) [] [] rfl hi rfl qcm_J0_isLatin1_aae02 qcv_J0_isLatin1_aae02 qws_J0_492 rfl (Nat.le_of_ble_eq_true rfl) (Nat.le_of_ble_eq_true rfl) (by decide) dJ0_charAt_5068e_1 (qstr_isLatin1 hi) ?_
  refine qx_if_eq (pc := 4) (x := 1) (r := ()) (A1 := none) (A2 := some ()) 16 (by simp) dJ0_charAt_5068e_4 (by decide) (fun h => (qx_none h).elim) (fun _ => ?_)
  refine qx_aload_n (pc := 7) 0 dJ0_charAt_5068e_7 rfl ?_
  refine qstr_valueF (pc := 8) hi qwsf_J0_9 dJ0_charAt_5068e_8 ?_
  refine qx_iload_n (pc := 11) 1 dJ0_charAt_5068e_11 rfl ?_
  refine qx_callSi (pc := 12) r σ [.ref (z (20 + w)), .int i] [] rfl qcm_J1_charAt_3b067 qcs_J1_charAt_3b067 qws_J0_495 rfl (Nat.le_of_ble_eq_true rfl) (Nat.le_of_ble_eq_true rfl) (by decide) dJ0_charAt_5068e_12 (qstr_lchar hi h) ?_
  obtain ⟨hin, hr⟩ := qx_obE h
  have hlt : i.toNatClampNeg < qx_slen.getD w 0 := Nat.not_le.mp fun q => hin (Or.inr q)
  have hb := qstr_byte w hi i.toNatClampNeg hlt
  rw [Option.some.inj hr] at hb
  exact qx_nret rfl rfl hb.2 dJ0_charAt_5068e_15
theorem qstr_callLen {w index : Nat} (r : Int32) (rest : List Value) (hi : w < 6) (h : qstr_len w = some r) (hw : Cond.methodLink M.1.cls index yJ0_length_8abf5 ∈ qx_tb) (hW : (rest.map fun v => v.category).sum ≤ 8) (hdd : 5 ≤ d) (hd : decode M.2.1 pc = .ok (.invokevirtual index, 3)) (k : qx_E (qx_gC l D ci a z) d M o (pc + 3) lv (.int r :: rest) σ) : qx_E (qx_gC l D ci a z) d M o pc lv (.ref (z (10 + w)) :: rest) σ :=
  qx_callVs (some (.int r), σ) [] rest rfl hi rfl qcm_J0_length_8abf5 qcv_J0_length_8abf5 hw rfl (Nat.le_of_ble_eq_true rfl) hW (Nat.lt_of_lt_of_le (by decide) hdd) hd (qstr_length hi h) k
theorem qstr_callChr {w index : Nat} {i : Int32} (r : Int32) (rest : List Value) (hi : w < 6) (h : qstr_chr w i = some r) (hw : Cond.methodLink M.1.cls index yJ0_charAt_5068e ∈ qx_tb) (hW : (rest.map fun v => v.category).sum ≤ 8) (hdd : 5 ≤ d) (hd : decode M.2.1 pc = .ok (.invokevirtual index, 3)) (k : qx_E (qx_gC l D ci a z) d M o (pc + 3) lv (.int r :: rest) σ) : qx_E (qx_gC l D ci a z) d M o pc lv (.int i :: .ref (z (10 + w)) :: rest) σ :=
  qx_callVs (some (.int r), σ) [.int i] rest rfl hi rfl qcm_J0_charAt_5068e qcv_J0_charAt_5068e hw rfl (Nat.le_of_ble_eq_true rfl) hW (Nat.lt_of_lt_of_le (by decide) hdd) hd (qstr_char hi h) k
end
