/-! the constructors -/
def mX4_init : QM := (yX4_init, cX4_init, 1, none)
theorem qcm_X4_init : qx_cm mX4_init 0 := ⟨qx_tbOf (List.mem_of_getElem? (i := 97) (by decide +kernel)) (by decide +kernel), qx_tbOf (List.mem_of_getElem? (i := 70) (by decide +kernel)) (by decide +kernel), ⟨by decide, by decide, by decide +kernel⟩, by decide, by decide⟩
theorem qci_X4_init : Cond.instanceMethod yX4_init ∈ qx_tb := qx_tbOf (List.mem_of_getElem? (i := 96) (by decide +kernel)) (by decide +kernel)
theorem qyi_X4 : Cond.initialized RX4 ∈ qx_tb := qx_tbOf (List.mem_of_getElem? (i := 70) (by decide +kernel)) (by decide +kernel)
theorem qyn_X4 : Cond.instantiable RX4 3 ∈ qx_tb := qx_tbOf (List.mem_of_getElem? (i := 94) (by decide +kernel)) (by decide +kernel)
theorem dX4_init_0 : decode cX4_init 0 = .ok (.aload_n 0, 1) := by decide +kernel
theorem dX4_init_1 : decode cX4_init 1 = .ok (.invokespecial 3, 3) := by decide +kernel
theorem dX4_init_4 : decode cX4_init 4 = .ok (.aload_n 0, 1) := by decide +kernel
theorem dX4_init_5 : decode cX4_init 5 = .ok (.iconst 0, 1) := by decide +kernel
theorem dX4_init_6 : decode cX4_init 6 = .ok (.putfield 9, 3) := by decide +kernel
theorem dX4_init_9 : decode cX4_init 9 = .ok (.aload_n 0, 1) := by decide +kernel
theorem dX4_init_10 : decode cX4_init 10 = .ok (.bipush 120, 2) := by decide +kernel
theorem dX4_init_12 : decode cX4_init 12 = .ok (.newarray .int, 2) := by decide +kernel
theorem dX4_init_14 : decode cX4_init 14 = .ok (.putfield 15, 3) := by decide +kernel
theorem dX4_init_17 : decode cX4_init 17 = .ok (.aload_n 0, 1) := by decide +kernel
theorem dX4_init_18 : decode cX4_init 18 = .ok (.bipush 20, 2) := by decide +kernel
theorem dX4_init_20 : decode cX4_init 20 = .ok (.newarray .int, 2) := by decide +kernel
theorem dX4_init_22 : decode cX4_init 22 = .ok (.putfield 19, 3) := by decide +kernel
theorem dX4_init_25 : decode cX4_init 25 = .ok (.return_, 1) := by decide +kernel
def mX7_init : QM := (yX7_init, cX7_init, 1, none)
theorem qcm_X7_init : qx_cm mX7_init 0 := ⟨qx_tbOf (List.mem_of_getElem? (i := 119) (by decide +kernel)) (by decide +kernel), qx_tbOf (List.mem_of_getElem? (i := 71) (by decide +kernel)) (by decide +kernel), ⟨by decide, by decide, by decide +kernel⟩, by decide, by decide⟩
theorem qci_X7_init : Cond.instanceMethod yX7_init ∈ qx_tb := qx_tbOf (List.mem_of_getElem? (i := 118) (by decide +kernel)) (by decide +kernel)
theorem qyi_X7 : Cond.initialized RX7 ∈ qx_tb := qx_tbOf (List.mem_of_getElem? (i := 71) (by decide +kernel)) (by decide +kernel)
theorem qyn_X7 : Cond.instantiable RX7 4 ∈ qx_tb := qx_tbOf (List.mem_of_getElem? (i := 116) (by decide +kernel)) (by decide +kernel)
theorem dX7_init_0 : decode cX7_init 0 = .ok (.aload_n 0, 1) := by decide +kernel
theorem dX7_init_1 : decode cX7_init 1 = .ok (.invokespecial 3, 3) := by decide +kernel
theorem dX7_init_4 : decode cX7_init 4 = .ok (.aload_n 0, 1) := by decide +kernel
theorem dX7_init_5 : decode cX7_init 5 = .ok (.iconst 0, 1) := by decide +kernel
theorem dX7_init_6 : decode cX7_init 6 = .ok (.putfield 9, 3) := by decide +kernel
theorem dX7_init_9 : decode cX7_init 9 = .ok (.aload_n 0, 1) := by decide +kernel
theorem dX7_init_10 : decode cX7_init 10 = .ok (.iconst 0, 1) := by decide +kernel
theorem dX7_init_11 : decode cX7_init 11 = .ok (.putfield 15, 3) := by decide +kernel
theorem dX7_init_14 : decode cX7_init 14 = .ok (.aload_n 0, 1) := by decide +kernel
theorem dX7_init_15 : decode cX7_init 15 = .ok (.bipush 60, 2) := by decide +kernel
theorem dX7_init_17 : decode cX7_init 17 = .ok (.putfield 18, 3) := by decide +kernel
theorem dX7_init_20 : decode cX7_init 20 = .ok (.aload_n 0, 1) := by decide +kernel
theorem dX7_init_21 : decode cX7_init 21 = .ok (.bipush 40, 2) := by decide +kernel
theorem dX7_init_23 : decode cX7_init 23 = .ok (.putfield 21, 3) := by decide +kernel
theorem dX7_init_26 : decode cX7_init 26 = .ok (.return_, 1) := by decide +kernel
def mX3_init : QM := (yX3_init, cX3_init, 3, none)
theorem qcm_X3_init : qx_cm mX3_init 2 := ⟨qx_tbOf (List.mem_of_getElem? (i := 143) (by decide +kernel)) (by decide +kernel), qx_tbOf (List.mem_of_getElem? (i := 72) (by decide +kernel)) (by decide +kernel), ⟨by decide, by decide, by decide +kernel⟩, by decide, by decide⟩
theorem qci_X3_init : Cond.instanceMethod yX3_init ∈ qx_tb := qx_tbOf (List.mem_of_getElem? (i := 142) (by decide +kernel)) (by decide +kernel)
theorem qyi_X3 : Cond.initialized RX3 ∈ qx_tb := qx_tbOf (List.mem_of_getElem? (i := 72) (by decide +kernel)) (by decide +kernel)
theorem qyn_X3 : Cond.instantiable RX3 7 ∈ qx_tb := qx_tbOf (List.mem_of_getElem? (i := 140) (by decide +kernel)) (by decide +kernel)
theorem dX3_init_0 : decode cX3_init 0 = .ok (.aload_n 0, 1) := by decide +kernel
theorem dX3_init_1 : decode cX3_init 1 = .ok (.invokespecial 3, 3) := by decide +kernel
theorem dX3_init_4 : decode cX3_init 4 = .ok (.aload_n 0, 1) := by decide +kernel
theorem dX3_init_5 : decode cX3_init 5 = .ok (.aload_n 1, 1) := by decide +kernel
theorem dX3_init_6 : decode cX3_init 6 = .ok (.putfield 9, 3) := by decide +kernel
theorem dX3_init_9 : decode cX3_init 9 = .ok (.aload_n 0, 1) := by decide +kernel
theorem dX3_init_10 : decode cX3_init 10 = .ok (.aload_n 2, 1) := by decide +kernel
theorem dX3_init_11 : decode cX3_init 11 = .ok (.putfield 15, 3) := by decide +kernel
theorem dX3_init_14 : decode cX3_init 14 = .ok (.aload_n 0, 1) := by decide +kernel
theorem dX3_init_15 : decode cX3_init 15 = .ok (.sipush 160, 3) := by decide +kernel
theorem dX3_init_18 : decode cX3_init 18 = .ok (.newarray .int, 2) := by decide +kernel
theorem dX3_init_20 : decode cX3_init 20 = .ok (.putfield 19, 3) := by decide +kernel
theorem dX3_init_23 : decode cX3_init 23 = .ok (.aload_n 0, 1) := by decide +kernel
theorem dX3_init_24 : decode cX3_init 24 = .ok (.sipush 160, 3) := by decide +kernel
theorem dX3_init_27 : decode cX3_init 27 = .ok (.newarray .int, 2) := by decide +kernel
theorem dX3_init_29 : decode cX3_init 29 = .ok (.putfield 23, 3) := by decide +kernel
theorem dX3_init_32 : decode cX3_init 32 = .ok (.aload_n 0, 1) := by decide +kernel
theorem dX3_init_33 : decode cX3_init 33 = .ok (.sipush 160, 3) := by decide +kernel
theorem dX3_init_36 : decode cX3_init 36 = .ok (.newarray .int, 2) := by decide +kernel
theorem dX3_init_38 : decode cX3_init 38 = .ok (.putfield 26, 3) := by decide +kernel
theorem dX3_init_41 : decode cX3_init 41 = .ok (.aload_n 0, 1) := by decide +kernel
theorem dX3_init_42 : decode cX3_init 42 = .ok (.sipush 160, 3) := by decide +kernel
theorem dX3_init_45 : decode cX3_init 45 = .ok (.newarray .int, 2) := by decide +kernel
theorem dX3_init_47 : decode cX3_init 47 = .ok (.putfield 29, 3) := by decide +kernel
theorem dX3_init_50 : decode cX3_init 50 = .ok (.aload_n 0, 1) := by decide +kernel
theorem dX3_init_51 : decode cX3_init 51 = .ok (.sipush 160, 3) := by decide +kernel
theorem dX3_init_54 : decode cX3_init 54 = .ok (.newarray .boolean, 2) := by decide +kernel
theorem dX3_init_56 : decode cX3_init 56 = .ok (.putfield 32, 3) := by decide +kernel
theorem dX3_init_59 : decode cX3_init 59 = .ok (.return_, 1) := by decide +kernel
def mX1_init : QM := (yX1_init, cX1_init, 3, none)
theorem qcm_X1_init : qx_cm mX1_init 2 := ⟨qx_tbOf (List.mem_of_getElem? (i := 172) (by decide +kernel)) (by decide +kernel), qx_tbOf (List.mem_of_getElem? (i := 73) (by decide +kernel)) (by decide +kernel), ⟨by decide, by decide, by decide +kernel⟩, by decide, by decide⟩
theorem qci_X1_init : Cond.instanceMethod yX1_init ∈ qx_tb := qx_tbOf (List.mem_of_getElem? (i := 171) (by decide +kernel)) (by decide +kernel)
theorem qyi_X1 : Cond.initialized RX1 ∈ qx_tb := qx_tbOf (List.mem_of_getElem? (i := 73) (by decide +kernel)) (by decide +kernel)
theorem qyn_X1 : Cond.instantiable RX1 3 ∈ qx_tb := qx_tbOf (List.mem_of_getElem? (i := 169) (by decide +kernel)) (by decide +kernel)
theorem dX1_init_0 : decode cX1_init 0 = .ok (.aload_n 0, 1) := by decide +kernel
theorem dX1_init_1 : decode cX1_init 1 = .ok (.invokespecial 3, 3) := by decide +kernel
theorem dX1_init_4 : decode cX1_init 4 = .ok (.aload_n 0, 1) := by decide +kernel
theorem dX1_init_5 : decode cX1_init 5 = .ok (.aload_n 1, 1) := by decide +kernel
theorem dX1_init_6 : decode cX1_init 6 = .ok (.putfield 9, 3) := by decide +kernel
theorem dX1_init_9 : decode cX1_init 9 = .ok (.aload_n 0, 1) := by decide +kernel
theorem dX1_init_10 : decode cX1_init 10 = .ok (.aload_n 2, 1) := by decide +kernel
theorem dX1_init_11 : decode cX1_init 11 = .ok (.putfield 15, 3) := by decide +kernel
theorem dX1_init_14 : decode cX1_init 14 = .ok (.aload_n 0, 1) := by decide +kernel
theorem dX1_init_15 : decode cX1_init 15 = .ok (.bipush 20, 2) := by decide +kernel
theorem dX1_init_17 : decode cX1_init 17 = .ok (.newarray .int, 2) := by decide +kernel
theorem dX1_init_19 : decode cX1_init 19 = .ok (.putfield 19, 3) := by decide +kernel
theorem dX1_init_22 : decode cX1_init 22 = .ok (.aload_n 0, 1) := by decide +kernel
theorem dX1_init_23 : decode cX1_init 23 = .ok (.getfield 19, 3) := by decide +kernel
theorem dX1_init_26 : decode cX1_init 26 = .ok (.iconst (-1), 1) := by decide +kernel
theorem dX1_init_27 : decode cX1_init 27 = .ok (.invokestatic 23, 3) := by decide +kernel
theorem dX1_init_30 : decode cX1_init 30 = .ok (.return_, 1) := by decide +kernel
def mX5_init : QM := (yX5_init, cX5_init, 3, none)
theorem qcm_X5_init : qx_cm mX5_init 2 := ⟨qx_tbOf (List.mem_of_getElem? (i := 191) (by decide +kernel)) (by decide +kernel), qx_tbOf (List.mem_of_getElem? (i := 75) (by decide +kernel)) (by decide +kernel), ⟨by decide, by decide, by decide +kernel⟩, by decide, by decide⟩
theorem qci_X5_init : Cond.instanceMethod yX5_init ∈ qx_tb := qx_tbOf (List.mem_of_getElem? (i := 190) (by decide +kernel)) (by decide +kernel)
theorem qyi_X5 : Cond.initialized RX5 ∈ qx_tb := qx_tbOf (List.mem_of_getElem? (i := 75) (by decide +kernel)) (by decide +kernel)
theorem qyn_X5 : Cond.instantiable RX5 5 ∈ qx_tb := qx_tbOf (List.mem_of_getElem? (i := 188) (by decide +kernel)) (by decide +kernel)
theorem dX5_init_0 : decode cX5_init 0 = .ok (.aload_n 0, 1) := by decide +kernel
theorem dX5_init_1 : decode cX5_init 1 = .ok (.invokespecial 3, 3) := by decide +kernel
theorem dX5_init_4 : decode cX5_init 4 = .ok (.aload_n 0, 1) := by decide +kernel
theorem dX5_init_5 : decode cX5_init 5 = .ok (.aload_n 1, 1) := by decide +kernel
theorem dX5_init_6 : decode cX5_init 6 = .ok (.putfield 9, 3) := by decide +kernel
theorem dX5_init_9 : decode cX5_init 9 = .ok (.aload_n 0, 1) := by decide +kernel
theorem dX5_init_10 : decode cX5_init 10 = .ok (.aload_n 2, 1) := by decide +kernel
theorem dX5_init_11 : decode cX5_init 11 = .ok (.putfield 15, 3) := by decide +kernel
theorem dX5_init_14 : decode cX5_init 14 = .ok (.aload_n 0, 1) := by decide +kernel
theorem dX5_init_15 : decode cX5_init 15 = .ok (.bipush 6, 2) := by decide +kernel
theorem dX5_init_17 : decode cX5_init 17 = .ok (.newarray .int, 2) := by decide +kernel
theorem dX5_init_19 : decode cX5_init 19 = .ok (.putfield 19, 3) := by decide +kernel
theorem dX5_init_22 : decode cX5_init 22 = .ok (.aload_n 0, 1) := by decide +kernel
theorem dX5_init_23 : decode cX5_init 23 = .ok (.bipush 48, 2) := by decide +kernel
theorem dX5_init_25 : decode cX5_init 25 = .ok (.newarray .long, 2) := by decide +kernel
theorem dX5_init_27 : decode cX5_init 27 = .ok (.putfield 23, 3) := by decide +kernel
theorem dX5_init_30 : decode cX5_init 30 = .ok (.aload_n 0, 1) := by decide +kernel
theorem dX5_init_31 : decode cX5_init 31 = .ok (.iconst 0, 1) := by decide +kernel
theorem dX5_init_32 : decode cX5_init 32 = .ok (.putfield 27, 3) := by decide +kernel
theorem dX5_init_35 : decode cX5_init 35 = .ok (.return_, 1) := by decide +kernel
def mX2_init : QM := (yX2_init, cX2_init, 4, none)
theorem qcm_X2_init : qx_cm mX2_init 3 := ⟨qx_tbOf (List.mem_of_getElem? (i := 214) (by decide +kernel)) (by decide +kernel), qx_tbOf (List.mem_of_getElem? (i := 76) (by decide +kernel)) (by decide +kernel), ⟨by decide, by decide, by decide +kernel⟩, by decide, by decide⟩
theorem qci_X2_init : Cond.instanceMethod yX2_init ∈ qx_tb := qx_tbOf (List.mem_of_getElem? (i := 213) (by decide +kernel)) (by decide +kernel)
theorem qyi_X2 : Cond.initialized RX2 ∈ qx_tb := qx_tbOf (List.mem_of_getElem? (i := 76) (by decide +kernel)) (by decide +kernel)
theorem qyn_X2 : Cond.instantiable RX2 6 ∈ qx_tb := qx_tbOf (List.mem_of_getElem? (i := 211) (by decide +kernel)) (by decide +kernel)
theorem dX2_init_0 : decode cX2_init 0 = .ok (.aload_n 0, 1) := by decide +kernel
theorem dX2_init_1 : decode cX2_init 1 = .ok (.invokespecial 3, 3) := by decide +kernel
theorem dX2_init_4 : decode cX2_init 4 = .ok (.aload_n 0, 1) := by decide +kernel
theorem dX2_init_5 : decode cX2_init 5 = .ok (.aload_n 1, 1) := by decide +kernel
theorem dX2_init_6 : decode cX2_init 6 = .ok (.putfield 9, 3) := by decide +kernel
theorem dX2_init_9 : decode cX2_init 9 = .ok (.aload_n 0, 1) := by decide +kernel
theorem dX2_init_10 : decode cX2_init 10 = .ok (.aload_n 2, 1) := by decide +kernel
theorem dX2_init_11 : decode cX2_init 11 = .ok (.putfield 15, 3) := by decide +kernel
theorem dX2_init_14 : decode cX2_init 14 = .ok (.aload_n 0, 1) := by decide +kernel
theorem dX2_init_15 : decode cX2_init 15 = .ok (.aload_n 3, 1) := by decide +kernel
theorem dX2_init_16 : decode cX2_init 16 = .ok (.putfield 19, 3) := by decide +kernel
theorem dX2_init_19 : decode cX2_init 19 = .ok (.aload_n 0, 1) := by decide +kernel
theorem dX2_init_20 : decode cX2_init 20 = .ok (.iconst 0, 1) := by decide +kernel
theorem dX2_init_21 : decode cX2_init 21 = .ok (.putfield 23, 3) := by decide +kernel
theorem dX2_init_24 : decode cX2_init 24 = .ok (.aload_n 0, 1) := by decide +kernel
theorem dX2_init_25 : decode cX2_init 25 = .ok (.bipush 80, 2) := by decide +kernel
theorem dX2_init_27 : decode cX2_init 27 = .ok (.newarray .int, 2) := by decide +kernel
theorem dX2_init_29 : decode cX2_init 29 = .ok (.putfield 27, 3) := by decide +kernel
theorem dX2_init_32 : decode cX2_init 32 = .ok (.aload_n 0, 1) := by decide +kernel
theorem dX2_init_33 : decode cX2_init 33 = .ok (.bipush 20, 2) := by decide +kernel
theorem dX2_init_35 : decode cX2_init 35 = .ok (.newarray .int, 2) := by decide +kernel
theorem dX2_init_37 : decode cX2_init 37 = .ok (.putfield 31, 3) := by decide +kernel
theorem dX2_init_40 : decode cX2_init 40 = .ok (.return_, 1) := by decide +kernel
def mX6_init : QM := (yX6_init, cX6_init, 1, none)
theorem qcm_X6_init : qx_cm mX6_init 0 := ⟨qx_tbOf (List.mem_of_getElem? (i := 240) (by decide +kernel)) (by decide +kernel), qx_tbOf (List.mem_of_getElem? (i := 77) (by decide +kernel)) (by decide +kernel), ⟨by decide, by decide, by decide +kernel⟩, by decide, by decide⟩
theorem qci_X6_init : Cond.instanceMethod yX6_init ∈ qx_tb := qx_tbOf (List.mem_of_getElem? (i := 239) (by decide +kernel)) (by decide +kernel)
theorem qyi_X6 : Cond.initialized RX6 ∈ qx_tb := qx_tbOf (List.mem_of_getElem? (i := 77) (by decide +kernel)) (by decide +kernel)
theorem qyn_X6 : Cond.instantiable RX6 2 ∈ qx_tb := qx_tbOf (List.mem_of_getElem? (i := 237) (by decide +kernel)) (by decide +kernel)
theorem dX6_init_0 : decode cX6_init 0 = .ok (.aload_n 0, 1) := by decide +kernel
theorem dX6_init_1 : decode cX6_init 1 = .ok (.invokespecial 3, 3) := by decide +kernel
theorem dX6_init_4 : decode cX6_init 4 = .ok (.aload_n 0, 1) := by decide +kernel
theorem dX6_init_5 : decode cX6_init 5 = .ok (.iconst 0, 1) := by decide +kernel
theorem dX6_init_6 : decode cX6_init 6 = .ok (.putfield 9, 3) := by decide +kernel
theorem dX6_init_9 : decode cX6_init 9 = .ok (.aload_n 0, 1) := by decide +kernel
theorem dX6_init_10 : decode cX6_init 10 = .ok (.bipush 80, 2) := by decide +kernel
theorem dX6_init_12 : decode cX6_init 12 = .ok (.newarray .byte, 2) := by decide +kernel
theorem dX6_init_14 : decode cX6_init 14 = .ok (.putfield 15, 3) := by decide +kernel
theorem dX6_init_17 : decode cX6_init 17 = .ok (.return_, 1) := by decide +kernel
def mX0_init : QM := (yX0_init, cX0_init, 1, none)
theorem qcm_X0_init : qx_cm mX0_init 0 := ⟨qx_tbOf (List.mem_of_getElem? (i := 256) (by decide +kernel)) (by decide +kernel), qx_tbOf (List.mem_of_getElem? (i := 78) (by decide +kernel)) (by decide +kernel), ⟨by decide, by decide, by decide +kernel⟩, by decide, by decide⟩
theorem qci_X0_init : Cond.instanceMethod yX0_init ∈ qx_tb := qx_tbOf (List.mem_of_getElem? (i := 255) (by decide +kernel)) (by decide +kernel)
theorem qyi_X0 : Cond.initialized RX0 ∈ qx_tb := qx_tbOf (List.mem_of_getElem? (i := 78) (by decide +kernel)) (by decide +kernel)
theorem qyn_X0 : Cond.instantiable RX0 3 ∈ qx_tb := qx_tbOf (List.mem_of_getElem? (i := 253) (by decide +kernel)) (by decide +kernel)
theorem dX0_init_0 : decode cX0_init 0 = .ok (.aload_n 0, 1) := by decide +kernel
theorem dX0_init_1 : decode cX0_init 1 = .ok (.invokespecial 3, 3) := by decide +kernel
theorem dX0_init_4 : decode cX0_init 4 = .ok (.aload_n 0, 1) := by decide +kernel
theorem dX0_init_5 : decode cX0_init 5 = .ok (.iconst (-1), 1) := by decide +kernel
theorem dX0_init_6 : decode cX0_init 6 = .ok (.putfield 9, 3) := by decide +kernel
theorem dX0_init_9 : decode cX0_init 9 = .ok (.aload_n 0, 1) := by decide +kernel
theorem dX0_init_10 : decode cX0_init 10 = .ok (.iconst 5, 1) := by decide +kernel
theorem dX0_init_11 : decode cX0_init 11 = .ok (.newarray .int, 2) := by decide +kernel
theorem dX0_init_13 : decode cX0_init 13 = .ok (.putfield 15, 3) := by decide +kernel
theorem dX0_init_16 : decode cX0_init 16 = .ok (.aload_n 0, 1) := by decide +kernel
theorem dX0_init_17 : decode cX0_init 17 = .ok (.iconst 0, 1) := by decide +kernel
theorem dX0_init_18 : decode cX0_init 18 = .ok (.putfield 19, 3) := by decide +kernel
theorem dX0_init_21 : decode cX0_init 21 = .ok (.return_, 1) := by decide +kernel
def mX8_init : QM := (yX8_init, cX8_init, 1, none)
theorem qcm_X8_init : qx_cm mX8_init 0 := ⟨qx_tbOf (List.mem_of_getElem? (i := 89) (by decide +kernel)) (by decide +kernel), qx_tbOf (List.mem_of_getElem? (i := 69) (by decide +kernel)) (by decide +kernel), ⟨by decide, by decide, by decide +kernel⟩, by decide, by decide⟩
theorem qci_X8_init : Cond.instanceMethod yX8_init ∈ qx_tb := qx_tbOf (List.mem_of_getElem? (i := 88) (by decide +kernel)) (by decide +kernel)
theorem qyi_X8 : Cond.initialized RX8 ∈ qx_tb := qx_tbOf (List.mem_of_getElem? (i := 69) (by decide +kernel)) (by decide +kernel)
theorem qyn_X8 : Cond.instantiable RX8 8 ∈ qx_tb := qx_tbOf (List.mem_of_getElem? (i := 86) (by decide +kernel)) (by decide +kernel)
theorem dX8_init_0 : decode cX8_init 0 = .ok (.aload_n 0, 1) := by decide +kernel
theorem dX8_init_1 : decode cX8_init 1 = .ok (.invokespecial 3, 3) := by decide +kernel
theorem dX8_init_4 : decode cX8_init 4 = .ok (.aload_n 0, 1) := by decide +kernel
theorem dX8_init_5 : decode cX8_init 5 = .ok (.new 9, 3) := by decide +kernel
theorem dX8_init_8 : decode cX8_init 8 = .ok (.dup, 1) := by decide +kernel
theorem dX8_init_9 : decode cX8_init 9 = .ok (.invokespecial 11, 3) := by decide +kernel
theorem dX8_init_12 : decode cX8_init 12 = .ok (.putfield 12, 3) := by decide +kernel
theorem dX8_init_15 : decode cX8_init 15 = .ok (.aload_n 0, 1) := by decide +kernel
theorem dX8_init_16 : decode cX8_init 16 = .ok (.new 16, 3) := by decide +kernel
theorem dX8_init_19 : decode cX8_init 19 = .ok (.dup, 1) := by decide +kernel
theorem dX8_init_20 : decode cX8_init 20 = .ok (.invokespecial 18, 3) := by decide +kernel
theorem dX8_init_23 : decode cX8_init 23 = .ok (.putfield 19, 3) := by decide +kernel
theorem dX8_init_26 : decode cX8_init 26 = .ok (.aload_n 0, 1) := by decide +kernel
theorem dX8_init_27 : decode cX8_init 27 = .ok (.new 23, 3) := by decide +kernel
theorem dX8_init_30 : decode cX8_init 30 = .ok (.dup, 1) := by decide +kernel
theorem dX8_init_31 : decode cX8_init 31 = .ok (.aload_n 0, 1) := by decide +kernel
theorem dX8_init_32 : decode cX8_init 32 = .ok (.getfield 12, 3) := by decide +kernel
theorem dX8_init_35 : decode cX8_init 35 = .ok (.aload_n 0, 1) := by decide +kernel
theorem dX8_init_36 : decode cX8_init 36 = .ok (.getfield 19, 3) := by decide +kernel
theorem dX8_init_39 : decode cX8_init 39 = .ok (.invokespecial 25, 3) := by decide +kernel
theorem dX8_init_42 : decode cX8_init 42 = .ok (.putfield 28, 3) := by decide +kernel
theorem dX8_init_45 : decode cX8_init 45 = .ok (.aload_n 0, 1) := by decide +kernel
theorem dX8_init_46 : decode cX8_init 46 = .ok (.new 32, 3) := by decide +kernel
theorem dX8_init_49 : decode cX8_init 49 = .ok (.dup, 1) := by decide +kernel
theorem dX8_init_50 : decode cX8_init 50 = .ok (.aload_n 0, 1) := by decide +kernel
theorem dX8_init_51 : decode cX8_init 51 = .ok (.getfield 12, 3) := by decide +kernel
theorem dX8_init_54 : decode cX8_init 54 = .ok (.aload_n 0, 1) := by decide +kernel
theorem dX8_init_55 : decode cX8_init 55 = .ok (.getfield 28, 3) := by decide +kernel
theorem dX8_init_58 : decode cX8_init 58 = .ok (.invokespecial 34, 3) := by decide +kernel
theorem dX8_init_61 : decode cX8_init 61 = .ok (.putfield 37, 3) := by decide +kernel
theorem dX8_init_64 : decode cX8_init 64 = .ok (.aload_n 0, 1) := by decide +kernel
theorem dX8_init_65 : decode cX8_init 65 = .ok (.new 41, 3) := by decide +kernel
theorem dX8_init_68 : decode cX8_init 68 = .ok (.dup, 1) := by decide +kernel
theorem dX8_init_69 : decode cX8_init 69 = .ok (.aload_n 0, 1) := by decide +kernel
theorem dX8_init_70 : decode cX8_init 70 = .ok (.getfield 12, 3) := by decide +kernel
theorem dX8_init_73 : decode cX8_init 73 = .ok (.aload_n 0, 1) := by decide +kernel
theorem dX8_init_74 : decode cX8_init 74 = .ok (.getfield 28, 3) := by decide +kernel
theorem dX8_init_77 : decode cX8_init 77 = .ok (.invokespecial 43, 3) := by decide +kernel
theorem dX8_init_80 : decode cX8_init 80 = .ok (.putfield 44, 3) := by decide +kernel
theorem dX8_init_83 : decode cX8_init 83 = .ok (.aload_n 0, 1) := by decide +kernel
theorem dX8_init_84 : decode cX8_init 84 = .ok (.new 48, 3) := by decide +kernel
theorem dX8_init_87 : decode cX8_init 87 = .ok (.dup, 1) := by decide +kernel
theorem dX8_init_88 : decode cX8_init 88 = .ok (.aload_n 0, 1) := by decide +kernel
theorem dX8_init_89 : decode cX8_init 89 = .ok (.getfield 12, 3) := by decide +kernel
theorem dX8_init_92 : decode cX8_init 92 = .ok (.aload_n 0, 1) := by decide +kernel
theorem dX8_init_93 : decode cX8_init 93 = .ok (.getfield 19, 3) := by decide +kernel
theorem dX8_init_96 : decode cX8_init 96 = .ok (.aload_n 0, 1) := by decide +kernel
theorem dX8_init_97 : decode cX8_init 97 = .ok (.getfield 37, 3) := by decide +kernel
theorem dX8_init_100 : decode cX8_init 100 = .ok (.invokespecial 50, 3) := by decide +kernel
theorem dX8_init_103 : decode cX8_init 103 = .ok (.putfield 53, 3) := by decide +kernel
theorem dX8_init_106 : decode cX8_init 106 = .ok (.aload_n 0, 1) := by decide +kernel
theorem dX8_init_107 : decode cX8_init 107 = .ok (.new 57, 3) := by decide +kernel
theorem dX8_init_110 : decode cX8_init 110 = .ok (.dup, 1) := by decide +kernel
theorem dX8_init_111 : decode cX8_init 111 = .ok (.invokespecial 59, 3) := by decide +kernel
theorem dX8_init_114 : decode cX8_init 114 = .ok (.putfield 60, 3) := by decide +kernel
theorem dX8_init_117 : decode cX8_init 117 = .ok (.aload_n 0, 1) := by decide +kernel
theorem dX8_init_118 : decode cX8_init 118 = .ok (.new 64, 3) := by decide +kernel
theorem dX8_init_121 : decode cX8_init 121 = .ok (.dup, 1) := by decide +kernel
theorem dX8_init_122 : decode cX8_init 122 = .ok (.invokespecial 66, 3) := by decide +kernel
theorem dX8_init_125 : decode cX8_init 125 = .ok (.putfield 67, 3) := by decide +kernel
theorem dX8_init_128 : decode cX8_init 128 = .ok (.return_, 1) := by decide +kernel
def mX9_init : QM := (yX9_init, cX9_init, 1, none)
theorem qcm_X9_init : qx_cm mX9_init 0 := ⟨qx_tbOf (List.mem_of_getElem? (i := 811) (by decide +kernel)) (by decide +kernel), qx_tbOf (List.mem_of_getElem? (i := 79) (by decide +kernel)) (by decide +kernel), ⟨by decide, by decide, by decide +kernel⟩, by decide, by decide⟩
theorem qci_X9_init : Cond.instanceMethod yX9_init ∈ qx_tb := qx_tbOf (List.mem_of_getElem? (i := 810) (by decide +kernel)) (by decide +kernel)
theorem qyi_X9 : Cond.initialized RX9 ∈ qx_tb := qx_tbOf (List.mem_of_getElem? (i := 79) (by decide +kernel)) (by decide +kernel)
theorem qyn_X9 : Cond.instantiable RX9 21 ∈ qx_tb := qx_tbOf (List.mem_of_getElem? (i := 808) (by decide +kernel)) (by decide +kernel)
theorem dX9_init_0 : decode cX9_init 0 = .ok (.aload_n 0, 1) := by decide +kernel
theorem dX9_init_1 : decode cX9_init 1 = .ok (.invokespecial 1, 3) := by decide +kernel
theorem dX9_init_4 : decode cX9_init 4 = .ok (.aload_n 0, 1) := by decide +kernel
theorem dX9_init_5 : decode cX9_init 5 = .ok (.sipush 140, 3) := by decide +kernel
theorem dX9_init_8 : decode cX9_init 8 = .ok (.newarray .int, 2) := by decide +kernel
theorem dX9_init_10 : decode cX9_init 10 = .ok (.putfield 7, 3) := by decide +kernel
theorem dX9_init_13 : decode cX9_init 13 = .ok (.aload_n 0, 1) := by decide +kernel
theorem dX9_init_14 : decode cX9_init 14 = .ok (.bipush 60, 2) := by decide +kernel
theorem dX9_init_16 : decode cX9_init 16 = .ok (.putfield 13, 3) := by decide +kernel
theorem dX9_init_19 : decode cX9_init 19 = .ok (.aload_n 0, 1) := by decide +kernel
theorem dX9_init_20 : decode cX9_init 20 = .ok (.bipush 40, 2) := by decide +kernel
theorem dX9_init_22 : decode cX9_init 22 = .ok (.putfield 17, 3) := by decide +kernel
theorem dX9_init_25 : decode cX9_init 25 = .ok (.aload_n 0, 1) := by decide +kernel
theorem dX9_init_26 : decode cX9_init 26 = .ok (.sipush 160, 3) := by decide +kernel
theorem dX9_init_29 : decode cX9_init 29 = .ok (.newarray .boolean, 2) := by decide +kernel
theorem dX9_init_31 : decode cX9_init 31 = .ok (.putfield 20, 3) := by decide +kernel
theorem dX9_init_34 : decode cX9_init 34 = .ok (.aload_n 0, 1) := by decide +kernel
theorem dX9_init_35 : decode cX9_init 35 = .ok (.bipush 20, 2) := by decide +kernel
theorem dX9_init_37 : decode cX9_init 37 = .ok (.newarray .int, 2) := by decide +kernel
theorem dX9_init_39 : decode cX9_init 39 = .ok (.putfield 24, 3) := by decide +kernel
theorem dX9_init_42 : decode cX9_init 42 = .ok (.aload_n 0, 1) := by decide +kernel
theorem dX9_init_43 : decode cX9_init 43 = .ok (.bipush 6, 2) := by decide +kernel
theorem dX9_init_45 : decode cX9_init 45 = .ok (.newarray .int, 2) := by decide +kernel
theorem dX9_init_47 : decode cX9_init 47 = .ok (.putfield 27, 3) := by decide +kernel
theorem dX9_init_50 : decode cX9_init 50 = .ok (.aload_n 0, 1) := by decide +kernel
theorem dX9_init_51 : decode cX9_init 51 = .ok (.bipush 6, 2) := by decide +kernel
theorem dX9_init_53 : decode cX9_init 53 = .ok (.newarray .int, 2) := by decide +kernel
theorem dX9_init_55 : decode cX9_init 55 = .ok (.putfield 30, 3) := by decide +kernel
theorem dX9_init_58 : decode cX9_init 58 = .ok (.aload_n 0, 1) := by decide +kernel
theorem dX9_init_59 : decode cX9_init 59 = .ok (.bipush 80, 2) := by decide +kernel
theorem dX9_init_61 : decode cX9_init 61 = .ok (.newarray .int, 2) := by decide +kernel
theorem dX9_init_63 : decode cX9_init 63 = .ok (.putfield 33, 3) := by decide +kernel
theorem dX9_init_66 : decode cX9_init 66 = .ok (.aload_n 0, 1) := by decide +kernel
theorem dX9_init_67 : decode cX9_init 67 = .ok (.bipush 20, 2) := by decide +kernel
theorem dX9_init_69 : decode cX9_init 69 = .ok (.newarray .int, 2) := by decide +kernel
theorem dX9_init_71 : decode cX9_init 71 = .ok (.putfield 36, 3) := by decide +kernel
theorem dX9_init_74 : decode cX9_init 74 = .ok (.aload_n 0, 1) := by decide +kernel
theorem dX9_init_75 : decode cX9_init 75 = .ok (.bipush 80, 2) := by decide +kernel
theorem dX9_init_77 : decode cX9_init 77 = .ok (.newarray .int, 2) := by decide +kernel
theorem dX9_init_79 : decode cX9_init 79 = .ok (.putfield 39, 3) := by decide +kernel
theorem dX9_init_82 : decode cX9_init 82 = .ok (.aload_n 0, 1) := by decide +kernel
theorem dX9_init_83 : decode cX9_init 83 = .ok (.bipush 80, 2) := by decide +kernel
theorem dX9_init_85 : decode cX9_init 85 = .ok (.newarray .int, 2) := by decide +kernel
theorem dX9_init_87 : decode cX9_init 87 = .ok (.putfield 42, 3) := by decide +kernel
theorem dX9_init_90 : decode cX9_init 90 = .ok (.aload_n 0, 1) := by decide +kernel
theorem dX9_init_91 : decode cX9_init 91 = .ok (.iconst 5, 1) := by decide +kernel
theorem dX9_init_92 : decode cX9_init 92 = .ok (.newarray .int, 2) := by decide +kernel
theorem dX9_init_94 : decode cX9_init 94 = .ok (.putfield 45, 3) := by decide +kernel
theorem dX9_init_97 : decode cX9_init 97 = .ok (.return_, 1) := by decide +kernel
/-- Arrays.fill over one array of 20 ints -/
def qf_g (l : Launch) (D : va_G) (ci : Nat → ClassId) (b : Nat) (A : Nat → Prop) : QG := (l, D, qx_tys ci, fun σ => [(b, .inl (ci 0, 20, .inl (σ.1 12)))], A, fun _ _ => True)
def qy_m1 : Nat → Int32 := fun i => if i < 20 then -1 else 0
section
variable {l : Launch} {D : va_G} {ci : Nat → ClassId} {b : Nat} {A : Nat → Prop}
theorem qf_L5 {x1 : Int32} {x3 : Int32} : ∀ (n : Nat) (σ : QS) (x2 : Int32) (r : QS), qJ_fill_L5 x1 x3 n σ x2 = some r → qx_E (qf_g l D ci b A) 1 mJ7_fill_53178 (none, r) 5 [(0, .ref b), (1, .int x1), (2, .int x2), (3, .int x3)] [] σ := by
  intro n
  induction n with
  | zero =>
    intro σ x2 r h
    exact (qx_none h).elim
  | succ n ih =>
    intro σ x2 r h
    unfold qJ_fill_L5 at h
    refine qx_iload_n (pc := 5) 2 dJ7_fill_53178_5 rfl ?_
    refine qx_iload_n (pc := 6) 3 dJ7_fill_53178_6 rfl ?_
    refine qx_icmp_ge (pc := 7) 20 h dJ7_fill_53178_7 (by decide) (fun h => ?_) (fun h => ?_)
    · exact qx_vret h rfl dJ7_fill_53178_20
    · refine qx_aload_n (pc := 10) 0 dJ7_fill_53178_10 rfl ?_
      refine qx_iload_n (pc := 11) 2 dJ7_fill_53178_11 rfl ?_
      refine qx_iload_n (pc := 12) 1 dJ7_fill_53178_12 rfl ?_
      refine qx_iast (pc := 13) 0 0 (qx_up σ 12 x2.toNatClampNeg x1) h rfl rfl rfl dJ7_fill_53178_13 (fun h => ?_)
      refine qx_iinc (pc := 14) (lv' := [(2, .int (x2 + 1)), (0, .ref b), (1, .int x1), (3, .int x3)]) 2 (x2 + 1) dJ7_fill_53178_14 rfl rfl (Nat.le_of_ble_eq_true rfl) rfl ?_
      refine qx_goto (pc := 17) 5 dJ7_fill_53178_17 (by decide) ?_
      exact qx_sub [1, 2, 0, 3] rfl (ih _ _ _ h)
theorem qf_ok {σ : QS} {x1 : Int32} {r : QS} (h : qJ_fill σ x1 = some r) : qx_E (qf_g l D ci b A) 1 mJ7_fill_53178 (none, r) 0 [(0, .ref b), (1, .int x1)] [] σ := by
  unfold qJ_fill at h
  refine qx_iconst (pc := 0) 0 dJ7_fill_53178_0 (by decide) ?_
  refine qx_istore_n (pc := 1) (lv' := [(2, .int 0), (0, .ref b), (1, .int x1)]) dJ7_fill_53178_1 (Nat.le_of_ble_eq_true rfl) rfl ?_
  refine qx_aload_n (pc := 2) 1 dJ7_fill_53178_2 rfl ?_
  refine qx_alen (pc := 3) 0 0 20 rfl rfl rfl dJ7_fill_53178_3 ?_
  refine qx_istore_n (pc := 4) (lv' := [(3, .int 20), (2, .int 0), (0, .ref b), (1, .int x1)]) dJ7_fill_53178_4 (Nat.le_of_ble_eq_true rfl) rfl ?_
  exact qx_sub [2, 3, 1, 0] rfl (qf_L5 qx_F _ _ _ h)
theorem qf_fill : ∃ r : QS, qJ_fill (fun _ _ => 0, fun _ _ => 0) (-1) = some r ∧ r.1 12 = qy_m1 := by
  obtain ⟨r, h1, -, h3⟩ := qJ_fill_L (-1) qx_F 0 (fun _ _ => 0, fun _ _ => 0) (by omega) (by rw [qF_big]; omega)
  refine ⟨r, h1, ?_⟩
  funext i
  rw [h3 i]
  unfold qy_m1
  by_cases c : i < 20
  · rw [if_pos ⟨by omega, c⟩, if_pos c]
  · rw [if_neg (fun q => c q.2), if_neg c]
theorem qy_fill {M : QM} {d mc ms : Nat} {Qc : Array Value → State → Outcome → State → Prop} {cells slots pc index : Nat} {lv : List (Nat × Value)} {st : List Value} {ws wr : va_W} (isC isR : List Nat) (hsC : isC.filterMap (fun i => ws[i]?) = [(b, .inl (ci 0, 20, .inl (fun _ => 0)))]) (hmC : isC.map (fun i => ws[i]?) = ([(b, .inl (ci 0, 20, .inl (fun _ => 0)))] : va_W).map some) (hnC : va_nd isC = true) (hmR : isR.map (fun i => ws[i]?) = wr.map some) (hnR : va_nd isR = true) (hdis : ∀ i ∈ isR, i ∉ isC) (hW : (st.map fun v => v.category).sum ≤ 8) (hdd : 1 < d) (hcc : cells ≤ mc) (hss : slots ≤ ms) (hw : Cond.methodLink M.1.cls index yJ7_fill_53178 ∈ qx_tb) (hd : decode M.2.1 pc = .ok (.invokestatic index, 3))
    (k : qy_E l D ci M d mc ms A Qc cells slots (pc + 3) lv st (wr ++ [(b, .inl (ci 0, 20, .inl qy_m1))])) : qy_E l D ci M d mc ms A Qc cells slots pc lv (.int (-1) :: .ref b :: st) ws := by
  intro p e s m args below meth c H locs ls X hP hD hS hl
  have hts := X.2.2.2.2.2.2.1
  have hK := X.2.2.2.2.2.2.2.1
  have hPc := hP.sub isC hsC
  have hDc := hD.sub isC hnC hmC
  have hFc := va_free (wc := [(b, .inl (ci 0, 20, .inl (fun _ => 0)))]) hD hS X.2.2.2.2.2.2.2.2.2 isC hmC
  obtain ⟨r, h1, h2⟩ := qf_fill
  have h40 := qcm_J7_fill_53178.2.2.2.2
  have hE := qx_met (g := qf_g l D ci b (va_A [(b, .inl (ci 0, 20, .inl (fun _ => 0)))] H.size)) (M := mJ7_fill_53178) (d := 1) qcm_J7_fill_53178.2.2.2.1 [.ref b, .int (-1)] (Nat.le_of_ble_eq_true rfl) (qf_ok h1)
  have hr := va_runS (As := [.ref b, .int (-1)]) (rest := st) (n := 2) (Ts := qx_tb) (bytes := mJ7_fill_53178.2.1) (maxL := mJ7_fill_53178.2.2.1) (ret := mJ7_fill_53178.2.2.2) (cells := cells) (slots := slots) (R := qy_rm d mc ms) (e := e) (below := below) (meth := meth) (locs := locs) (H := H) (g := F0 m pc ls (.int (-1) :: .ref b :: st)) ⟨X.1, X.2.1, X.2.2.1, X.2.2.2.2.2.1, hts⟩ hE ⟨callB_of 2 hts (qx_goodIn qcm_J7_fill_53178.1) rfl rfl rfl (hts _ qcm_J7_fill_53178.2.1) (hts _ hw) qcm_J7_fill_53178.2.2.1 ⟨show 1 + 1 ≤ d from hdd, show 8 + (mJ7_fill_53178.2.2.1 + 11) + 60 * 1 ≤ 60 * d by omega⟩, hts _ qcs_J7_fill_53178⟩ ⟨qx_blind _, fun U hU hW => ⟨rfl, by rw [hU]; exact hPc, va_K.moved hW.alike hK, hDc.self, trivial, ⟨fun _ _ _ _ _ => trivial, fun _ _ _ _ _ => trivial, fun _ _ _ _ _ => trivial⟩⟩⟩ rfl rfl hl.1 rfl (lv_room hW) hd ⟨hcc, hss⟩
  intro T hT Xs
  obtain ⟨v, st₀, t, T', Lc, h0, X', hL, e1, e2, ⟨⟨hv, hP1, hD1⟩, hz, hk⟩, stp⟩ := hr T hT Xs
  cases hv
  rw [h0] at hz hk
  have hP1' : va_P D vwCl [(b, .inl (ci 0, 20, .inl qy_m1))] t.heap := by rw [← h2]; exact hP1
  have hD1' : va_D (va_A [(b, .inl (ci 0, 20, .inl (fun _ => 0)))] H.size) [(b, .inl (ci 0, 20, .inl qy_m1))] := by rw [← h2]; exact hD1
  obtain ⟨hP2, hD2⟩ := va_join hP hD isC isR hmC hmR hnR hdis hk hFc hP1' hD1'
  obtain ⟨t2, a1, b1⟩ := k p e s m args below meth c T'.heap (locs ++ Lc) ls X (by rw [e1]; exact hP2) hD2
    ⟨Nat.le_trans hS.1 (by rw [e1]; exact hz), fun q h1 h2 => by rw [e1, hk q (Nat.lt_of_lt_of_le h1 hS.1) (fun z => h2 (hFc q z))]; exact hS.2.1 q h1 h2, fun q hq => by
      rcases List.mem_append.mp hq with h | h
      · exact hS.2.2 q h
      · exact hFc _ (hL q h)⟩ hl T' rfl X'
  exact ⟨t2, stp t2 a1, b1⟩
end

theorem qyo_X4 : Cond.methodLink RX4 3 Lib.objectInit ∈ qx_tb := qx_tbOf (List.mem_of_getElem? (i := 98) (by decide +kernel)) (by decide +kernel)
set_option maxHeartbeats 4000000 in
set_option maxRecDepth 100000 in
theorem qk_X4 {l : Launch} {D : va_G} {ci : Nat → ClassId} (h : Nat) : qy_C l D ci mX4_init 1 2 140 [.ref h] [(h, .inr (4, [.int 0, .null, .null]))] (fun u => [(h, .inr (4, [.int 0, .ref (u 0), .ref (u 1)])), ((u 0), .inl (ci 0, 120, .inl (fun _ => 0))), ((u 1), .inl (ci 0, 20, .inl (fun _ => 0)))]) := by
  refine qy_met (by decide) rfl _ (Nat.le_of_ble_eq_true rfl) (fun sz => ?_)
  show qy_E l D ci mX4_init 1 2 140 _ _ 0 0 0 [(0, .ref h)] [] _
  refine qy_aload_n (pc := 0) 0 dX4_init_0 rfl ?_
  refine qy_obj (pc := 1) qyo_X4 (by decide) (Nat.le_of_ble_eq_true rfl) dX4_init_1 ?_
  refine qy_aload_n (pc := 4) 0 dX4_init_4 rfl ?_
  refine qy_iconst (pc := 5) 0 dX4_init_5 (by decide) ?_
  refine qy_put (pc := 6) 0 0 (ty := .int) ([(h, .inr (4, [.int 0, .null, .null]))]) tyX4 rfl rfl (Nat.le_of_ble_eq_true rfl) inX4 tyX4_ok nmX4 rfl (by decide +kernel) rfl rfl (Nat.le_of_ble_eq_true rfl) rfl qwf_X4_9 dX4_init_6 ?_
  refine qy_aload_n (pc := 9) 0 dX4_init_9 rfl ?_
  refine qy_bipush (pc := 10) 120 dX4_init_10 (by decide) ?_
  refine qy_newi (pc := 12) 120 rfl (Nat.le_of_ble_eq_true rfl) (Nat.le_of_ble_eq_true rfl) (Nat.le_of_ble_eq_true rfl) dX4_init_12 (fun q0 => ?_)
  refine qy_putF (pc := 14) 0 1 (ty := (.array .int)) ([(h, .inr (4, [.int 0, .ref q0, .null])), (q0, .inl (ci 0, 120, .inl (fun _ => 0)))]) tyX4 rfl rfl (Nat.le_of_ble_eq_true rfl) inX4 tyX4_ok nmX4 rfl rfl (by decide +kernel) rfl rfl (Nat.le_of_ble_eq_true rfl) rfl qwf_X4_15 dX4_init_14 ?_
  refine qy_aload_n (pc := 17) 0 dX4_init_17 rfl ?_
  refine qy_bipush (pc := 18) 20 dX4_init_18 (by decide) ?_
  refine qy_newi (pc := 20) 20 rfl (Nat.le_of_ble_eq_true rfl) (Nat.le_of_ble_eq_true rfl) (Nat.le_of_ble_eq_true rfl) dX4_init_20 (fun q1 => ?_)
  refine qy_putF (pc := 22) 0 2 (ty := (.array .int)) ([(h, .inr (4, [.int 0, .ref q0, .ref q1])), (q0, .inl (ci 0, 120, .inl (fun _ => 0))), (q1, .inl (ci 0, 20, .inl (fun _ => 0)))]) tyX4 rfl rfl (Nat.le_of_ble_eq_true rfl) inX4 tyX4_ok nmX4 rfl rfl (by decide +kernel) rfl rfl (Nat.le_of_ble_eq_true rfl) rfl qwf_X4_19 dX4_init_22 ?_
  exact qy_vret (fun k => [q0, q1].getD k 0) rfl rfl dX4_init_25
theorem qyo_X7 : Cond.methodLink RX7 3 Lib.objectInit ∈ qx_tb := qx_tbOf (List.mem_of_getElem? (i := 120) (by decide +kernel)) (by decide +kernel)
set_option maxHeartbeats 4000000 in
set_option maxRecDepth 100000 in
theorem qk_X7 {l : Launch} {D : va_G} {ci : Nat → ClassId} (h : Nat) : qy_C l D ci mX7_init 1 0 0 [.ref h] [(h, .inr (7, [.int 0, .int 0, .int 0, .int 0]))] (fun u => [(h, .inr (7, [.int 0, .int 0, .int 60, .int 40]))]) := by
  refine qy_met (by decide) rfl _ (Nat.le_of_ble_eq_true rfl) (fun sz => ?_)
  show qy_E l D ci mX7_init 1 0 0 _ _ 0 0 0 [(0, .ref h)] [] _
  refine qy_aload_n (pc := 0) 0 dX7_init_0 rfl ?_
  refine qy_obj (pc := 1) qyo_X7 (by decide) (Nat.le_of_ble_eq_true rfl) dX7_init_1 ?_
  refine qy_aload_n (pc := 4) 0 dX7_init_4 rfl ?_
  refine qy_iconst (pc := 5) 0 dX7_init_5 (by decide) ?_
  refine qy_put (pc := 6) 0 0 (ty := .int) ([(h, .inr (7, [.int 0, .int 0, .int 0, .int 0]))]) tyX7 rfl rfl (Nat.le_of_ble_eq_true rfl) inX7 tyX7_ok nmX7 rfl (by decide +kernel) rfl rfl (Nat.le_of_ble_eq_true rfl) rfl qwf_X7_9 dX7_init_6 ?_
  refine qy_aload_n (pc := 9) 0 dX7_init_9 rfl ?_
  refine qy_iconst (pc := 10) 0 dX7_init_10 (by decide) ?_
  refine qy_put (pc := 11) 0 1 (ty := .int) ([(h, .inr (7, [.int 0, .int 0, .int 0, .int 0]))]) tyX7 rfl rfl (Nat.le_of_ble_eq_true rfl) inX7 tyX7_ok nmX7 rfl (by decide +kernel) rfl rfl (Nat.le_of_ble_eq_true rfl) rfl qwf_X7_15 dX7_init_11 ?_
  refine qy_aload_n (pc := 14) 0 dX7_init_14 rfl ?_
  refine qy_bipush (pc := 15) 60 dX7_init_15 (by decide) ?_
  refine qy_put (pc := 17) 0 2 (ty := .int) ([(h, .inr (7, [.int 0, .int 0, .int 60, .int 0]))]) tyX7 rfl rfl (Nat.le_of_ble_eq_true rfl) inX7 tyX7_ok nmX7 rfl (by decide +kernel) rfl rfl (Nat.le_of_ble_eq_true rfl) rfl qwf_X7_18 dX7_init_17 ?_
  refine qy_aload_n (pc := 20) 0 dX7_init_20 rfl ?_
  refine qy_bipush (pc := 21) 40 dX7_init_21 (by decide) ?_
  refine qy_put (pc := 23) 0 3 (ty := .int) ([(h, .inr (7, [.int 0, .int 0, .int 60, .int 40]))]) tyX7 rfl rfl (Nat.le_of_ble_eq_true rfl) inX7 tyX7_ok nmX7 rfl (by decide +kernel) rfl rfl (Nat.le_of_ble_eq_true rfl) rfl qwf_X7_21 dX7_init_23 ?_
  exact qy_vret (fun _ => 0) rfl rfl dX7_init_26
theorem qyo_X3 : Cond.methodLink RX3 3 Lib.objectInit ∈ qx_tb := qx_tbOf (List.mem_of_getElem? (i := 144) (by decide +kernel)) (by decide +kernel)
set_option maxHeartbeats 4000000 in
set_option maxRecDepth 100000 in
theorem qk_X3 {l : Launch} {D : va_G} {ci : Nat → ClassId} (h x1 x2 : Nat) : qy_C l D ci mX3_init 1 5 800 [.ref h, .ref x1, .ref x2] [(h, .inr (3, [.null, .null, .null, .null, .null, .null, .null]))] (fun u => [(h, .inr (3, [.ref x1, .ref x2, .ref (u 0), .ref (u 1), .ref (u 2), .ref (u 3), .ref (u 4)])), ((u 0), .inl (ci 0, 160, .inl (fun _ => 0))), ((u 1), .inl (ci 0, 160, .inl (fun _ => 0))), ((u 2), .inl (ci 0, 160, .inl (fun _ => 0))), ((u 3), .inl (ci 0, 160, .inl (fun _ => 0))), ((u 4), .inl (ci 1, 160, .inl (fun _ => 0)))]) := by
  refine qy_met (by decide) rfl _ (Nat.le_of_ble_eq_true rfl) (fun sz => ?_)
  show qy_E l D ci mX3_init 1 5 800 _ _ 0 0 0 [(0, .ref h), (1, .ref x1), (2, .ref x2)] [] _
  refine qy_aload_n (pc := 0) 0 dX3_init_0 rfl ?_
  refine qy_obj (pc := 1) qyo_X3 (by decide) (Nat.le_of_ble_eq_true rfl) dX3_init_1 ?_
  refine qy_aload_n (pc := 4) 0 dX3_init_4 rfl ?_
  refine qy_aload_n (pc := 5) 1 dX3_init_5 rfl ?_
  refine qy_putF (pc := 6) 0 0 (ty := (.object "LabelPlacer$Points")) ([(h, .inr (3, [.ref x1, .null, .null, .null, .null, .null, .null]))]) tyX3 rfl rfl (Nat.le_of_ble_eq_true rfl) inX3 tyX3_ok nmX3 rfl rfl (by decide +kernel) rfl rfl (Nat.le_of_ble_eq_true rfl) rfl qwf_X3_9 dX3_init_6 ?_
  refine qy_aload_n (pc := 9) 0 dX3_init_9 rfl ?_
  refine qy_aload_n (pc := 10) 2 dX3_init_10 rfl ?_
  refine qy_putF (pc := 11) 0 1 (ty := (.object "LabelPlacer$Window")) ([(h, .inr (3, [.ref x1, .ref x2, .null, .null, .null, .null, .null]))]) tyX3 rfl rfl (Nat.le_of_ble_eq_true rfl) inX3 tyX3_ok nmX3 rfl rfl (by decide +kernel) rfl rfl (Nat.le_of_ble_eq_true rfl) rfl qwf_X3_15 dX3_init_11 ?_
  refine qy_aload_n (pc := 14) 0 dX3_init_14 rfl ?_
  refine qy_sipush (pc := 15) 160 dX3_init_15 (by decide) ?_
  refine qy_newi (pc := 18) 160 rfl (Nat.le_of_ble_eq_true rfl) (Nat.le_of_ble_eq_true rfl) (Nat.le_of_ble_eq_true rfl) dX3_init_18 (fun q0 => ?_)
  refine qy_putF (pc := 20) 0 2 (ty := (.array .int)) ([(h, .inr (3, [.ref x1, .ref x2, .ref q0, .null, .null, .null, .null])), (q0, .inl (ci 0, 160, .inl (fun _ => 0)))]) tyX3 rfl rfl (Nat.le_of_ble_eq_true rfl) inX3 tyX3_ok nmX3 rfl rfl (by decide +kernel) rfl rfl (Nat.le_of_ble_eq_true rfl) rfl qwf_X3_19 dX3_init_20 ?_
  refine qy_aload_n (pc := 23) 0 dX3_init_23 rfl ?_
  refine qy_sipush (pc := 24) 160 dX3_init_24 (by decide) ?_
  refine qy_newi (pc := 27) 160 rfl (Nat.le_of_ble_eq_true rfl) (Nat.le_of_ble_eq_true rfl) (Nat.le_of_ble_eq_true rfl) dX3_init_27 (fun q1 => ?_)
  refine qy_putF (pc := 29) 0 3 (ty := (.array .int)) ([(h, .inr (3, [.ref x1, .ref x2, .ref q0, .ref q1, .null, .null, .null])), (q0, .inl (ci 0, 160, .inl (fun _ => 0))), (q1, .inl (ci 0, 160, .inl (fun _ => 0)))]) tyX3 rfl rfl (Nat.le_of_ble_eq_true rfl) inX3 tyX3_ok nmX3 rfl rfl (by decide +kernel) rfl rfl (Nat.le_of_ble_eq_true rfl) rfl qwf_X3_23 dX3_init_29 ?_
  refine qy_aload_n (pc := 32) 0 dX3_init_32 rfl ?_
  refine qy_sipush (pc := 33) 160 dX3_init_33 (by decide) ?_
  refine qy_newi (pc := 36) 160 rfl (Nat.le_of_ble_eq_true rfl) (Nat.le_of_ble_eq_true rfl) (Nat.le_of_ble_eq_true rfl) dX3_init_36 (fun q2 => ?_)
  refine qy_putF (pc := 38) 0 4 (ty := (.array .int)) ([(h, .inr (3, [.ref x1, .ref x2, .ref q0, .ref q1, .ref q2, .null, .null])), (q0, .inl (ci 0, 160, .inl (fun _ => 0))), (q1, .inl (ci 0, 160, .inl (fun _ => 0))), (q2, .inl (ci 0, 160, .inl (fun _ => 0)))]) tyX3 rfl rfl (Nat.le_of_ble_eq_true rfl) inX3 tyX3_ok nmX3 rfl rfl (by decide +kernel) rfl rfl (Nat.le_of_ble_eq_true rfl) rfl qwf_X3_26 dX3_init_38 ?_
  refine qy_aload_n (pc := 41) 0 dX3_init_41 rfl ?_
  refine qy_sipush (pc := 42) 160 dX3_init_42 (by decide) ?_
  refine qy_newi (pc := 45) 160 rfl (Nat.le_of_ble_eq_true rfl) (Nat.le_of_ble_eq_true rfl) (Nat.le_of_ble_eq_true rfl) dX3_init_45 (fun q3 => ?_)
  refine qy_putF (pc := 47) 0 5 (ty := (.array .int)) ([(h, .inr (3, [.ref x1, .ref x2, .ref q0, .ref q1, .ref q2, .ref q3, .null])), (q0, .inl (ci 0, 160, .inl (fun _ => 0))), (q1, .inl (ci 0, 160, .inl (fun _ => 0))), (q2, .inl (ci 0, 160, .inl (fun _ => 0))), (q3, .inl (ci 0, 160, .inl (fun _ => 0)))]) tyX3 rfl rfl (Nat.le_of_ble_eq_true rfl) inX3 tyX3_ok nmX3 rfl rfl (by decide +kernel) rfl rfl (Nat.le_of_ble_eq_true rfl) rfl qwf_X3_29 dX3_init_47 ?_
  refine qy_aload_n (pc := 50) 0 dX3_init_50 rfl ?_
  refine qy_sipush (pc := 51) 160 dX3_init_51 (by decide) ?_
  refine qy_newz (pc := 54) 160 rfl (Nat.le_of_ble_eq_true rfl) (Nat.le_of_ble_eq_true rfl) (Nat.le_of_ble_eq_true rfl) dX3_init_54 (fun q4 => ?_)
  refine qy_putF (pc := 56) 0 6 (ty := (.array .boolean)) ([(h, .inr (3, [.ref x1, .ref x2, .ref q0, .ref q1, .ref q2, .ref q3, .ref q4])), (q0, .inl (ci 0, 160, .inl (fun _ => 0))), (q1, .inl (ci 0, 160, .inl (fun _ => 0))), (q2, .inl (ci 0, 160, .inl (fun _ => 0))), (q3, .inl (ci 0, 160, .inl (fun _ => 0))), (q4, .inl (ci 1, 160, .inl (fun _ => 0)))]) tyX3 rfl rfl (Nat.le_of_ble_eq_true rfl) inX3 tyX3_ok nmX3 rfl rfl (by decide +kernel) rfl rfl (Nat.le_of_ble_eq_true rfl) rfl qwf_X3_32 dX3_init_56 ?_
  exact qy_vret (fun k => [q0, q1, q2, q3, q4].getD k 0) rfl rfl dX3_init_59
theorem qyo_X1 : Cond.methodLink RX1 3 Lib.objectInit ∈ qx_tb := qx_tbOf (List.mem_of_getElem? (i := 173) (by decide +kernel)) (by decide +kernel)
set_option maxHeartbeats 4000000 in
set_option maxRecDepth 100000 in
theorem qk_X1 {l : Launch} {D : va_G} {ci : Nat → ClassId} (h x1 x2 : Nat) : qy_C l D ci mX1_init 2 1 20 [.ref h, .ref x1, .ref x2] [(h, .inr (1, [.null, .null, .null]))] (fun u => [(h, .inr (1, [.ref x1, .ref x2, .ref (u 0)])), ((u 0), .inl (ci 0, 20, .inl (qy_m1)))]) := by
  refine qy_met (by decide) rfl _ (Nat.le_of_ble_eq_true rfl) (fun sz => ?_)
  show qy_E l D ci mX1_init 2 1 20 _ _ 0 0 0 [(0, .ref h), (1, .ref x1), (2, .ref x2)] [] _
  refine qy_aload_n (pc := 0) 0 dX1_init_0 rfl ?_
  refine qy_obj (pc := 1) qyo_X1 (by decide) (Nat.le_of_ble_eq_true rfl) dX1_init_1 ?_
  refine qy_aload_n (pc := 4) 0 dX1_init_4 rfl ?_
  refine qy_aload_n (pc := 5) 1 dX1_init_5 rfl ?_
  refine qy_putF (pc := 6) 0 0 (ty := (.object "LabelPlacer$Points")) ([(h, .inr (1, [.ref x1, .null, .null]))]) tyX1 rfl rfl (Nat.le_of_ble_eq_true rfl) inX1 tyX1_ok nmX1 rfl rfl (by decide +kernel) rfl rfl (Nat.le_of_ble_eq_true rfl) rfl qwf_X1_9 dX1_init_6 ?_
  refine qy_aload_n (pc := 9) 0 dX1_init_9 rfl ?_
  refine qy_aload_n (pc := 10) 2 dX1_init_10 rfl ?_
  refine qy_putF (pc := 11) 0 1 (ty := (.object "LabelPlacer$Places")) ([(h, .inr (1, [.ref x1, .ref x2, .null]))]) tyX1 rfl rfl (Nat.le_of_ble_eq_true rfl) inX1 tyX1_ok nmX1 rfl rfl (by decide +kernel) rfl rfl (Nat.le_of_ble_eq_true rfl) rfl qwf_X1_15 dX1_init_11 ?_
  refine qy_aload_n (pc := 14) 0 dX1_init_14 rfl ?_
  refine qy_bipush (pc := 15) 20 dX1_init_15 (by decide) ?_
  refine qy_newi (pc := 17) 20 rfl (Nat.le_of_ble_eq_true rfl) (Nat.le_of_ble_eq_true rfl) (Nat.le_of_ble_eq_true rfl) dX1_init_17 (fun q0 => ?_)
  refine qy_putF (pc := 19) 0 2 (ty := (.array .int)) ([(h, .inr (1, [.ref x1, .ref x2, .ref q0])), (q0, .inl (ci 0, 20, .inl (fun _ => 0)))]) tyX1 rfl rfl (Nat.le_of_ble_eq_true rfl) inX1 tyX1_ok nmX1 rfl rfl (by decide +kernel) rfl rfl (Nat.le_of_ble_eq_true rfl) rfl qwf_X1_19 dX1_init_19 ?_
  refine qy_aload_n (pc := 22) 0 dX1_init_22 rfl ?_
  refine qy_get (pc := 23) 0 2 rfl rfl (Nat.le_of_ble_eq_true rfl) rfl inX1 qwf_X1_19 dX1_init_23 ?_
  refine qy_iconst (pc := 26) (-1) dX1_init_26 (by decide) ?_
  refine qy_fill (pc := 27) (b := q0) [1] [0] (wr := [(h, .inr (1, [.ref x1, .ref x2, .ref q0]))]) rfl rfl rfl rfl rfl (by decide) (by decide) (by decide) (Nat.le_of_ble_eq_true rfl) (Nat.le_of_ble_eq_true rfl) qwm_X1_23 dX1_init_27 ?_
  exact qy_vret (fun k => [q0].getD k 0) rfl rfl dX1_init_30
theorem qyo_X5 : Cond.methodLink RX5 3 Lib.objectInit ∈ qx_tb := qx_tbOf (List.mem_of_getElem? (i := 192) (by decide +kernel)) (by decide +kernel)
set_option maxHeartbeats 4000000 in
set_option maxRecDepth 100000 in
theorem qk_X5 {l : Launch} {D : va_G} {ci : Nat → ClassId} (h x1 x2 : Nat) : qy_C l D ci mX5_init 1 2 54 [.ref h, .ref x1, .ref x2] [(h, .inr (5, [.null, .null, .null, .null, .int 0]))] (fun u => [(h, .inr (5, [.ref x1, .ref x2, .ref (u 0), .ref (u 1), .int 0])), ((u 0), .inl (ci 0, 6, .inl (fun _ => 0))), ((u 1), .inl (ci 3, 48, .inr (.inl (fun _ => 0))))]) := by
  refine qy_met (by decide) rfl _ (Nat.le_of_ble_eq_true rfl) (fun sz => ?_)
  show qy_E l D ci mX5_init 1 2 54 _ _ 0 0 0 [(0, .ref h), (1, .ref x1), (2, .ref x2)] [] _
  refine qy_aload_n (pc := 0) 0 dX5_init_0 rfl ?_
  refine qy_obj (pc := 1) qyo_X5 (by decide) (Nat.le_of_ble_eq_true rfl) dX5_init_1 ?_
  refine qy_aload_n (pc := 4) 0 dX5_init_4 rfl ?_
  refine qy_aload_n (pc := 5) 1 dX5_init_5 rfl ?_
  refine qy_putF (pc := 6) 0 0 (ty := (.object "LabelPlacer$Points")) ([(h, .inr (5, [.ref x1, .null, .null, .null, .int 0]))]) tyX5 rfl rfl (Nat.le_of_ble_eq_true rfl) inX5 tyX5_ok nmX5 rfl rfl (by decide +kernel) rfl rfl (Nat.le_of_ble_eq_true rfl) rfl qwf_X5_9 dX5_init_6 ?_
  refine qy_aload_n (pc := 9) 0 dX5_init_9 rfl ?_
  refine qy_aload_n (pc := 10) 2 dX5_init_10 rfl ?_
  refine qy_putF (pc := 11) 0 1 (ty := (.object "LabelPlacer$Places")) ([(h, .inr (5, [.ref x1, .ref x2, .null, .null, .int 0]))]) tyX5 rfl rfl (Nat.le_of_ble_eq_true rfl) inX5 tyX5_ok nmX5 rfl rfl (by decide +kernel) rfl rfl (Nat.le_of_ble_eq_true rfl) rfl qwf_X5_15 dX5_init_11 ?_
  refine qy_aload_n (pc := 14) 0 dX5_init_14 rfl ?_
  refine qy_bipush (pc := 15) 6 dX5_init_15 (by decide) ?_
  refine qy_newi (pc := 17) 6 rfl (Nat.le_of_ble_eq_true rfl) (Nat.le_of_ble_eq_true rfl) (Nat.le_of_ble_eq_true rfl) dX5_init_17 (fun q0 => ?_)
  refine qy_putF (pc := 19) 0 2 (ty := (.array .int)) ([(h, .inr (5, [.ref x1, .ref x2, .ref q0, .null, .int 0])), (q0, .inl (ci 0, 6, .inl (fun _ => 0)))]) tyX5 rfl rfl (Nat.le_of_ble_eq_true rfl) inX5 tyX5_ok nmX5 rfl rfl (by decide +kernel) rfl rfl (Nat.le_of_ble_eq_true rfl) rfl qwf_X5_19 dX5_init_19 ?_
  refine qy_aload_n (pc := 22) 0 dX5_init_22 rfl ?_
  refine qy_bipush (pc := 23) 48 dX5_init_23 (by decide) ?_
  refine qy_newj (pc := 25) 48 rfl (Nat.le_of_ble_eq_true rfl) (Nat.le_of_ble_eq_true rfl) (Nat.le_of_ble_eq_true rfl) dX5_init_25 (fun q1 => ?_)
  refine qy_putF (pc := 27) 0 3 (ty := (.array .long)) ([(h, .inr (5, [.ref x1, .ref x2, .ref q0, .ref q1, .int 0])), (q0, .inl (ci 0, 6, .inl (fun _ => 0))), (q1, .inl (ci 3, 48, .inr (.inl (fun _ => 0))))]) tyX5 rfl rfl (Nat.le_of_ble_eq_true rfl) inX5 tyX5_ok nmX5 rfl rfl (by decide +kernel) rfl rfl (Nat.le_of_ble_eq_true rfl) rfl qwf_X5_23 dX5_init_27 ?_
  refine qy_aload_n (pc := 30) 0 dX5_init_30 rfl ?_
  refine qy_iconst (pc := 31) 0 dX5_init_31 (by decide) ?_
  refine qy_put (pc := 32) 0 4 (ty := .int) ([(h, .inr (5, [.ref x1, .ref x2, .ref q0, .ref q1, .int 0])), (q0, .inl (ci 0, 6, .inl (fun _ => 0))), (q1, .inl (ci 3, 48, .inr (.inl (fun _ => 0))))]) tyX5 rfl rfl (Nat.le_of_ble_eq_true rfl) inX5 tyX5_ok nmX5 rfl (by decide +kernel) rfl rfl (Nat.le_of_ble_eq_true rfl) rfl qwf_X5_27 dX5_init_32 ?_
  exact qy_vret (fun k => [q0, q1].getD k 0) rfl rfl dX5_init_35
theorem qyo_X2 : Cond.methodLink RX2 3 Lib.objectInit ∈ qx_tb := qx_tbOf (List.mem_of_getElem? (i := 215) (by decide +kernel)) (by decide +kernel)
set_option maxHeartbeats 4000000 in
set_option maxRecDepth 100000 in
theorem qk_X2 {l : Launch} {D : va_G} {ci : Nat → ClassId} (h x1 x2 x3 : Nat) : qy_C l D ci mX2_init 1 2 100 [.ref h, .ref x1, .ref x2, .ref x3] [(h, .inr (2, [.int 0, .null, .null, .null, .null, .null]))] (fun u => [(h, .inr (2, [.int 0, .ref x1, .ref x2, .ref x3, .ref (u 0), .ref (u 1)])), ((u 0), .inl (ci 0, 80, .inl (fun _ => 0))), ((u 1), .inl (ci 0, 20, .inl (fun _ => 0)))]) := by
  refine qy_met (by decide) rfl _ (Nat.le_of_ble_eq_true rfl) (fun sz => ?_)
  show qy_E l D ci mX2_init 1 2 100 _ _ 0 0 0 [(0, .ref h), (1, .ref x1), (2, .ref x2), (3, .ref x3)] [] _
  refine qy_aload_n (pc := 0) 0 dX2_init_0 rfl ?_
  refine qy_obj (pc := 1) qyo_X2 (by decide) (Nat.le_of_ble_eq_true rfl) dX2_init_1 ?_
  refine qy_aload_n (pc := 4) 0 dX2_init_4 rfl ?_
  refine qy_aload_n (pc := 5) 1 dX2_init_5 rfl ?_
  refine qy_putF (pc := 6) 0 1 (ty := (.object "LabelPlacer$Points")) ([(h, .inr (2, [.int 0, .ref x1, .null, .null, .null, .null]))]) tyX2 rfl rfl (Nat.le_of_ble_eq_true rfl) inX2 tyX2_ok nmX2 rfl rfl (by decide +kernel) rfl rfl (Nat.le_of_ble_eq_true rfl) rfl qwf_X2_9 dX2_init_6 ?_
  refine qy_aload_n (pc := 9) 0 dX2_init_9 rfl ?_
  refine qy_aload_n (pc := 10) 2 dX2_init_10 rfl ?_
  refine qy_putF (pc := 11) 0 2 (ty := (.object "LabelPlacer$Window")) ([(h, .inr (2, [.int 0, .ref x1, .ref x2, .null, .null, .null]))]) tyX2 rfl rfl (Nat.le_of_ble_eq_true rfl) inX2 tyX2_ok nmX2 rfl rfl (by decide +kernel) rfl rfl (Nat.le_of_ble_eq_true rfl) rfl qwf_X2_15 dX2_init_11 ?_
  refine qy_aload_n (pc := 14) 0 dX2_init_14 rfl ?_
  refine qy_aload_n (pc := 15) 3 dX2_init_15 rfl ?_
  refine qy_putF (pc := 16) 0 3 (ty := (.object "LabelPlacer$Labels")) ([(h, .inr (2, [.int 0, .ref x1, .ref x2, .ref x3, .null, .null]))]) tyX2 rfl rfl (Nat.le_of_ble_eq_true rfl) inX2 tyX2_ok nmX2 rfl rfl (by decide +kernel) rfl rfl (Nat.le_of_ble_eq_true rfl) rfl qwf_X2_19 dX2_init_16 ?_
  refine qy_aload_n (pc := 19) 0 dX2_init_19 rfl ?_
  refine qy_iconst (pc := 20) 0 dX2_init_20 (by decide) ?_
  refine qy_put (pc := 21) 0 0 (ty := .int) ([(h, .inr (2, [.int 0, .ref x1, .ref x2, .ref x3, .null, .null]))]) tyX2 rfl rfl (Nat.le_of_ble_eq_true rfl) inX2 tyX2_ok nmX2 rfl (by decide +kernel) rfl rfl (Nat.le_of_ble_eq_true rfl) rfl qwf_X2_23 dX2_init_21 ?_
  refine qy_aload_n (pc := 24) 0 dX2_init_24 rfl ?_
  refine qy_bipush (pc := 25) 80 dX2_init_25 (by decide) ?_
  refine qy_newi (pc := 27) 80 rfl (Nat.le_of_ble_eq_true rfl) (Nat.le_of_ble_eq_true rfl) (Nat.le_of_ble_eq_true rfl) dX2_init_27 (fun q0 => ?_)
  refine qy_putF (pc := 29) 0 4 (ty := (.array .int)) ([(h, .inr (2, [.int 0, .ref x1, .ref x2, .ref x3, .ref q0, .null])), (q0, .inl (ci 0, 80, .inl (fun _ => 0)))]) tyX2 rfl rfl (Nat.le_of_ble_eq_true rfl) inX2 tyX2_ok nmX2 rfl rfl (by decide +kernel) rfl rfl (Nat.le_of_ble_eq_true rfl) rfl qwf_X2_27 dX2_init_29 ?_
  refine qy_aload_n (pc := 32) 0 dX2_init_32 rfl ?_
  refine qy_bipush (pc := 33) 20 dX2_init_33 (by decide) ?_
  refine qy_newi (pc := 35) 20 rfl (Nat.le_of_ble_eq_true rfl) (Nat.le_of_ble_eq_true rfl) (Nat.le_of_ble_eq_true rfl) dX2_init_35 (fun q1 => ?_)
  refine qy_putF (pc := 37) 0 5 (ty := (.array .int)) ([(h, .inr (2, [.int 0, .ref x1, .ref x2, .ref x3, .ref q0, .ref q1])), (q0, .inl (ci 0, 80, .inl (fun _ => 0))), (q1, .inl (ci 0, 20, .inl (fun _ => 0)))]) tyX2 rfl rfl (Nat.le_of_ble_eq_true rfl) inX2 tyX2_ok nmX2 rfl rfl (by decide +kernel) rfl rfl (Nat.le_of_ble_eq_true rfl) rfl qwf_X2_31 dX2_init_37 ?_
  exact qy_vret (fun k => [q0, q1].getD k 0) rfl rfl dX2_init_40
theorem qyo_X6 : Cond.methodLink RX6 3 Lib.objectInit ∈ qx_tb := qx_tbOf (List.mem_of_getElem? (i := 241) (by decide +kernel)) (by decide +kernel)
set_option maxHeartbeats 4000000 in
set_option maxRecDepth 100000 in
theorem qk_X6 {l : Launch} {D : va_G} {ci : Nat → ClassId} (h : Nat) : qy_C l D ci mX6_init 1 1 80 [.ref h] [(h, .inr (6, [.int 0, .null]))] (fun u => [(h, .inr (6, [.int 0, .ref (u 0)])), ((u 0), .inl (ci 2, 80, .inl (fun _ => 0)))]) := by
  refine qy_met (by decide) rfl _ (Nat.le_of_ble_eq_true rfl) (fun sz => ?_)
  show qy_E l D ci mX6_init 1 1 80 _ _ 0 0 0 [(0, .ref h)] [] _
  refine qy_aload_n (pc := 0) 0 dX6_init_0 rfl ?_
  refine qy_obj (pc := 1) qyo_X6 (by decide) (Nat.le_of_ble_eq_true rfl) dX6_init_1 ?_
  refine qy_aload_n (pc := 4) 0 dX6_init_4 rfl ?_
  refine qy_iconst (pc := 5) 0 dX6_init_5 (by decide) ?_
  refine qy_put (pc := 6) 0 0 (ty := .int) ([(h, .inr (6, [.int 0, .null]))]) tyX6 rfl rfl (Nat.le_of_ble_eq_true rfl) inX6 tyX6_ok nmX6 rfl (by decide +kernel) rfl rfl (Nat.le_of_ble_eq_true rfl) rfl qwf_X6_9 dX6_init_6 ?_
  refine qy_aload_n (pc := 9) 0 dX6_init_9 rfl ?_
  refine qy_bipush (pc := 10) 80 dX6_init_10 (by decide) ?_
  refine qy_newb (pc := 12) 80 rfl (Nat.le_of_ble_eq_true rfl) (Nat.le_of_ble_eq_true rfl) (Nat.le_of_ble_eq_true rfl) dX6_init_12 (fun q0 => ?_)
  refine qy_putF (pc := 14) 0 1 (ty := (.array .byte)) ([(h, .inr (6, [.int 0, .ref q0])), (q0, .inl (ci 2, 80, .inl (fun _ => 0)))]) tyX6 rfl rfl (Nat.le_of_ble_eq_true rfl) inX6 tyX6_ok nmX6 rfl rfl (by decide +kernel) rfl rfl (Nat.le_of_ble_eq_true rfl) rfl qwf_X6_15 dX6_init_14 ?_
  exact qy_vret (fun k => [q0].getD k 0) rfl rfl dX6_init_17
theorem qyo_X0 : Cond.methodLink RX0 3 Lib.objectInit ∈ qx_tb := qx_tbOf (List.mem_of_getElem? (i := 257) (by decide +kernel)) (by decide +kernel)
set_option maxHeartbeats 4000000 in
set_option maxRecDepth 100000 in
theorem qk_X0 {l : Launch} {D : va_G} {ci : Nat → ClassId} (h : Nat) : qy_C l D ci mX0_init 1 1 5 [.ref h] [(h, .inr (0, [.int 0, .null, .int 0]))] (fun u => [(h, .inr (0, [.int (-1), .ref (u 0), .int 0])), ((u 0), .inl (ci 0, 5, .inl (fun _ => 0)))]) := by
  refine qy_met (by decide) rfl _ (Nat.le_of_ble_eq_true rfl) (fun sz => ?_)
  show qy_E l D ci mX0_init 1 1 5 _ _ 0 0 0 [(0, .ref h)] [] _
  refine qy_aload_n (pc := 0) 0 dX0_init_0 rfl ?_
  refine qy_obj (pc := 1) qyo_X0 (by decide) (Nat.le_of_ble_eq_true rfl) dX0_init_1 ?_
  refine qy_aload_n (pc := 4) 0 dX0_init_4 rfl ?_
  refine qy_iconst (pc := 5) (-1) dX0_init_5 (by decide) ?_
  refine qy_put (pc := 6) 0 0 (ty := .int) ([(h, .inr (0, [.int (-1), .null, .int 0]))]) tyX0 rfl rfl (Nat.le_of_ble_eq_true rfl) inX0 tyX0_ok nmX0 rfl (by decide +kernel) rfl rfl (Nat.le_of_ble_eq_true rfl) rfl qwf_X0_9 dX0_init_6 ?_
  refine qy_aload_n (pc := 9) 0 dX0_init_9 rfl ?_
  refine qy_iconst (pc := 10) 5 dX0_init_10 (by decide) ?_
  refine qy_newi (pc := 11) 5 rfl (Nat.le_of_ble_eq_true rfl) (Nat.le_of_ble_eq_true rfl) (Nat.le_of_ble_eq_true rfl) dX0_init_11 (fun q0 => ?_)
  refine qy_putF (pc := 13) 0 1 (ty := (.array .int)) ([(h, .inr (0, [.int (-1), .ref q0, .int 0])), (q0, .inl (ci 0, 5, .inl (fun _ => 0)))]) tyX0 rfl rfl (Nat.le_of_ble_eq_true rfl) inX0 tyX0_ok nmX0 rfl rfl (by decide +kernel) rfl rfl (Nat.le_of_ble_eq_true rfl) rfl qwf_X0_15 dX0_init_13 ?_
  refine qy_aload_n (pc := 16) 0 dX0_init_16 rfl ?_
  refine qy_iconst (pc := 17) 0 dX0_init_17 (by decide) ?_
  refine qy_put (pc := 18) 0 2 (ty := .int) ([(h, .inr (0, [.int (-1), .ref q0, .int 0])), (q0, .inl (ci 0, 5, .inl (fun _ => 0)))]) tyX0 rfl rfl (Nat.le_of_ble_eq_true rfl) inX0 tyX0_ok nmX0 rfl (by decide +kernel) rfl rfl (Nat.le_of_ble_eq_true rfl) rfl qwf_X0_19 dX0_init_18 ?_
  exact qy_vret (fun k => [q0].getD k 0) rfl rfl dX0_init_21
def qy_cons (h : Nat) (u : Nat → Nat) : Nat → Nat
  | 0 => h
  | k + 1 => u k
def qy_s0 : QS := (fun c => match c with | 4 => (fun i => match i with | 2 => 60 | 3 => 40 | _ => 0) | 12 => qy_m1 | 21 => (fun i => match i with | 0 => -1 | _ => 0) | _ => fun _ => 0, fun _ _ => 0)
def qy_t0 : QS := (fun c => match c with | 0 => (fun i => match i with | 4 => 60 | 5 => 40 | _ => 0) | _ => fun _ => 0, fun _ _ => 0)
theorem qyo_X8 : Cond.methodLink RX8 3 Lib.objectInit ∈ qx_tb := qx_tbOf (List.mem_of_getElem? (i := 90) (by decide +kernel)) (by decide +kernel)
theorem qyk_X8_9 : Cond.classLink RX8 9 RX4 ∈ qx_tb := qx_tbOf (List.mem_of_getElem? (i := 93) (by decide +kernel)) (by decide +kernel)
theorem qyl_X8_11 : Cond.methodLink RX8 11 yX4_init ∈ qx_tb := qx_tbOf (List.mem_of_getElem? (i := 95) (by decide +kernel)) (by decide +kernel)
theorem qyk_X8_16 : Cond.classLink RX8 16 RX7 ∈ qx_tb := qx_tbOf (List.mem_of_getElem? (i := 115) (by decide +kernel)) (by decide +kernel)
theorem qyl_X8_18 : Cond.methodLink RX8 18 yX7_init ∈ qx_tb := qx_tbOf (List.mem_of_getElem? (i := 117) (by decide +kernel)) (by decide +kernel)
theorem qyk_X8_23 : Cond.classLink RX8 23 RX3 ∈ qx_tb := qx_tbOf (List.mem_of_getElem? (i := 139) (by decide +kernel)) (by decide +kernel)
theorem qyl_X8_25 : Cond.methodLink RX8 25 yX3_init ∈ qx_tb := qx_tbOf (List.mem_of_getElem? (i := 141) (by decide +kernel)) (by decide +kernel)
theorem qyk_X8_32 : Cond.classLink RX8 32 RX1 ∈ qx_tb := qx_tbOf (List.mem_of_getElem? (i := 168) (by decide +kernel)) (by decide +kernel)
theorem qyl_X8_34 : Cond.methodLink RX8 34 yX1_init ∈ qx_tb := qx_tbOf (List.mem_of_getElem? (i := 170) (by decide +kernel)) (by decide +kernel)
theorem qyk_X8_41 : Cond.classLink RX8 41 RX5 ∈ qx_tb := qx_tbOf (List.mem_of_getElem? (i := 187) (by decide +kernel)) (by decide +kernel)
theorem qyl_X8_43 : Cond.methodLink RX8 43 yX5_init ∈ qx_tb := qx_tbOf (List.mem_of_getElem? (i := 189) (by decide +kernel)) (by decide +kernel)
theorem qyk_X8_48 : Cond.classLink RX8 48 RX2 ∈ qx_tb := qx_tbOf (List.mem_of_getElem? (i := 210) (by decide +kernel)) (by decide +kernel)
theorem qyl_X8_50 : Cond.methodLink RX8 50 yX2_init ∈ qx_tb := qx_tbOf (List.mem_of_getElem? (i := 212) (by decide +kernel)) (by decide +kernel)
theorem qyk_X8_57 : Cond.classLink RX8 57 RX6 ∈ qx_tb := qx_tbOf (List.mem_of_getElem? (i := 236) (by decide +kernel)) (by decide +kernel)
theorem qyl_X8_59 : Cond.methodLink RX8 59 yX6_init ∈ qx_tb := qx_tbOf (List.mem_of_getElem? (i := 238) (by decide +kernel)) (by decide +kernel)
theorem qyk_X8_64 : Cond.classLink RX8 64 RX0 ∈ qx_tb := qx_tbOf (List.mem_of_getElem? (i := 252) (by decide +kernel)) (by decide +kernel)
theorem qyl_X8_66 : Cond.methodLink RX8 66 yX0_init ∈ qx_tb := qx_tbOf (List.mem_of_getElem? (i := 254) (by decide +kernel)) (by decide +kernel)
set_option maxHeartbeats 4000000 in
set_option maxRecDepth 100000 in
theorem qk_X8 {l : Launch} {D : va_G} {ci : Nat → ClassId} (h : Nat) : qy_C l D ci mX8_init 3 22 1232 [.ref h] [(h, .inr (8, [.null, .null, .null, .null, .null, .null, .null, .null]))] (fun u => qx_wC ci (qy_cons h u) qy_s0) := by
  refine qy_met (by decide) rfl _ (Nat.le_of_ble_eq_true rfl) (fun sz => ?_)
  show qy_E l D ci mX8_init 3 22 1232 _ _ 0 0 0 [(0, .ref h)] [] _
  refine qy_aload_n (pc := 0) 0 dX8_init_0 rfl ?_
  refine qy_obj (pc := 1) qyo_X8 (by decide) (Nat.le_of_ble_eq_true rfl) dX8_init_1 ?_
  refine qy_aload_n (pc := 4) 0 dX8_init_4 rfl ?_
  refine qy_new (pc := 5) (cx := 4) (fs := [.int 0, .null, .null]) tyX4 tyX4_ok inX4 qyk_X8_9 qyn_X4 qyi_X4 rfl (fun j hj => by rcases (show j = 0 ∨ j = 1 ∨ j = 2 by omega) with rfl | rfl | rfl <;> rfl) (Nat.le_of_ble_eq_true rfl) (Nat.le_of_ble_eq_true rfl) dX8_init_5 (fun q0 => ?_)
  refine qy_dup (pc := 8) dX8_init_8 rfl ?_
  refine qy_callI (pc := 9) (wr := [(h, .inr (8, [.null, .null, .null, .null, .null, .null, .null, .null]))]) [] [.ref q0, .ref h] (qk_X4 q0) [1] [0] rfl rfl rfl rfl rfl (by decide) rfl qcm_X4_init rfl rfl qci_X4_init qyl_X8_11 rfl (Nat.le_of_ble_eq_true rfl) (by decide) (Nat.le_of_ble_eq_true rfl) (Nat.le_of_ble_eq_true rfl) dX8_init_9 (fun u1 => ?_)
  refine qy_putF (pc := 12) 0 0 (ty := (.object "LabelPlacer$Points")) ([(h, .inr (8, [.ref q0, .null, .null, .null, .null, .null, .null, .null])), (q0, .inr (4, [.int 0, .ref (u1 0), .ref (u1 1)])), ((u1 0), .inl (ci 0, 120, .inl (fun _ => 0))), ((u1 1), .inl (ci 0, 20, .inl (fun _ => 0)))]) tyX8 rfl rfl (Nat.le_of_ble_eq_true rfl) inX8 tyX8_ok nmX8 rfl rfl (by decide +kernel) rfl rfl (Nat.le_of_ble_eq_true rfl) rfl qwf_X8_12 dX8_init_12 ?_
  refine qy_aload_n (pc := 15) 0 dX8_init_15 rfl ?_
  refine qy_new (pc := 16) (cx := 7) (fs := [.int 0, .int 0, .int 0, .int 0]) tyX7 tyX7_ok inX7 qyk_X8_16 qyn_X7 qyi_X7 rfl (fun j hj => by rcases (show j = 0 ∨ j = 1 ∨ j = 2 ∨ j = 3 by omega) with rfl | rfl | rfl | rfl <;> rfl) (Nat.le_of_ble_eq_true rfl) (Nat.le_of_ble_eq_true rfl) dX8_init_16 (fun q2 => ?_)
  refine qy_dup (pc := 19) dX8_init_19 rfl ?_
  refine qy_callI (pc := 20) (wr := [(h, .inr (8, [.ref q0, .null, .null, .null, .null, .null, .null, .null])), (q0, .inr (4, [.int 0, .ref (u1 0), .ref (u1 1)])), ((u1 0), .inl (ci 0, 120, .inl (fun _ => 0))), ((u1 1), .inl (ci 0, 20, .inl (fun _ => 0)))]) [] [.ref q2, .ref h] (qk_X7 q2) [4] [0, 1, 2, 3] rfl rfl rfl rfl rfl (by decide) rfl qcm_X7_init rfl rfl qci_X7_init qyl_X8_18 rfl (Nat.le_of_ble_eq_true rfl) (by decide) (Nat.le_of_ble_eq_true rfl) (Nat.le_of_ble_eq_true rfl) dX8_init_20 (fun u3 => ?_)
  refine qy_putF (pc := 23) 0 1 (ty := (.object "LabelPlacer$Window")) ([(h, .inr (8, [.ref q0, .ref q2, .null, .null, .null, .null, .null, .null])), (q0, .inr (4, [.int 0, .ref (u1 0), .ref (u1 1)])), ((u1 0), .inl (ci 0, 120, .inl (fun _ => 0))), ((u1 1), .inl (ci 0, 20, .inl (fun _ => 0))), (q2, .inr (7, [.int 0, .int 0, .int 60, .int 40]))]) tyX8 rfl rfl (Nat.le_of_ble_eq_true rfl) inX8 tyX8_ok nmX8 rfl rfl (by decide +kernel) rfl rfl (Nat.le_of_ble_eq_true rfl) rfl qwf_X8_19 dX8_init_23 ?_
  refine qy_aload_n (pc := 26) 0 dX8_init_26 rfl ?_
  refine qy_new (pc := 27) (cx := 3) (fs := [.null, .null, .null, .null, .null, .null, .null]) tyX3 tyX3_ok inX3 qyk_X8_23 qyn_X3 qyi_X3 rfl (fun j hj => by rcases (show j = 0 ∨ j = 1 ∨ j = 2 ∨ j = 3 ∨ j = 4 ∨ j = 5 ∨ j = 6 by omega) with rfl | rfl | rfl | rfl | rfl | rfl | rfl <;> rfl) (Nat.le_of_ble_eq_true rfl) (Nat.le_of_ble_eq_true rfl) dX8_init_27 (fun q4 => ?_)
  refine qy_dup (pc := 30) dX8_init_30 rfl ?_
  refine qy_aload_n (pc := 31) 0 dX8_init_31 rfl ?_
  refine qy_get (pc := 32) 0 0 rfl rfl (Nat.le_of_ble_eq_true rfl) rfl inX8 qwf_X8_12 dX8_init_32 ?_
  refine qy_aload_n (pc := 35) 0 dX8_init_35 rfl ?_
  refine qy_get (pc := 36) 0 1 rfl rfl (Nat.le_of_ble_eq_true rfl) rfl inX8 qwf_X8_19 dX8_init_36 ?_
  refine qy_callI (pc := 39) (wr := [(h, .inr (8, [.ref q0, .ref q2, .null, .null, .null, .null, .null, .null])), (q0, .inr (4, [.int 0, .ref (u1 0), .ref (u1 1)])), ((u1 0), .inl (ci 0, 120, .inl (fun _ => 0))), ((u1 1), .inl (ci 0, 20, .inl (fun _ => 0))), (q2, .inr (7, [.int 0, .int 0, .int 60, .int 40]))]) [.ref q0, .ref q2] [.ref q4, .ref h] (qk_X3 q4 q0 q2) [5] [0, 1, 2, 3, 4] rfl rfl rfl rfl rfl (by decide) rfl qcm_X3_init rfl rfl qci_X3_init qyl_X8_25 rfl (Nat.le_of_ble_eq_true rfl) (by decide) (Nat.le_of_ble_eq_true rfl) (Nat.le_of_ble_eq_true rfl) dX8_init_39 (fun u5 => ?_)
  refine qy_putF (pc := 42) 0 2 (ty := (.object "LabelPlacer$Places")) ([(h, .inr (8, [.ref q0, .ref q2, .ref q4, .null, .null, .null, .null, .null])), (q0, .inr (4, [.int 0, .ref (u1 0), .ref (u1 1)])), ((u1 0), .inl (ci 0, 120, .inl (fun _ => 0))), ((u1 1), .inl (ci 0, 20, .inl (fun _ => 0))), (q2, .inr (7, [.int 0, .int 0, .int 60, .int 40])), (q4, .inr (3, [.ref q0, .ref q2, .ref (u5 0), .ref (u5 1), .ref (u5 2), .ref (u5 3), .ref (u5 4)])), ((u5 0), .inl (ci 0, 160, .inl (fun _ => 0))), ((u5 1), .inl (ci 0, 160, .inl (fun _ => 0))), ((u5 2), .inl (ci 0, 160, .inl (fun _ => 0))), ((u5 3), .inl (ci 0, 160, .inl (fun _ => 0))), ((u5 4), .inl (ci 1, 160, .inl (fun _ => 0)))]) tyX8 rfl rfl (Nat.le_of_ble_eq_true rfl) inX8 tyX8_ok nmX8 rfl rfl (by decide +kernel) rfl rfl (Nat.le_of_ble_eq_true rfl) rfl qwf_X8_28 dX8_init_42 ?_
  refine qy_aload_n (pc := 45) 0 dX8_init_45 rfl ?_
  refine qy_new (pc := 46) (cx := 1) (fs := [.null, .null, .null]) tyX1 tyX1_ok inX1 qyk_X8_32 qyn_X1 qyi_X1 rfl (fun j hj => by rcases (show j = 0 ∨ j = 1 ∨ j = 2 by omega) with rfl | rfl | rfl <;> rfl) (Nat.le_of_ble_eq_true rfl) (Nat.le_of_ble_eq_true rfl) dX8_init_46 (fun q6 => ?_)
  refine qy_dup (pc := 49) dX8_init_49 rfl ?_
  refine qy_aload_n (pc := 50) 0 dX8_init_50 rfl ?_
  refine qy_get (pc := 51) 0 0 rfl rfl (Nat.le_of_ble_eq_true rfl) rfl inX8 qwf_X8_12 dX8_init_51 ?_
  refine qy_aload_n (pc := 54) 0 dX8_init_54 rfl ?_
  refine qy_get (pc := 55) 0 2 rfl rfl (Nat.le_of_ble_eq_true rfl) rfl inX8 qwf_X8_28 dX8_init_55 ?_
  refine qy_callI (pc := 58) (wr := [(h, .inr (8, [.ref q0, .ref q2, .ref q4, .null, .null, .null, .null, .null])), (q0, .inr (4, [.int 0, .ref (u1 0), .ref (u1 1)])), ((u1 0), .inl (ci 0, 120, .inl (fun _ => 0))), ((u1 1), .inl (ci 0, 20, .inl (fun _ => 0))), (q2, .inr (7, [.int 0, .int 0, .int 60, .int 40])), (q4, .inr (3, [.ref q0, .ref q2, .ref (u5 0), .ref (u5 1), .ref (u5 2), .ref (u5 3), .ref (u5 4)])), ((u5 0), .inl (ci 0, 160, .inl (fun _ => 0))), ((u5 1), .inl (ci 0, 160, .inl (fun _ => 0))), ((u5 2), .inl (ci 0, 160, .inl (fun _ => 0))), ((u5 3), .inl (ci 0, 160, .inl (fun _ => 0))), ((u5 4), .inl (ci 1, 160, .inl (fun _ => 0)))]) [.ref q0, .ref q4] [.ref q6, .ref h] (qk_X1 q6 q0 q4) [11] [0, 1, 2, 3, 4, 5, 6, 7, 8, 9, 10] rfl rfl rfl rfl rfl (by decide) rfl qcm_X1_init rfl rfl qci_X1_init qyl_X8_34 rfl (Nat.le_of_ble_eq_true rfl) (by decide) (Nat.le_of_ble_eq_true rfl) (Nat.le_of_ble_eq_true rfl) dX8_init_58 (fun u7 => ?_)
  refine qy_putF (pc := 61) 0 3 (ty := (.object "LabelPlacer$Labels")) ([(h, .inr (8, [.ref q0, .ref q2, .ref q4, .ref q6, .null, .null, .null, .null])), (q0, .inr (4, [.int 0, .ref (u1 0), .ref (u1 1)])), ((u1 0), .inl (ci 0, 120, .inl (fun _ => 0))), ((u1 1), .inl (ci 0, 20, .inl (fun _ => 0))), (q2, .inr (7, [.int 0, .int 0, .int 60, .int 40])), (q4, .inr (3, [.ref q0, .ref q2, .ref (u5 0), .ref (u5 1), .ref (u5 2), .ref (u5 3), .ref (u5 4)])), ((u5 0), .inl (ci 0, 160, .inl (fun _ => 0))), ((u5 1), .inl (ci 0, 160, .inl (fun _ => 0))), ((u5 2), .inl (ci 0, 160, .inl (fun _ => 0))), ((u5 3), .inl (ci 0, 160, .inl (fun _ => 0))), ((u5 4), .inl (ci 1, 160, .inl (fun _ => 0))), (q6, .inr (1, [.ref q0, .ref q4, .ref (u7 0)])), ((u7 0), .inl (ci 0, 20, .inl (qy_m1)))]) tyX8 rfl rfl (Nat.le_of_ble_eq_true rfl) inX8 tyX8_ok nmX8 rfl rfl (by decide +kernel) rfl rfl (Nat.le_of_ble_eq_true rfl) rfl qwf_X8_37 dX8_init_61 ?_
  refine qy_aload_n (pc := 64) 0 dX8_init_64 rfl ?_
  refine qy_new (pc := 65) (cx := 5) (fs := [.null, .null, .null, .null, .int 0]) tyX5 tyX5_ok inX5 qyk_X8_41 qyn_X5 qyi_X5 rfl (fun j hj => by rcases (show j = 0 ∨ j = 1 ∨ j = 2 ∨ j = 3 ∨ j = 4 by omega) with rfl | rfl | rfl | rfl | rfl <;> rfl) (Nat.le_of_ble_eq_true rfl) (Nat.le_of_ble_eq_true rfl) dX8_init_65 (fun q8 => ?_)
  refine qy_dup (pc := 68) dX8_init_68 rfl ?_
  refine qy_aload_n (pc := 69) 0 dX8_init_69 rfl ?_
  refine qy_get (pc := 70) 0 0 rfl rfl (Nat.le_of_ble_eq_true rfl) rfl inX8 qwf_X8_12 dX8_init_70 ?_
  refine qy_aload_n (pc := 73) 0 dX8_init_73 rfl ?_
  refine qy_get (pc := 74) 0 2 rfl rfl (Nat.le_of_ble_eq_true rfl) rfl inX8 qwf_X8_28 dX8_init_74 ?_
  refine qy_callI (pc := 77) (wr := [(h, .inr (8, [.ref q0, .ref q2, .ref q4, .ref q6, .null, .null, .null, .null])), (q0, .inr (4, [.int 0, .ref (u1 0), .ref (u1 1)])), ((u1 0), .inl (ci 0, 120, .inl (fun _ => 0))), ((u1 1), .inl (ci 0, 20, .inl (fun _ => 0))), (q2, .inr (7, [.int 0, .int 0, .int 60, .int 40])), (q4, .inr (3, [.ref q0, .ref q2, .ref (u5 0), .ref (u5 1), .ref (u5 2), .ref (u5 3), .ref (u5 4)])), ((u5 0), .inl (ci 0, 160, .inl (fun _ => 0))), ((u5 1), .inl (ci 0, 160, .inl (fun _ => 0))), ((u5 2), .inl (ci 0, 160, .inl (fun _ => 0))), ((u5 3), .inl (ci 0, 160, .inl (fun _ => 0))), ((u5 4), .inl (ci 1, 160, .inl (fun _ => 0))), (q6, .inr (1, [.ref q0, .ref q4, .ref (u7 0)])), ((u7 0), .inl (ci 0, 20, .inl (qy_m1)))]) [.ref q0, .ref q4] [.ref q8, .ref h] (qk_X5 q8 q0 q4) [13] [0, 1, 2, 3, 4, 5, 6, 7, 8, 9, 10, 11, 12] rfl rfl rfl rfl rfl (by decide) rfl qcm_X5_init rfl rfl qci_X5_init qyl_X8_43 rfl (Nat.le_of_ble_eq_true rfl) (by decide) (Nat.le_of_ble_eq_true rfl) (Nat.le_of_ble_eq_true rfl) dX8_init_77 (fun u9 => ?_)
  refine qy_putF (pc := 80) 0 4 (ty := (.object "LabelPlacer$Search")) ([(h, .inr (8, [.ref q0, .ref q2, .ref q4, .ref q6, .ref q8, .null, .null, .null])), (q0, .inr (4, [.int 0, .ref (u1 0), .ref (u1 1)])), ((u1 0), .inl (ci 0, 120, .inl (fun _ => 0))), ((u1 1), .inl (ci 0, 20, .inl (fun _ => 0))), (q2, .inr (7, [.int 0, .int 0, .int 60, .int 40])), (q4, .inr (3, [.ref q0, .ref q2, .ref (u5 0), .ref (u5 1), .ref (u5 2), .ref (u5 3), .ref (u5 4)])), ((u5 0), .inl (ci 0, 160, .inl (fun _ => 0))), ((u5 1), .inl (ci 0, 160, .inl (fun _ => 0))), ((u5 2), .inl (ci 0, 160, .inl (fun _ => 0))), ((u5 3), .inl (ci 0, 160, .inl (fun _ => 0))), ((u5 4), .inl (ci 1, 160, .inl (fun _ => 0))), (q6, .inr (1, [.ref q0, .ref q4, .ref (u7 0)])), ((u7 0), .inl (ci 0, 20, .inl (qy_m1))), (q8, .inr (5, [.ref q0, .ref q4, .ref (u9 0), .ref (u9 1), .int 0])), ((u9 0), .inl (ci 0, 6, .inl (fun _ => 0))), ((u9 1), .inl (ci 3, 48, .inr (.inl (fun _ => 0))))]) tyX8 rfl rfl (Nat.le_of_ble_eq_true rfl) inX8 tyX8_ok nmX8 rfl rfl (by decide +kernel) rfl rfl (Nat.le_of_ble_eq_true rfl) rfl qwf_X8_44 dX8_init_80 ?_
  refine qy_aload_n (pc := 83) 0 dX8_init_83 rfl ?_
  refine qy_new (pc := 84) (cx := 2) (fs := [.int 0, .null, .null, .null, .null, .null]) tyX2 tyX2_ok inX2 qyk_X8_48 qyn_X2 qyi_X2 rfl (fun j hj => by rcases (show j = 0 ∨ j = 1 ∨ j = 2 ∨ j = 3 ∨ j = 4 ∨ j = 5 by omega) with rfl | rfl | rfl | rfl | rfl | rfl <;> rfl) (Nat.le_of_ble_eq_true rfl) (Nat.le_of_ble_eq_true rfl) dX8_init_84 (fun q10 => ?_)
  refine qy_dup (pc := 87) dX8_init_87 rfl ?_
  refine qy_aload_n (pc := 88) 0 dX8_init_88 rfl ?_
  refine qy_get (pc := 89) 0 0 rfl rfl (Nat.le_of_ble_eq_true rfl) rfl inX8 qwf_X8_12 dX8_init_89 ?_
  refine qy_aload_n (pc := 92) 0 dX8_init_92 rfl ?_
  refine qy_get (pc := 93) 0 1 rfl rfl (Nat.le_of_ble_eq_true rfl) rfl inX8 qwf_X8_19 dX8_init_93 ?_
  refine qy_aload_n (pc := 96) 0 dX8_init_96 rfl ?_
  refine qy_get (pc := 97) 0 3 rfl rfl (Nat.le_of_ble_eq_true rfl) rfl inX8 qwf_X8_37 dX8_init_97 ?_
  refine qy_callI (pc := 100) (wr := [(h, .inr (8, [.ref q0, .ref q2, .ref q4, .ref q6, .ref q8, .null, .null, .null])), (q0, .inr (4, [.int 0, .ref (u1 0), .ref (u1 1)])), ((u1 0), .inl (ci 0, 120, .inl (fun _ => 0))), ((u1 1), .inl (ci 0, 20, .inl (fun _ => 0))), (q2, .inr (7, [.int 0, .int 0, .int 60, .int 40])), (q4, .inr (3, [.ref q0, .ref q2, .ref (u5 0), .ref (u5 1), .ref (u5 2), .ref (u5 3), .ref (u5 4)])), ((u5 0), .inl (ci 0, 160, .inl (fun _ => 0))), ((u5 1), .inl (ci 0, 160, .inl (fun _ => 0))), ((u5 2), .inl (ci 0, 160, .inl (fun _ => 0))), ((u5 3), .inl (ci 0, 160, .inl (fun _ => 0))), ((u5 4), .inl (ci 1, 160, .inl (fun _ => 0))), (q6, .inr (1, [.ref q0, .ref q4, .ref (u7 0)])), ((u7 0), .inl (ci 0, 20, .inl (qy_m1))), (q8, .inr (5, [.ref q0, .ref q4, .ref (u9 0), .ref (u9 1), .int 0])), ((u9 0), .inl (ci 0, 6, .inl (fun _ => 0))), ((u9 1), .inl (ci 3, 48, .inr (.inl (fun _ => 0))))]) [.ref q0, .ref q2, .ref q6] [.ref q10, .ref h] (qk_X2 q10 q0 q2 q6) [16] [0, 1, 2, 3, 4, 5, 6, 7, 8, 9, 10, 11, 12, 13, 14, 15] rfl rfl rfl rfl rfl (by decide) rfl qcm_X2_init rfl rfl qci_X2_init qyl_X8_50 rfl (Nat.le_of_ble_eq_true rfl) (by decide) (Nat.le_of_ble_eq_true rfl) (Nat.le_of_ble_eq_true rfl) dX8_init_100 (fun u11 => ?_)
  refine qy_putF (pc := 103) 0 5 (ty := (.object "LabelPlacer$Lines")) ([(h, .inr (8, [.ref q0, .ref q2, .ref q4, .ref q6, .ref q8, .ref q10, .null, .null])), (q0, .inr (4, [.int 0, .ref (u1 0), .ref (u1 1)])), ((u1 0), .inl (ci 0, 120, .inl (fun _ => 0))), ((u1 1), .inl (ci 0, 20, .inl (fun _ => 0))), (q2, .inr (7, [.int 0, .int 0, .int 60, .int 40])), (q4, .inr (3, [.ref q0, .ref q2, .ref (u5 0), .ref (u5 1), .ref (u5 2), .ref (u5 3), .ref (u5 4)])), ((u5 0), .inl (ci 0, 160, .inl (fun _ => 0))), ((u5 1), .inl (ci 0, 160, .inl (fun _ => 0))), ((u5 2), .inl (ci 0, 160, .inl (fun _ => 0))), ((u5 3), .inl (ci 0, 160, .inl (fun _ => 0))), ((u5 4), .inl (ci 1, 160, .inl (fun _ => 0))), (q6, .inr (1, [.ref q0, .ref q4, .ref (u7 0)])), ((u7 0), .inl (ci 0, 20, .inl (qy_m1))), (q8, .inr (5, [.ref q0, .ref q4, .ref (u9 0), .ref (u9 1), .int 0])), ((u9 0), .inl (ci 0, 6, .inl (fun _ => 0))), ((u9 1), .inl (ci 3, 48, .inr (.inl (fun _ => 0)))), (q10, .inr (2, [.int 0, .ref q0, .ref q2, .ref q6, .ref (u11 0), .ref (u11 1)])), ((u11 0), .inl (ci 0, 80, .inl (fun _ => 0))), ((u11 1), .inl (ci 0, 20, .inl (fun _ => 0)))]) tyX8 rfl rfl (Nat.le_of_ble_eq_true rfl) inX8 tyX8_ok nmX8 rfl rfl (by decide +kernel) rfl rfl (Nat.le_of_ble_eq_true rfl) rfl qwf_X8_53 dX8_init_103 ?_
  refine qy_aload_n (pc := 106) 0 dX8_init_106 rfl ?_
  refine qy_new (pc := 107) (cx := 6) (fs := [.int 0, .null]) tyX6 tyX6_ok inX6 qyk_X8_57 qyn_X6 qyi_X6 rfl (fun j hj => by rcases (show j = 0 ∨ j = 1 by omega) with rfl | rfl <;> rfl) (Nat.le_of_ble_eq_true rfl) (Nat.le_of_ble_eq_true rfl) dX8_init_107 (fun q12 => ?_)
  refine qy_dup (pc := 110) dX8_init_110 rfl ?_
  refine qy_callI (pc := 111) (wr := [(h, .inr (8, [.ref q0, .ref q2, .ref q4, .ref q6, .ref q8, .ref q10, .null, .null])), (q0, .inr (4, [.int 0, .ref (u1 0), .ref (u1 1)])), ((u1 0), .inl (ci 0, 120, .inl (fun _ => 0))), ((u1 1), .inl (ci 0, 20, .inl (fun _ => 0))), (q2, .inr (7, [.int 0, .int 0, .int 60, .int 40])), (q4, .inr (3, [.ref q0, .ref q2, .ref (u5 0), .ref (u5 1), .ref (u5 2), .ref (u5 3), .ref (u5 4)])), ((u5 0), .inl (ci 0, 160, .inl (fun _ => 0))), ((u5 1), .inl (ci 0, 160, .inl (fun _ => 0))), ((u5 2), .inl (ci 0, 160, .inl (fun _ => 0))), ((u5 3), .inl (ci 0, 160, .inl (fun _ => 0))), ((u5 4), .inl (ci 1, 160, .inl (fun _ => 0))), (q6, .inr (1, [.ref q0, .ref q4, .ref (u7 0)])), ((u7 0), .inl (ci 0, 20, .inl (qy_m1))), (q8, .inr (5, [.ref q0, .ref q4, .ref (u9 0), .ref (u9 1), .int 0])), ((u9 0), .inl (ci 0, 6, .inl (fun _ => 0))), ((u9 1), .inl (ci 3, 48, .inr (.inl (fun _ => 0)))), (q10, .inr (2, [.int 0, .ref q0, .ref q2, .ref q6, .ref (u11 0), .ref (u11 1)])), ((u11 0), .inl (ci 0, 80, .inl (fun _ => 0))), ((u11 1), .inl (ci 0, 20, .inl (fun _ => 0)))]) [] [.ref q12, .ref h] (qk_X6 q12) [19] [0, 1, 2, 3, 4, 5, 6, 7, 8, 9, 10, 11, 12, 13, 14, 15, 16, 17, 18] rfl rfl rfl rfl rfl (by decide) rfl qcm_X6_init rfl rfl qci_X6_init qyl_X8_59 rfl (Nat.le_of_ble_eq_true rfl) (by decide) (Nat.le_of_ble_eq_true rfl) (Nat.le_of_ble_eq_true rfl) dX8_init_111 (fun u13 => ?_)
  refine qy_putF (pc := 114) 0 6 (ty := (.object "LabelPlacer$Text")) ([(h, .inr (8, [.ref q0, .ref q2, .ref q4, .ref q6, .ref q8, .ref q10, .ref q12, .null])), (q0, .inr (4, [.int 0, .ref (u1 0), .ref (u1 1)])), ((u1 0), .inl (ci 0, 120, .inl (fun _ => 0))), ((u1 1), .inl (ci 0, 20, .inl (fun _ => 0))), (q2, .inr (7, [.int 0, .int 0, .int 60, .int 40])), (q4, .inr (3, [.ref q0, .ref q2, .ref (u5 0), .ref (u5 1), .ref (u5 2), .ref (u5 3), .ref (u5 4)])), ((u5 0), .inl (ci 0, 160, .inl (fun _ => 0))), ((u5 1), .inl (ci 0, 160, .inl (fun _ => 0))), ((u5 2), .inl (ci 0, 160, .inl (fun _ => 0))), ((u5 3), .inl (ci 0, 160, .inl (fun _ => 0))), ((u5 4), .inl (ci 1, 160, .inl (fun _ => 0))), (q6, .inr (1, [.ref q0, .ref q4, .ref (u7 0)])), ((u7 0), .inl (ci 0, 20, .inl (qy_m1))), (q8, .inr (5, [.ref q0, .ref q4, .ref (u9 0), .ref (u9 1), .int 0])), ((u9 0), .inl (ci 0, 6, .inl (fun _ => 0))), ((u9 1), .inl (ci 3, 48, .inr (.inl (fun _ => 0)))), (q10, .inr (2, [.int 0, .ref q0, .ref q2, .ref q6, .ref (u11 0), .ref (u11 1)])), ((u11 0), .inl (ci 0, 80, .inl (fun _ => 0))), ((u11 1), .inl (ci 0, 20, .inl (fun _ => 0))), (q12, .inr (6, [.int 0, .ref (u13 0)])), ((u13 0), .inl (ci 2, 80, .inl (fun _ => 0)))]) tyX8 rfl rfl (Nat.le_of_ble_eq_true rfl) inX8 tyX8_ok nmX8 rfl rfl (by decide +kernel) rfl rfl (Nat.le_of_ble_eq_true rfl) rfl qwf_X8_60 dX8_init_114 ?_
  refine qy_aload_n (pc := 117) 0 dX8_init_117 rfl ?_
  refine qy_new (pc := 118) (cx := 0) (fs := [.int 0, .null, .int 0]) tyX0 tyX0_ok inX0 qyk_X8_64 qyn_X0 qyi_X0 rfl (fun j hj => by rcases (show j = 0 ∨ j = 1 ∨ j = 2 by omega) with rfl | rfl | rfl <;> rfl) (Nat.le_of_ble_eq_true rfl) (Nat.le_of_ble_eq_true rfl) dX8_init_118 (fun q14 => ?_)
  refine qy_dup (pc := 121) dX8_init_121 rfl ?_
  refine qy_callI (pc := 122) (wr := [(h, .inr (8, [.ref q0, .ref q2, .ref q4, .ref q6, .ref q8, .ref q10, .ref q12, .null])), (q0, .inr (4, [.int 0, .ref (u1 0), .ref (u1 1)])), ((u1 0), .inl (ci 0, 120, .inl (fun _ => 0))), ((u1 1), .inl (ci 0, 20, .inl (fun _ => 0))), (q2, .inr (7, [.int 0, .int 0, .int 60, .int 40])), (q4, .inr (3, [.ref q0, .ref q2, .ref (u5 0), .ref (u5 1), .ref (u5 2), .ref (u5 3), .ref (u5 4)])), ((u5 0), .inl (ci 0, 160, .inl (fun _ => 0))), ((u5 1), .inl (ci 0, 160, .inl (fun _ => 0))), ((u5 2), .inl (ci 0, 160, .inl (fun _ => 0))), ((u5 3), .inl (ci 0, 160, .inl (fun _ => 0))), ((u5 4), .inl (ci 1, 160, .inl (fun _ => 0))), (q6, .inr (1, [.ref q0, .ref q4, .ref (u7 0)])), ((u7 0), .inl (ci 0, 20, .inl (qy_m1))), (q8, .inr (5, [.ref q0, .ref q4, .ref (u9 0), .ref (u9 1), .int 0])), ((u9 0), .inl (ci 0, 6, .inl (fun _ => 0))), ((u9 1), .inl (ci 3, 48, .inr (.inl (fun _ => 0)))), (q10, .inr (2, [.int 0, .ref q0, .ref q2, .ref q6, .ref (u11 0), .ref (u11 1)])), ((u11 0), .inl (ci 0, 80, .inl (fun _ => 0))), ((u11 1), .inl (ci 0, 20, .inl (fun _ => 0))), (q12, .inr (6, [.int 0, .ref (u13 0)])), ((u13 0), .inl (ci 2, 80, .inl (fun _ => 0)))]) [] [.ref q14, .ref h] (qk_X0 q14) [21] [0, 1, 2, 3, 4, 5, 6, 7, 8, 9, 10, 11, 12, 13, 14, 15, 16, 17, 18, 19, 20] rfl rfl rfl rfl rfl (by decide) rfl qcm_X0_init rfl rfl qci_X0_init qyl_X8_66 rfl (Nat.le_of_ble_eq_true rfl) (by decide) (Nat.le_of_ble_eq_true rfl) (Nat.le_of_ble_eq_true rfl) dX8_init_122 (fun u15 => ?_)
  refine qy_putF (pc := 125) 0 7 (ty := (.object "LabelPlacer$Command")) ([(h, .inr (8, [.ref q0, .ref q2, .ref q4, .ref q6, .ref q8, .ref q10, .ref q12, .ref q14])), (q0, .inr (4, [.int 0, .ref (u1 0), .ref (u1 1)])), ((u1 0), .inl (ci 0, 120, .inl (fun _ => 0))), ((u1 1), .inl (ci 0, 20, .inl (fun _ => 0))), (q2, .inr (7, [.int 0, .int 0, .int 60, .int 40])), (q4, .inr (3, [.ref q0, .ref q2, .ref (u5 0), .ref (u5 1), .ref (u5 2), .ref (u5 3), .ref (u5 4)])), ((u5 0), .inl (ci 0, 160, .inl (fun _ => 0))), ((u5 1), .inl (ci 0, 160, .inl (fun _ => 0))), ((u5 2), .inl (ci 0, 160, .inl (fun _ => 0))), ((u5 3), .inl (ci 0, 160, .inl (fun _ => 0))), ((u5 4), .inl (ci 1, 160, .inl (fun _ => 0))), (q6, .inr (1, [.ref q0, .ref q4, .ref (u7 0)])), ((u7 0), .inl (ci 0, 20, .inl (qy_m1))), (q8, .inr (5, [.ref q0, .ref q4, .ref (u9 0), .ref (u9 1), .int 0])), ((u9 0), .inl (ci 0, 6, .inl (fun _ => 0))), ((u9 1), .inl (ci 3, 48, .inr (.inl (fun _ => 0)))), (q10, .inr (2, [.int 0, .ref q0, .ref q2, .ref q6, .ref (u11 0), .ref (u11 1)])), ((u11 0), .inl (ci 0, 80, .inl (fun _ => 0))), ((u11 1), .inl (ci 0, 20, .inl (fun _ => 0))), (q12, .inr (6, [.int 0, .ref (u13 0)])), ((u13 0), .inl (ci 2, 80, .inl (fun _ => 0))), (q14, .inr (0, [.int (-1), .ref (u15 0), .int 0])), ((u15 0), .inl (ci 0, 5, .inl (fun _ => 0)))]) tyX8 rfl rfl (Nat.le_of_ble_eq_true rfl) inX8 tyX8_ok nmX8 rfl rfl (by decide +kernel) rfl rfl (Nat.le_of_ble_eq_true rfl) rfl qwf_X8_67 dX8_init_125 ?_
  exact qy_vret (fun k => [q0, (u1 0), (u1 1), q2, q4, (u5 0), (u5 1), (u5 2), (u5 3), (u5 4), q6, (u7 0), q8, (u9 0), (u9 1), q10, (u11 0), (u11 1), q12, (u13 0), q14, (u15 0)].getD k 0) rfl rfl dX8_init_128
theorem qyo_X9 : Cond.methodLink RX9 1 Lib.objectInit ∈ qx_tb := qx_tbOf (List.mem_of_getElem? (i := 812) (by decide +kernel)) (by decide +kernel)
set_option maxHeartbeats 4000000 in
set_option maxRecDepth 100000 in
theorem qk_X9 {l : Launch} {D : va_G} {ci : Nat → ClassId} (h : Nat) : qy_C l D ci mX9_init 1 10 597 [.ref h] [(h, .inr (9, [.null, .int 0, .int 0, .int 0, .int 0, .int 0, .null, .null, .null, .null, .null, .int 0, .null, .null, .int 0, .int 0, .int 0, .null, .int 0, .null, .long 0]))] (fun u => qx_wM ci (qy_cons h u) qy_t0) := by
  refine qy_met (by decide) rfl _ (Nat.le_of_ble_eq_true rfl) (fun sz => ?_)
  show qy_E l D ci mX9_init 1 10 597 _ _ 0 0 0 [(0, .ref h)] [] _
  refine qy_aload_n (pc := 0) 0 dX9_init_0 rfl ?_
  refine qy_obj (pc := 1) qyo_X9 (by decide) (Nat.le_of_ble_eq_true rfl) dX9_init_1 ?_
  refine qy_aload_n (pc := 4) 0 dX9_init_4 rfl ?_
  refine qy_sipush (pc := 5) 140 dX9_init_5 (by decide) ?_
  refine qy_newi (pc := 8) 140 rfl (Nat.le_of_ble_eq_true rfl) (Nat.le_of_ble_eq_true rfl) (Nat.le_of_ble_eq_true rfl) dX9_init_8 (fun q0 => ?_)
  refine qy_putF (pc := 10) 0 0 (ty := (.array .int)) ([(h, .inr (9, [.ref q0, .int 0, .int 0, .int 0, .int 0, .int 0, .null, .null, .null, .null, .null, .int 0, .null, .null, .int 0, .int 0, .int 0, .null, .int 0, .null, .long 0])), (q0, .inl (ci 0, 140, .inl (fun _ => 0)))]) tyX9 rfl rfl (Nat.le_of_ble_eq_true rfl) inX9 tyX9_ok nmX9 rfl rfl (by decide +kernel) rfl rfl (Nat.le_of_ble_eq_true rfl) rfl qwf_X9_7 dX9_init_10 ?_
  refine qy_aload_n (pc := 13) 0 dX9_init_13 rfl ?_
  refine qy_bipush (pc := 14) 60 dX9_init_14 (by decide) ?_
  refine qy_put (pc := 16) 0 4 (ty := .int) ([(h, .inr (9, [.ref q0, .int 0, .int 0, .int 0, .int 60, .int 0, .null, .null, .null, .null, .null, .int 0, .null, .null, .int 0, .int 0, .int 0, .null, .int 0, .null, .long 0])), (q0, .inl (ci 0, 140, .inl (fun _ => 0)))]) tyX9 rfl rfl (Nat.le_of_ble_eq_true rfl) inX9 tyX9_ok nmX9 rfl (by decide +kernel) rfl rfl (Nat.le_of_ble_eq_true rfl) rfl qwf_X9_13 dX9_init_16 ?_
  refine qy_aload_n (pc := 19) 0 dX9_init_19 rfl ?_
  refine qy_bipush (pc := 20) 40 dX9_init_20 (by decide) ?_
  refine qy_put (pc := 22) 0 5 (ty := .int) ([(h, .inr (9, [.ref q0, .int 0, .int 0, .int 0, .int 60, .int 40, .null, .null, .null, .null, .null, .int 0, .null, .null, .int 0, .int 0, .int 0, .null, .int 0, .null, .long 0])), (q0, .inl (ci 0, 140, .inl (fun _ => 0)))]) tyX9 rfl rfl (Nat.le_of_ble_eq_true rfl) inX9 tyX9_ok nmX9 rfl (by decide +kernel) rfl rfl (Nat.le_of_ble_eq_true rfl) rfl qwf_X9_17 dX9_init_22 ?_
  refine qy_aload_n (pc := 25) 0 dX9_init_25 rfl ?_
  refine qy_sipush (pc := 26) 160 dX9_init_26 (by decide) ?_
  refine qy_newz (pc := 29) 160 rfl (Nat.le_of_ble_eq_true rfl) (Nat.le_of_ble_eq_true rfl) (Nat.le_of_ble_eq_true rfl) dX9_init_29 (fun q1 => ?_)
  refine qy_putF (pc := 31) 0 6 (ty := (.array .boolean)) ([(h, .inr (9, [.ref q0, .int 0, .int 0, .int 0, .int 60, .int 40, .ref q1, .null, .null, .null, .null, .int 0, .null, .null, .int 0, .int 0, .int 0, .null, .int 0, .null, .long 0])), (q0, .inl (ci 0, 140, .inl (fun _ => 0))), (q1, .inl (ci 1, 160, .inl (fun _ => 0)))]) tyX9 rfl rfl (Nat.le_of_ble_eq_true rfl) inX9 tyX9_ok nmX9 rfl rfl (by decide +kernel) rfl rfl (Nat.le_of_ble_eq_true rfl) rfl qwf_X9_20 dX9_init_31 ?_
  refine qy_aload_n (pc := 34) 0 dX9_init_34 rfl ?_
  refine qy_bipush (pc := 35) 20 dX9_init_35 (by decide) ?_
  refine qy_newi (pc := 37) 20 rfl (Nat.le_of_ble_eq_true rfl) (Nat.le_of_ble_eq_true rfl) (Nat.le_of_ble_eq_true rfl) dX9_init_37 (fun q2 => ?_)
  refine qy_putF (pc := 39) 0 7 (ty := (.array .int)) ([(h, .inr (9, [.ref q0, .int 0, .int 0, .int 0, .int 60, .int 40, .ref q1, .ref q2, .null, .null, .null, .int 0, .null, .null, .int 0, .int 0, .int 0, .null, .int 0, .null, .long 0])), (q0, .inl (ci 0, 140, .inl (fun _ => 0))), (q1, .inl (ci 1, 160, .inl (fun _ => 0))), (q2, .inl (ci 0, 20, .inl (fun _ => 0)))]) tyX9 rfl rfl (Nat.le_of_ble_eq_true rfl) inX9 tyX9_ok nmX9 rfl rfl (by decide +kernel) rfl rfl (Nat.le_of_ble_eq_true rfl) rfl qwf_X9_24 dX9_init_39 ?_
  refine qy_aload_n (pc := 42) 0 dX9_init_42 rfl ?_
  refine qy_bipush (pc := 43) 6 dX9_init_43 (by decide) ?_
  refine qy_newi (pc := 45) 6 rfl (Nat.le_of_ble_eq_true rfl) (Nat.le_of_ble_eq_true rfl) (Nat.le_of_ble_eq_true rfl) dX9_init_45 (fun q3 => ?_)
  refine qy_putF (pc := 47) 0 8 (ty := (.array .int)) ([(h, .inr (9, [.ref q0, .int 0, .int 0, .int 0, .int 60, .int 40, .ref q1, .ref q2, .ref q3, .null, .null, .int 0, .null, .null, .int 0, .int 0, .int 0, .null, .int 0, .null, .long 0])), (q0, .inl (ci 0, 140, .inl (fun _ => 0))), (q1, .inl (ci 1, 160, .inl (fun _ => 0))), (q2, .inl (ci 0, 20, .inl (fun _ => 0))), (q3, .inl (ci 0, 6, .inl (fun _ => 0)))]) tyX9 rfl rfl (Nat.le_of_ble_eq_true rfl) inX9 tyX9_ok nmX9 rfl rfl (by decide +kernel) rfl rfl (Nat.le_of_ble_eq_true rfl) rfl qwf_X9_27 dX9_init_47 ?_
  refine qy_aload_n (pc := 50) 0 dX9_init_50 rfl ?_
  refine qy_bipush (pc := 51) 6 dX9_init_51 (by decide) ?_
  refine qy_newi (pc := 53) 6 rfl (Nat.le_of_ble_eq_true rfl) (Nat.le_of_ble_eq_true rfl) (Nat.le_of_ble_eq_true rfl) dX9_init_53 (fun q4 => ?_)
  refine qy_putF (pc := 55) 0 9 (ty := (.array .int)) ([(h, .inr (9, [.ref q0, .int 0, .int 0, .int 0, .int 60, .int 40, .ref q1, .ref q2, .ref q3, .ref q4, .null, .int 0, .null, .null, .int 0, .int 0, .int 0, .null, .int 0, .null, .long 0])), (q0, .inl (ci 0, 140, .inl (fun _ => 0))), (q1, .inl (ci 1, 160, .inl (fun _ => 0))), (q2, .inl (ci 0, 20, .inl (fun _ => 0))), (q3, .inl (ci 0, 6, .inl (fun _ => 0))), (q4, .inl (ci 0, 6, .inl (fun _ => 0)))]) tyX9 rfl rfl (Nat.le_of_ble_eq_true rfl) inX9 tyX9_ok nmX9 rfl rfl (by decide +kernel) rfl rfl (Nat.le_of_ble_eq_true rfl) rfl qwf_X9_30 dX9_init_55 ?_
  refine qy_aload_n (pc := 58) 0 dX9_init_58 rfl ?_
  refine qy_bipush (pc := 59) 80 dX9_init_59 (by decide) ?_
  refine qy_newi (pc := 61) 80 rfl (Nat.le_of_ble_eq_true rfl) (Nat.le_of_ble_eq_true rfl) (Nat.le_of_ble_eq_true rfl) dX9_init_61 (fun q5 => ?_)
  refine qy_putF (pc := 63) 0 10 (ty := (.array .int)) ([(h, .inr (9, [.ref q0, .int 0, .int 0, .int 0, .int 60, .int 40, .ref q1, .ref q2, .ref q3, .ref q4, .ref q5, .int 0, .null, .null, .int 0, .int 0, .int 0, .null, .int 0, .null, .long 0])), (q0, .inl (ci 0, 140, .inl (fun _ => 0))), (q1, .inl (ci 1, 160, .inl (fun _ => 0))), (q2, .inl (ci 0, 20, .inl (fun _ => 0))), (q3, .inl (ci 0, 6, .inl (fun _ => 0))), (q4, .inl (ci 0, 6, .inl (fun _ => 0))), (q5, .inl (ci 0, 80, .inl (fun _ => 0)))]) tyX9 rfl rfl (Nat.le_of_ble_eq_true rfl) inX9 tyX9_ok nmX9 rfl rfl (by decide +kernel) rfl rfl (Nat.le_of_ble_eq_true rfl) rfl qwf_X9_33 dX9_init_63 ?_
  refine qy_aload_n (pc := 66) 0 dX9_init_66 rfl ?_
  refine qy_bipush (pc := 67) 20 dX9_init_67 (by decide) ?_
  refine qy_newi (pc := 69) 20 rfl (Nat.le_of_ble_eq_true rfl) (Nat.le_of_ble_eq_true rfl) (Nat.le_of_ble_eq_true rfl) dX9_init_69 (fun q6 => ?_)
  refine qy_putF (pc := 71) 0 12 (ty := (.array .int)) ([(h, .inr (9, [.ref q0, .int 0, .int 0, .int 0, .int 60, .int 40, .ref q1, .ref q2, .ref q3, .ref q4, .ref q5, .int 0, .ref q6, .null, .int 0, .int 0, .int 0, .null, .int 0, .null, .long 0])), (q0, .inl (ci 0, 140, .inl (fun _ => 0))), (q1, .inl (ci 1, 160, .inl (fun _ => 0))), (q2, .inl (ci 0, 20, .inl (fun _ => 0))), (q3, .inl (ci 0, 6, .inl (fun _ => 0))), (q4, .inl (ci 0, 6, .inl (fun _ => 0))), (q5, .inl (ci 0, 80, .inl (fun _ => 0))), (q6, .inl (ci 0, 20, .inl (fun _ => 0)))]) tyX9 rfl rfl (Nat.le_of_ble_eq_true rfl) inX9 tyX9_ok nmX9 rfl rfl (by decide +kernel) rfl rfl (Nat.le_of_ble_eq_true rfl) rfl qwf_X9_36 dX9_init_71 ?_
  refine qy_aload_n (pc := 74) 0 dX9_init_74 rfl ?_
  refine qy_bipush (pc := 75) 80 dX9_init_75 (by decide) ?_
  refine qy_newi (pc := 77) 80 rfl (Nat.le_of_ble_eq_true rfl) (Nat.le_of_ble_eq_true rfl) (Nat.le_of_ble_eq_true rfl) dX9_init_77 (fun q7 => ?_)
  refine qy_putF (pc := 79) 0 13 (ty := (.array .int)) ([(h, .inr (9, [.ref q0, .int 0, .int 0, .int 0, .int 60, .int 40, .ref q1, .ref q2, .ref q3, .ref q4, .ref q5, .int 0, .ref q6, .ref q7, .int 0, .int 0, .int 0, .null, .int 0, .null, .long 0])), (q0, .inl (ci 0, 140, .inl (fun _ => 0))), (q1, .inl (ci 1, 160, .inl (fun _ => 0))), (q2, .inl (ci 0, 20, .inl (fun _ => 0))), (q3, .inl (ci 0, 6, .inl (fun _ => 0))), (q4, .inl (ci 0, 6, .inl (fun _ => 0))), (q5, .inl (ci 0, 80, .inl (fun _ => 0))), (q6, .inl (ci 0, 20, .inl (fun _ => 0))), (q7, .inl (ci 0, 80, .inl (fun _ => 0)))]) tyX9 rfl rfl (Nat.le_of_ble_eq_true rfl) inX9 tyX9_ok nmX9 rfl rfl (by decide +kernel) rfl rfl (Nat.le_of_ble_eq_true rfl) rfl qwf_X9_39 dX9_init_79 ?_
  refine qy_aload_n (pc := 82) 0 dX9_init_82 rfl ?_
  refine qy_bipush (pc := 83) 80 dX9_init_83 (by decide) ?_
  refine qy_newi (pc := 85) 80 rfl (Nat.le_of_ble_eq_true rfl) (Nat.le_of_ble_eq_true rfl) (Nat.le_of_ble_eq_true rfl) dX9_init_85 (fun q8 => ?_)
  refine qy_putF (pc := 87) 0 17 (ty := (.array .int)) ([(h, .inr (9, [.ref q0, .int 0, .int 0, .int 0, .int 60, .int 40, .ref q1, .ref q2, .ref q3, .ref q4, .ref q5, .int 0, .ref q6, .ref q7, .int 0, .int 0, .int 0, .ref q8, .int 0, .null, .long 0])), (q0, .inl (ci 0, 140, .inl (fun _ => 0))), (q1, .inl (ci 1, 160, .inl (fun _ => 0))), (q2, .inl (ci 0, 20, .inl (fun _ => 0))), (q3, .inl (ci 0, 6, .inl (fun _ => 0))), (q4, .inl (ci 0, 6, .inl (fun _ => 0))), (q5, .inl (ci 0, 80, .inl (fun _ => 0))), (q6, .inl (ci 0, 20, .inl (fun _ => 0))), (q7, .inl (ci 0, 80, .inl (fun _ => 0))), (q8, .inl (ci 0, 80, .inl (fun _ => 0)))]) tyX9 rfl rfl (Nat.le_of_ble_eq_true rfl) inX9 tyX9_ok nmX9 rfl rfl (by decide +kernel) rfl rfl (Nat.le_of_ble_eq_true rfl) rfl qwf_X9_42 dX9_init_87 ?_
  refine qy_aload_n (pc := 90) 0 dX9_init_90 rfl ?_
  refine qy_iconst (pc := 91) 5 dX9_init_91 (by decide) ?_
  refine qy_newi (pc := 92) 5 rfl (Nat.le_of_ble_eq_true rfl) (Nat.le_of_ble_eq_true rfl) (Nat.le_of_ble_eq_true rfl) dX9_init_92 (fun q9 => ?_)
  refine qy_putF (pc := 94) 0 19 (ty := (.array .int)) ([(h, .inr (9, [.ref q0, .int 0, .int 0, .int 0, .int 60, .int 40, .ref q1, .ref q2, .ref q3, .ref q4, .ref q5, .int 0, .ref q6, .ref q7, .int 0, .int 0, .int 0, .ref q8, .int 0, .ref q9, .long 0])), (q0, .inl (ci 0, 140, .inl (fun _ => 0))), (q1, .inl (ci 1, 160, .inl (fun _ => 0))), (q2, .inl (ci 0, 20, .inl (fun _ => 0))), (q3, .inl (ci 0, 6, .inl (fun _ => 0))), (q4, .inl (ci 0, 6, .inl (fun _ => 0))), (q5, .inl (ci 0, 80, .inl (fun _ => 0))), (q6, .inl (ci 0, 20, .inl (fun _ => 0))), (q7, .inl (ci 0, 80, .inl (fun _ => 0))), (q8, .inl (ci 0, 80, .inl (fun _ => 0))), (q9, .inl (ci 0, 5, .inl (fun _ => 0)))]) tyX9 rfl rfl (Nat.le_of_ble_eq_true rfl) inX9 tyX9_ok nmX9 rfl rfl (by decide +kernel) rfl rfl (Nat.le_of_ble_eq_true rfl) rfl qwf_X9_45 dX9_init_94 ?_
  exact qy_vret (fun k => [q0, q1, q2, q3, q4, q5, q6, q7, q8, q9].getD k 0) rfl rfl dX9_init_97
