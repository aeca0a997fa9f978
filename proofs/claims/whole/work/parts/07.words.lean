/-! words of the tables -/
theorem qwf_X6_9 : Cond.fieldLink RX6 9 "LabelPlacer$Text" "length" "I" ∈ qx_tb := qx_tbOf (List.mem_of_getElem? (i := 242) (by decide +kernel)) (by decide +kernel)
theorem qwf_X6_15 : Cond.fieldLink RX6 15 "LabelPlacer$Text" "bytes" "[B" ∈ qx_tb := qx_tbOf (List.mem_of_getElem? (i := 245) (by decide +kernel)) (by decide +kernel)
theorem qwm_X6_19 : Cond.methodLink RX6 19 yX6_at ∈ qx_tb := qx_tbOf (List.mem_of_getElem? (i := 695) (by decide +kernel)) (by decide +kernel)
theorem qwm_X0_48 : Cond.methodLink RX0 48 yX6_isWord ∈ qx_tb := qx_tbOf (List.mem_of_getElem? (i := 700) (by decide +kernel)) (by decide +kernel)
theorem qwf_X0_19 : Cond.fieldLink RX0 19 "LabelPlacer$Command" "next" "I" ∈ qx_tb := qx_tbOf (List.mem_of_getElem? (i := 262) (by decide +kernel)) (by decide +kernel)
theorem qwf_X0_26 : Cond.fieldLink RX0 26 "LabelPlacer$Text" "length" "I" ∈ qx_tb := qx_tbOf (List.mem_of_getElem? (i := 243) (by decide +kernel)) (by decide +kernel)
theorem qwm_X0_62 : Cond.methodLink RX0 62 yX6_at ∈ qx_tb := qx_tbOf (List.mem_of_getElem? (i := 687) (by decide +kernel)) (by decide +kernel)
theorem qwf_X0_9 : Cond.fieldLink RX0 9 "LabelPlacer$Command" "kind" "I" ∈ qx_tb := qx_tbOf (List.mem_of_getElem? (i := 258) (by decide +kernel)) (by decide +kernel)
theorem qwf_X0_15 : Cond.fieldLink RX0 15 "LabelPlacer$Command" "numbers" "[I" ∈ qx_tb := qx_tbOf (List.mem_of_getElem? (i := 260) (by decide +kernel)) (by decide +kernel)
theorem qwm_X0_66 : Cond.methodLink RX0 66 yX6_isDigit ∈ qx_tb := qx_tbOf (List.mem_of_getElem? (i := 763) (by decide +kernel)) (by decide +kernel)
theorem qwm_X0_22 : Cond.methodLink RX0 22 yX0_skipBlanks ∈ qx_tb := qx_tbOf (List.mem_of_getElem? (i := 683) (by decide +kernel)) (by decide +kernel)
theorem qwf_X0_39 : Cond.fieldLink RX0 39 "LabelPlacer$Command" "NUMBERS" "[I" ∈ qx_tb := qx_tbOf (List.mem_of_getElem? (i := 757) (by decide +kernel)) (by decide +kernel)
theorem qwm_X0_42 : Cond.methodLink RX0 42 yX0_readNumber ∈ qx_tb := qx_tbOf (List.mem_of_getElem? (i := 759) (by decide +kernel)) (by decide +kernel)
theorem qwm_X0_35 : Cond.methodLink RX0 35 yX0_kindOf ∈ qx_tb := qx_tbOf (List.mem_of_getElem? (i := 696) (by decide +kernel)) (by decide +kernel)
theorem qwm_X0_31 : Cond.methodLink RX0 31 yX6_isSmallLetter ∈ qx_tb := qx_tbOf (List.mem_of_getElem? (i := 691) (by decide +kernel)) (by decide +kernel)
theorem qwf_X1_19 : Cond.fieldLink RX1 19 "LabelPlacer$Labels" "shown" "[I" ∈ qx_tb := qx_tbOf (List.mem_of_getElem? (i := 179) (by decide +kernel)) (by decide +kernel)
theorem qwf_X1_9 : Cond.fieldLink RX1 9 "LabelPlacer$Labels" "points" "LLabelPlacer$Points;" ∈ qx_tb := qx_tbOf (List.mem_of_getElem? (i := 177) (by decide +kernel)) (by decide +kernel)
theorem qwf_X1_29 : Cond.fieldLink RX1 29 "LabelPlacer$Points" "many" "I" ∈ qx_tb := qx_tbOf (List.mem_of_getElem? (i := 104) (by decide +kernel)) (by decide +kernel)
theorem qwm_X1_35 : Cond.methodLink RX1 35 yX1_isShown ∈ qx_tb := qx_tbOf (List.mem_of_getElem? (i := 377) (by decide +kernel)) (by decide +kernel)
theorem qwf_X3_32 : Cond.fieldLink RX3 32 "LabelPlacer$Places" "good" "[Z" ∈ qx_tb := qx_tbOf (List.mem_of_getElem? (i := 151) (by decide +kernel)) (by decide +kernel)
theorem qwf_X1_15 : Cond.fieldLink RX1 15 "LabelPlacer$Labels" "places" "LLabelPlacer$Places;" ∈ qx_tb := qx_tbOf (List.mem_of_getElem? (i := 178) (by decide +kernel)) (by decide +kernel)
theorem qwm_X1_49 : Cond.methodLink RX1 49 yX1_manyShown ∈ qx_tb := qx_tbOf (List.mem_of_getElem? (i := 386) (by decide +kernel)) (by decide +kernel)
theorem qwm_X1_39 : Cond.methodLink RX1 39 yX3_isPlace ∈ qx_tb := qx_tbOf (List.mem_of_getElem? (i := 381) (by decide +kernel)) (by decide +kernel)
theorem qwm_X1_45 : Cond.methodLink RX1 45 yX1_hide ∈ qx_tb := qx_tbOf (List.mem_of_getElem? (i := 385) (by decide +kernel)) (by decide +kernel)
theorem qwf_X3_19 : Cond.fieldLink RX3 19 "LabelPlacer$Places" "left" "[I" ∈ qx_tb := qx_tbOf (List.mem_of_getElem? (i := 147) (by decide +kernel)) (by decide +kernel)
theorem qwf_X3_26 : Cond.fieldLink RX3 26 "LabelPlacer$Places" "right" "[I" ∈ qx_tb := qx_tbOf (List.mem_of_getElem? (i := 149) (by decide +kernel)) (by decide +kernel)
theorem qwf_X3_23 : Cond.fieldLink RX3 23 "LabelPlacer$Places" "bottom" "[I" ∈ qx_tb := qx_tbOf (List.mem_of_getElem? (i := 148) (by decide +kernel)) (by decide +kernel)
theorem qwf_X3_29 : Cond.fieldLink RX3 29 "LabelPlacer$Places" "top" "[I" ∈ qx_tb := qx_tbOf (List.mem_of_getElem? (i := 150) (by decide +kernel)) (by decide +kernel)
theorem qwm_X1_67 : Cond.methodLink RX1 67 yX3_doClash ∈ qx_tb := qx_tbOf (List.mem_of_getElem? (i := 419) (by decide +kernel)) (by decide +kernel)
theorem qwm_X1_53 : Cond.methodLink RX1 53 yX1_clashing ∈ qx_tb := qx_tbOf (List.mem_of_getElem? (i := 415) (by decide +kernel)) (by decide +kernel)
theorem qwm_X1_23 : Cond.methodLink RX1 23 yJ7_fill_53178 ∈ qx_tb := qx_tbOf (List.mem_of_getElem? (i := 174) (by decide +kernel)) (by decide +kernel)
theorem qwf_X4_15 : Cond.fieldLink RX4 15 "LabelPlacer$Points" "values" "[I" ∈ qx_tb := qx_tbOf (List.mem_of_getElem? (i := 105) (by decide +kernel)) (by decide +kernel)
theorem qwm_X1_57 : Cond.methodLink RX1 57 yX4_get ∈ qx_tb := qx_tbOf (List.mem_of_getElem? (i := 562) (by decide +kernel)) (by decide +kernel)
theorem qwm_X1_60 : Cond.methodLink RX1 60 yX3_covers ∈ qx_tb := qx_tbOf (List.mem_of_getElem? (i := 514) (by decide +kernel)) (by decide +kernel)
theorem qwf_X7_9 : Cond.fieldLink RX7 9 "LabelPlacer$Window" "x" "I" ∈ qx_tb := qx_tbOf (List.mem_of_getElem? (i := 121) (by decide +kernel)) (by decide +kernel)
theorem qwf_X7_18 : Cond.fieldLink RX7 18 "LabelPlacer$Window" "width" "I" ∈ qx_tb := qx_tbOf (List.mem_of_getElem? (i := 126) (by decide +kernel)) (by decide +kernel)
theorem qwf_X7_15 : Cond.fieldLink RX7 15 "LabelPlacer$Window" "y" "I" ∈ qx_tb := qx_tbOf (List.mem_of_getElem? (i := 123) (by decide +kernel)) (by decide +kernel)
theorem qwf_X7_21 : Cond.fieldLink RX7 21 "LabelPlacer$Window" "height" "I" ∈ qx_tb := qx_tbOf (List.mem_of_getElem? (i := 128) (by decide +kernel)) (by decide +kernel)
theorem qwf_X3_15 : Cond.fieldLink RX3 15 "LabelPlacer$Places" "window" "LLabelPlacer$Window;" ∈ qx_tb := qx_tbOf (List.mem_of_getElem? (i := 146) (by decide +kernel)) (by decide +kernel)
theorem qwf_X3_9 : Cond.fieldLink RX3 9 "LabelPlacer$Places" "points" "LLabelPlacer$Points;" ∈ qx_tb := qx_tbOf (List.mem_of_getElem? (i := 145) (by decide +kernel)) (by decide +kernel)
theorem qwm_X3_49 : Cond.methodLink RX3 49 yX4_get ∈ qx_tb := qx_tbOf (List.mem_of_getElem? (i := 347) (by decide +kernel)) (by decide +kernel)
theorem qwm_X3_66 : Cond.methodLink RX3 66 yX7_holds ∈ qx_tb := qx_tbOf (List.mem_of_getElem? (i := 368) (by decide +kernel)) (by decide +kernel)
theorem qwm_X1_64 : Cond.methodLink RX1 64 yX3_isVisible ∈ qx_tb := qx_tbOf (List.mem_of_getElem? (i := 468) (by decide +kernel)) (by decide +kernel)
theorem qwm_X1_80 : Cond.methodLink RX1 80 yX1_isFree ∈ qx_tb := qx_tbOf (List.mem_of_getElem? (i := 473) (by decide +kernel)) (by decide +kernel)
theorem qwm_X1_83 : Cond.methodLink RX1 83 yX1_put ∈ qx_tb := qx_tbOf (List.mem_of_getElem? (i := 477) (by decide +kernel)) (by decide +kernel)
theorem qwf_X4_19 : Cond.fieldLink RX4 19 "LabelPlacer$Points" "order" "[I" ∈ qx_tb := qx_tbOf (List.mem_of_getElem? (i := 106) (by decide +kernel)) (by decide +kernel)
theorem qwm_X1_70 : Cond.methodLink RX1 70 yX4_inOrder ∈ qx_tb := qx_tbOf (List.mem_of_getElem? (i := 460) (by decide +kernel)) (by decide +kernel)
theorem qwm_X1_74 : Cond.methodLink RX1 74 yX1_lacksLabel ∈ qx_tb := qx_tbOf (List.mem_of_getElem? (i := 464) (by decide +kernel)) (by decide +kernel)
theorem qwm_X1_77 : Cond.methodLink RX1 77 yX1_showOnLeastFree ∈ qx_tb := qx_tbOf (List.mem_of_getElem? (i := 469) (by decide +kernel)) (by decide +kernel)
theorem qwm_X1_90 : Cond.methodLink RX1 90 yX1_firstClashing ∈ qx_tb := qx_tbOf (List.mem_of_getElem? (i := 534) (by decide +kernel)) (by decide +kernel)
theorem qwm_X1_93 : Cond.methodLink RX1 93 yX1_moveAside ∈ qx_tb := qx_tbOf (List.mem_of_getElem? (i := 538) (by decide +kernel)) (by decide +kernel)
theorem qwm_X1_87 : Cond.methodLink RX1 87 yX1_showByMoving ∈ qx_tb := qx_tbOf (List.mem_of_getElem? (i := 530) (by decide +kernel)) (by decide +kernel)
theorem qwm_X1_107 : Cond.methodLink RX1 107 yX1_outranksClashing ∈ qx_tb := qx_tbOf (List.mem_of_getElem? (i := 558) (by decide +kernel)) (by decide +kernel)
theorem qwm_X1_101 : Cond.methodLink RX1 101 yX1_sideToPush ∈ qx_tb := qx_tbOf (List.mem_of_getElem? (i := 554) (by decide +kernel)) (by decide +kernel)
theorem qwm_X1_104 : Cond.methodLink RX1 104 yX1_hideClashing ∈ qx_tb := qx_tbOf (List.mem_of_getElem? (i := 563) (by decide +kernel)) (by decide +kernel)
theorem qwm_X1_97 : Cond.methodLink RX1 97 yX1_pushFirst ∈ qx_tb := qx_tbOf (List.mem_of_getElem? (i := 550) (by decide +kernel)) (by decide +kernel)
theorem qwf_X2_27 : Cond.fieldLink RX2 27 "LabelPlacer$Lines" "kept" "[I" ∈ qx_tb := qx_tbOf (List.mem_of_getElem? (i := 221) (by decide +kernel)) (by decide +kernel)
theorem qwf_X2_9 : Cond.fieldLink RX2 9 "LabelPlacer$Lines" "points" "LLabelPlacer$Points;" ∈ qx_tb := qx_tbOf (List.mem_of_getElem? (i := 218) (by decide +kernel)) (by decide +kernel)
theorem qwm_X2_67 : Cond.methodLink RX2 67 yX4_get ∈ qx_tb := qx_tbOf (List.mem_of_getElem? (i := 635) (by decide +kernel)) (by decide +kernel)
theorem qwf_X2_54 : Cond.fieldLink RX2 54 "LabelPlacer$Points" "many" "I" ∈ qx_tb := qx_tbOf (List.mem_of_getElem? (i := 103) (by decide +kernel)) (by decide +kernel)
theorem qwf_X2_19 : Cond.fieldLink RX2 19 "LabelPlacer$Lines" "labels" "LLabelPlacer$Labels;" ∈ qx_tb := qx_tbOf (List.mem_of_getElem? (i := 220) (by decide +kernel)) (by decide +kernel)
theorem qwf_X2_31 : Cond.fieldLink RX2 31 "LabelPlacer$Lines" "waiting" "[I" ∈ qx_tb := qx_tbOf (List.mem_of_getElem? (i := 222) (by decide +kernel)) (by decide +kernel)
theorem qwm_X2_63 : Cond.methodLink RX2 63 yX2_comesBefore ∈ qx_tb := qx_tbOf (List.mem_of_getElem? (i := 631) (by decide +kernel)) (by decide +kernel)
theorem qwm_X2_57 : Cond.methodLink RX2 57 yX1_lacksLabel ∈ qx_tb := qx_tbOf (List.mem_of_getElem? (i := 630) (by decide +kernel)) (by decide +kernel)
theorem qwf_X2_15 : Cond.fieldLink RX2 15 "LabelPlacer$Lines" "window" "LLabelPlacer$Window;" ∈ qx_tb := qx_tbOf (List.mem_of_getElem? (i := 219) (by decide +kernel)) (by decide +kernel)
theorem qwm_X2_51 : Cond.methodLink RX2 51 yX7_greatestY ∈ qx_tb := qx_tbOf (List.mem_of_getElem? (i := 640) (by decide +kernel)) (by decide +kernel)
theorem qwf_X2_23 : Cond.fieldLink RX2 23 "LabelPlacer$Lines" "many" "I" ∈ qx_tb := qx_tbOf (List.mem_of_getElem? (i := 216) (by decide +kernel)) (by decide +kernel)
theorem qwm_X2_74 : Cond.methodLink RX2 74 yJ9_abs_0f7a4 ∈ qx_tb := qx_tbOf (List.mem_of_getElem? (i := 652) (by decide +kernel)) (by decide +kernel)
theorem qwm_X2_38 : Cond.methodLink RX2 38 yX2_slotRow ∈ qx_tb := qx_tbOf (List.mem_of_getElem? (i := 636) (by decide +kernel)) (by decide +kernel)
theorem qwm_X2_71 : Cond.methodLink RX2 71 yX7_greatestX ∈ qx_tb := qx_tbOf (List.mem_of_getElem? (i := 648) (by decide +kernel)) (by decide +kernel)
theorem qwf_X2_42 : Cond.fieldLink RX2 42 "LabelPlacer$Window" "y" "I" ∈ qx_tb := qx_tbOf (List.mem_of_getElem? (i := 124) (by decide +kernel)) (by decide +kernel)
theorem qwm_X2_47 : Cond.methodLink RX2 47 yX2_keep ∈ qx_tb := qx_tbOf (List.mem_of_getElem? (i := 644) (by decide +kernel)) (by decide +kernel)
theorem qwm_X2_34 : Cond.methodLink RX2 34 yX2_gatherWaiting ∈ qx_tb := qx_tbOf (List.mem_of_getElem? (i := 626) (by decide +kernel)) (by decide +kernel)
theorem qwf_X4_9 : Cond.fieldLink RX4 9 "LabelPlacer$Points" "many" "I" ∈ qx_tb := qx_tbOf (List.mem_of_getElem? (i := 99) (by decide +kernel)) (by decide +kernel)
theorem qwm_X4_36 : Cond.methodLink RX4 36 yX4_get ∈ qx_tb := qx_tbOf (List.mem_of_getElem? (i := 314) (by decide +kernel)) (by decide +kernel)
theorem qwm_X3_56 : Cond.methodLink RX3 56 yX3_leftOf ∈ qx_tb := qx_tbOf (List.mem_of_getElem? (i := 356) (by decide +kernel)) (by decide +kernel)
theorem qwm_X3_59 : Cond.methodLink RX3 59 yX3_bottomOf ∈ qx_tb := qx_tbOf (List.mem_of_getElem? (i := 360) (by decide +kernel)) (by decide +kernel)
theorem qwm_X3_62 : Cond.methodLink RX3 62 yX3_isVisible ∈ qx_tb := qx_tbOf (List.mem_of_getElem? (i := 364) (by decide +kernel)) (by decide +kernel)
theorem qwm_X3_72 : Cond.methodLink RX3 72 yX4_isIn ∈ qx_tb := qx_tbOf (List.mem_of_getElem? (i := 372) (by decide +kernel)) (by decide +kernel)
theorem qwf_X3_36 : Cond.fieldLink RX3 36 "LabelPlacer$Points" "many" "I" ∈ qx_tb := qx_tbOf (List.mem_of_getElem? (i := 100) (by decide +kernel)) (by decide +kernel)
theorem qwm_X3_42 : Cond.methodLink RX3 42 yX3_findLeft ∈ qx_tb := qx_tbOf (List.mem_of_getElem? (i := 343) (by decide +kernel)) (by decide +kernel)
theorem qwm_X3_46 : Cond.methodLink RX3 46 yX3_findBottom ∈ qx_tb := qx_tbOf (List.mem_of_getElem? (i := 348) (by decide +kernel)) (by decide +kernel)
theorem qwm_X3_52 : Cond.methodLink RX3 52 yX3_isGood ∈ qx_tb := qx_tbOf (List.mem_of_getElem? (i := 352) (by decide +kernel)) (by decide +kernel)
theorem qwm_X3_75 : Cond.methodLink RX3 75 yX3_isPlace ∈ qx_tb := qx_tbOf (List.mem_of_getElem? (i := 436) (by decide +kernel)) (by decide +kernel)
theorem qwm_X3_78 : Cond.methodLink RX3 78 yX3_manyOf ∈ qx_tb := qx_tbOf (List.mem_of_getElem? (i := 778) (by decide +kernel)) (by decide +kernel)
theorem qwm_X3_86 : Cond.methodLink RX3 86 yX3_doClash ∈ qx_tb := qx_tbOf (List.mem_of_getElem? (i := 499) (by decide +kernel)) (by decide +kernel)
theorem qwm_X3_82 : Cond.methodLink RX3 82 yX3_clashesBefore ∈ qx_tb := qx_tbOf (List.mem_of_getElem? (i := 495) (by decide +kernel)) (by decide +kernel)
theorem qwf_X4_22 : Cond.fieldLink RX4 22 "LabelPlacer$Points" "LEAST" "[I" ∈ qx_tb := qx_tbOf (List.mem_of_getElem? (i := 302) (by decide +kernel)) (by decide +kernel)
theorem qwf_X4_25 : Cond.fieldLink RX4 25 "LabelPlacer$Points" "GREATEST" "[I" ∈ qx_tb := qx_tbOf (List.mem_of_getElem? (i := 304) (by decide +kernel)) (by decide +kernel)
theorem qwm_X4_28 : Cond.methodLink RX4 28 yX4_put ∈ qx_tb := qx_tbOf (List.mem_of_getElem? (i := 322) (by decide +kernel)) (by decide +kernel)
theorem qwm_X4_32 : Cond.methodLink RX4 32 yX4_isIn ∈ qx_tb := qx_tbOf (List.mem_of_getElem? (i := 310) (by decide +kernel)) (by decide +kernel)
theorem qwf_X5_9 : Cond.fieldLink RX5 9 "LabelPlacer$Search" "points" "LLabelPlacer$Points;" ∈ qx_tb := qx_tbOf (List.mem_of_getElem? (i := 193) (by decide +kernel)) (by decide +kernel)
theorem qwf_X5_19 : Cond.fieldLink RX5 19 "LabelPlacer$Search" "candidates" "[I" ∈ qx_tb := qx_tbOf (List.mem_of_getElem? (i := 195) (by decide +kernel)) (by decide +kernel)
theorem qwm_X5_80 : Cond.methodLink RX5 80 yX4_get ∈ qx_tb := qx_tbOf (List.mem_of_getElem? (i := 616) (by decide +kernel)) (by decide +kernel)
theorem qwf_X5_27 : Cond.fieldLink RX5 27 "LabelPlacer$Search" "many" "I" ∈ qx_tb := qx_tbOf (List.mem_of_getElem? (i := 197) (by decide +kernel)) (by decide +kernel)
theorem qwc_X5_78 : Cond.constantLong RX5 78 255 ∈ qx_tb := qx_tbOf (List.mem_of_getElem? (i := 611) (by decide +kernel)) (by decide +kernel)
theorem qwm_X5_73 : Cond.methodLink RX5 73 yX5_priorityOf ∈ qx_tb := qx_tbOf (List.mem_of_getElem? (i := 612) (by decide +kernel)) (by decide +kernel)
theorem qwm_X5_63 : Cond.methodLink RX5 63 yJ9_max_7cf53 ∈ qx_tb := qx_tbOf (List.mem_of_getElem? (i := 604) (by decide +kernel)) (by decide +kernel)
theorem qwf_X5_23 : Cond.fieldLink RX5 23 "LabelPlacer$Search" "clashMasks" "[J" ∈ qx_tb := qx_tbOf (List.mem_of_getElem? (i := 196) (by decide +kernel)) (by decide +kernel)
theorem qwc_X5_76 : Cond.constantLong RX5 76 (-1) ∈ qx_tb := qx_tbOf (List.mem_of_getElem? (i := 617) (by decide +kernel)) (by decide +kernel)
theorem qwm_X5_45 : Cond.methodLink RX5 45 yX5_bestFrom ∈ qx_tb := qx_tbOf (List.mem_of_getElem? (i := 601) (by decide +kernel)) (by decide +kernel)
theorem qwm_X5_69 : Cond.methodLink RX5 69 yX5_sumInReach ∈ qx_tb := qx_tbOf (List.mem_of_getElem? (i := 607) (by decide +kernel)) (by decide +kernel)
theorem qwf_X5_49 : Cond.fieldLink RX5 49 "LabelPlacer$Points" "many" "I" ∈ qx_tb := qx_tbOf (List.mem_of_getElem? (i := 102) (by decide +kernel)) (by decide +kernel)
theorem qwf_X5_15 : Cond.fieldLink RX5 15 "LabelPlacer$Search" "places" "LLabelPlacer$Places;" ∈ qx_tb := qx_tbOf (List.mem_of_getElem? (i := 194) (by decide +kernel)) (by decide +kernel)
theorem qwm_X5_52 : Cond.methodLink RX5 52 yX4_inOrder ∈ qx_tb := qx_tbOf (List.mem_of_getElem? (i := 593) (by decide +kernel)) (by decide +kernel)
theorem qwm_X5_56 : Cond.methodLink RX5 56 yX3_manyOf ∈ qx_tb := qx_tbOf (List.mem_of_getElem? (i := 594) (by decide +kernel)) (by decide +kernel)
theorem qwm_X5_59 : Cond.methodLink RX5 59 yX3_doClash ∈ qx_tb := qx_tbOf (List.mem_of_getElem? (i := 600) (by decide +kernel)) (by decide +kernel)
theorem qwm_X5_41 : Cond.methodLink RX5 41 yX5_maskOfClashes ∈ qx_tb := qx_tbOf (List.mem_of_getElem? (i := 596) (by decide +kernel)) (by decide +kernel)
theorem qwm_X5_35 : Cond.methodLink RX5 35 yX3_isPlace ∈ qx_tb := qx_tbOf (List.mem_of_getElem? (i := 595) (by decide +kernel)) (by decide +kernel)
theorem qwm_X5_31 : Cond.methodLink RX5 31 yX5_gatherCandidates ∈ qx_tb := qx_tbOf (List.mem_of_getElem? (i := 589) (by decide +kernel)) (by decide +kernel)
theorem qwf_X8_12 : Cond.fieldLink RX8 12 "LabelPlacer" "points" "LLabelPlacer$Points;" ∈ qx_tb := qx_tbOf (List.mem_of_getElem? (i := 270) (by decide +kernel)) (by decide +kernel)
theorem qwf_X8_28 : Cond.fieldLink RX8 28 "LabelPlacer" "places" "LLabelPlacer$Places;" ∈ qx_tb := qx_tbOf (List.mem_of_getElem? (i := 272) (by decide +kernel)) (by decide +kernel)
theorem qwf_X8_37 : Cond.fieldLink RX8 37 "LabelPlacer" "labels" "LLabelPlacer$Labels;" ∈ qx_tb := qx_tbOf (List.mem_of_getElem? (i := 273) (by decide +kernel)) (by decide +kernel)
theorem qwm_X8_146 : Cond.methodLink RX8 146 yX4_putInOrder ∈ qx_tb := qx_tbOf (List.mem_of_getElem? (i := 335) (by decide +kernel)) (by decide +kernel)
theorem qwm_X8_149 : Cond.methodLink RX8 149 yX3_findAll ∈ qx_tb := qx_tbOf (List.mem_of_getElem? (i := 339) (by decide +kernel)) (by decide +kernel)
theorem qwm_X8_152 : Cond.methodLink RX8 152 yX1_dropLost ∈ qx_tb := qx_tbOf (List.mem_of_getElem? (i := 373) (by decide +kernel)) (by decide +kernel)
theorem qwf_X8_78 : Cond.fieldLink RX8 78 "LabelPlacer$Points" "many" "I" ∈ qx_tb := qx_tbOf (List.mem_of_getElem? (i := 101) (by decide +kernel)) (by decide +kernel)
theorem qwm_X8_75 : Cond.methodLink RX8 75 yX4_isAt ∈ qx_tb := qx_tbOf (List.mem_of_getElem? (i := 306) (by decide +kernel)) (by decide +kernel)
theorem qwm_X8_82 : Cond.methodLink RX8 82 yX4_append ∈ qx_tb := qx_tbOf (List.mem_of_getElem? (i := 318) (by decide +kernel)) (by decide +kernel)
theorem qwm_X8_86 : Cond.methodLink RX8 86 yX4_put ∈ qx_tb := qx_tbOf (List.mem_of_getElem? (i := 326) (by decide +kernel)) (by decide +kernel)
theorem qwm_X8_90 : Cond.methodLink RX8 90 yX1_hide ∈ qx_tb := qx_tbOf (List.mem_of_getElem? (i := 327) (by decide +kernel)) (by decide +kernel)
theorem qwm_X8_94 : Cond.methodLink RX8 94 yX8_renew ∈ qx_tb := qx_tbOf (List.mem_of_getElem? (i := 331) (by decide +kernel)) (by decide +kernel)
theorem qwm_X8_71 : Cond.methodLink RX8 71 yX4_allows ∈ qx_tb := qx_tbOf (List.mem_of_getElem? (i := 299) (by decide +kernel)) (by decide +kernel)
theorem qwm_X8_98 : Cond.methodLink RX8 98 yX4_has ∈ qx_tb := qx_tbOf (List.mem_of_getElem? (i := 394) (by decide +kernel)) (by decide +kernel)
theorem qwm_X8_102 : Cond.methodLink RX8 102 yX1_closeGap ∈ qx_tb := qx_tbOf (List.mem_of_getElem? (i := 398) (by decide +kernel)) (by decide +kernel)
theorem qwm_X8_105 : Cond.methodLink RX8 105 yX4_closeGap ∈ qx_tb := qx_tbOf (List.mem_of_getElem? (i := 402) (by decide +kernel)) (by decide +kernel)
theorem qwm_X8_106 : Cond.methodLink RX8 106 yX4_get ∈ qx_tb := qx_tbOf (List.mem_of_getElem? (i := 410) (by decide +kernel)) (by decide +kernel)
theorem qwm_X8_109 : Cond.methodLink RX8 109 yX1_hideIfClashing ∈ qx_tb := qx_tbOf (List.mem_of_getElem? (i := 411) (by decide +kernel)) (by decide +kernel)
theorem qwm_X8_112 : Cond.methodLink RX8 112 yX3_isVisible ∈ qx_tb := qx_tbOf (List.mem_of_getElem? (i := 427) (by decide +kernel)) (by decide +kernel)
theorem qwm_X8_115 : Cond.methodLink RX8 115 yX1_sideOf ∈ qx_tb := qx_tbOf (List.mem_of_getElem? (i := 428) (by decide +kernel)) (by decide +kernel)
theorem qwm_X8_119 : Cond.methodLink RX8 119 yX3_manyOf ∈ qx_tb := qx_tbOf (List.mem_of_getElem? (i := 432) (by decide +kernel)) (by decide +kernel)
theorem qwf_X8_19 : Cond.fieldLink RX8 19 "LabelPlacer" "window" "LLabelPlacer$Window;" ∈ qx_tb := qx_tbOf (List.mem_of_getElem? (i := 271) (by decide +kernel)) (by decide +kernel)
theorem qwm_X8_122 : Cond.methodLink RX8 122 yX7_allows ∈ qx_tb := qx_tbOf (List.mem_of_getElem? (i := 441) (by decide +kernel)) (by decide +kernel)
theorem qwm_X8_125 : Cond.methodLink RX8 125 yX7_put ∈ qx_tb := qx_tbOf (List.mem_of_getElem? (i := 444) (by decide +kernel)) (by decide +kernel)
theorem qwm_X8_128 : Cond.methodLink RX8 128 yX3_visiblePoints ∈ qx_tb := qx_tbOf (List.mem_of_getElem? (i := 448) (by decide +kernel)) (by decide +kernel)
theorem qwf_X8_131 : Cond.fieldLink RX8 131 "LabelPlacer$Window" "x" "I" ∈ qx_tb := qx_tbOf (List.mem_of_getElem? (i := 122) (by decide +kernel)) (by decide +kernel)
theorem qwf_X8_134 : Cond.fieldLink RX8 134 "LabelPlacer$Window" "y" "I" ∈ qx_tb := qx_tbOf (List.mem_of_getElem? (i := 125) (by decide +kernel)) (by decide +kernel)
theorem qwf_X8_137 : Cond.fieldLink RX8 137 "LabelPlacer$Window" "width" "I" ∈ qx_tb := qx_tbOf (List.mem_of_getElem? (i := 127) (by decide +kernel)) (by decide +kernel)
theorem qwf_X8_140 : Cond.fieldLink RX8 140 "LabelPlacer$Window" "height" "I" ∈ qx_tb := qx_tbOf (List.mem_of_getElem? (i := 129) (by decide +kernel)) (by decide +kernel)
theorem qwm_X8_143 : Cond.methodLink RX8 143 yX1_addFree ∈ qx_tb := qx_tbOf (List.mem_of_getElem? (i := 456) (by decide +kernel)) (by decide +kernel)
theorem qwm_X8_155 : Cond.methodLink RX8 155 yX8_isSide ∈ qx_tb := qx_tbOf (List.mem_of_getElem? (i := 485) (by decide +kernel)) (by decide +kernel)
theorem qwm_X8_158 : Cond.methodLink RX8 158 yX3_isPlace ∈ qx_tb := qx_tbOf (List.mem_of_getElem? (i := 488) (by decide +kernel)) (by decide +kernel)
theorem qwm_X8_161 : Cond.methodLink RX8 161 yX3_leftOf ∈ qx_tb := qx_tbOf (List.mem_of_getElem? (i := 489) (by decide +kernel)) (by decide +kernel)
theorem qwm_X8_164 : Cond.methodLink RX8 164 yX3_bottomOf ∈ qx_tb := qx_tbOf (List.mem_of_getElem? (i := 490) (by decide +kernel)) (by decide +kernel)
theorem qwm_X8_167 : Cond.methodLink RX8 167 yX3_clashesOf ∈ qx_tb := qx_tbOf (List.mem_of_getElem? (i := 491) (by decide +kernel)) (by decide +kernel)
theorem qwm_X8_170 : Cond.methodLink RX8 170 yX1_clashing ∈ qx_tb := qx_tbOf (List.mem_of_getElem? (i := 500) (by decide +kernel)) (by decide +kernel)
theorem qwm_X8_173 : Cond.methodLink RX8 173 yX3_doClash ∈ qx_tb := qx_tbOf (List.mem_of_getElem? (i := 505) (by decide +kernel)) (by decide +kernel)
theorem qwm_X8_177 : Cond.methodLink RX8 177 yX1_ownerOf ∈ qx_tb := qx_tbOf (List.mem_of_getElem? (i := 510) (by decide +kernel)) (by decide +kernel)
theorem qwm_X8_180 : Cond.methodLink RX8 180 yX1_makeRoom ∈ qx_tb := qx_tbOf (List.mem_of_getElem? (i := 526) (by decide +kernel)) (by decide +kernel)
theorem qwm_X8_183 : Cond.methodLink RX8 183 yX1_pushAway ∈ qx_tb := qx_tbOf (List.mem_of_getElem? (i := 546) (by decide +kernel)) (by decide +kernel)
theorem qwm_X8_186 : Cond.methodLink RX8 186 yX1_isFree ∈ qx_tb := qx_tbOf (List.mem_of_getElem? (i := 571) (by decide +kernel)) (by decide +kernel)
theorem qwm_X8_189 : Cond.methodLink RX8 189 yX1_put ∈ qx_tb := qx_tbOf (List.mem_of_getElem? (i := 572) (by decide +kernel)) (by decide +kernel)
theorem qwm_X8_192 : Cond.methodLink RX8 192 yX1_hideEach ∈ qx_tb := qx_tbOf (List.mem_of_getElem? (i := 577) (by decide +kernel)) (by decide +kernel)
theorem qwf_X8_44 : Cond.fieldLink RX8 44 "LabelPlacer" "search" "LLabelPlacer$Search;" ∈ qx_tb := qx_tbOf (List.mem_of_getElem? (i := 274) (by decide +kernel)) (by decide +kernel)
theorem qwm_X8_195 : Cond.methodLink RX8 195 yX5_greatestSum ∈ qx_tb := qx_tbOf (List.mem_of_getElem? (i := 585) (by decide +kernel)) (by decide +kernel)
theorem qwf_X8_53 : Cond.fieldLink RX8 53 "LabelPlacer" "lines" "LLabelPlacer$Lines;" ∈ qx_tb := qx_tbOf (List.mem_of_getElem? (i := 275) (by decide +kernel)) (by decide +kernel)
theorem qwm_X8_198 : Cond.methodLink RX8 198 yX2_lay ∈ qx_tb := qx_tbOf (List.mem_of_getElem? (i := 622) (by decide +kernel)) (by decide +kernel)
theorem qwf_X8_201 : Cond.fieldLink RX8 201 "LabelPlacer$Lines" "many" "I" ∈ qx_tb := qx_tbOf (List.mem_of_getElem? (i := 217) (by decide +kernel)) (by decide +kernel)
theorem qwm_X8_202 : Cond.methodLink RX8 202 yX2_get ∈ qx_tb := qx_tbOf (List.mem_of_getElem? (i := 659) (by decide +kernel)) (by decide +kernel)
theorem qwf_X8_60 : Cond.fieldLink RX8 60 "LabelPlacer" "text" "LLabelPlacer$Text;" ∈ qx_tb := qx_tbOf (List.mem_of_getElem? (i := 276) (by decide +kernel)) (by decide +kernel)
theorem qwf_X8_203 : Cond.fieldLink RX8 203 "LabelPlacer$Text" "length" "I" ∈ qx_tb := qx_tbOf (List.mem_of_getElem? (i := 244) (by decide +kernel)) (by decide +kernel)
theorem qwm_X8_206 : Cond.methodLink RX8 206 yX6_append ∈ qx_tb := qx_tbOf (List.mem_of_getElem? (i := 667) (by decide +kernel)) (by decide +kernel)
theorem qwf_X8_67 : Cond.fieldLink RX8 67 "LabelPlacer" "command" "LLabelPlacer$Command;" ∈ qx_tb := qx_tbOf (List.mem_of_getElem? (i := 277) (by decide +kernel)) (by decide +kernel)
theorem qwf_X8_212 : Cond.fieldLink RX8 212 "LabelPlacer$Command" "numbers" "[I" ∈ qx_tb := qx_tbOf (List.mem_of_getElem? (i := 261) (by decide +kernel)) (by decide +kernel)
theorem qwf_X8_216 : Cond.fieldLink RX8 216 "LabelPlacer$Command" "kind" "I" ∈ qx_tb := qx_tbOf (List.mem_of_getElem? (i := 259) (by decide +kernel)) (by decide +kernel)
theorem qwm_X8_208 : Cond.methodLink RX8 208 yX0_read ∈ qx_tb := qx_tbOf (List.mem_of_getElem? (i := 679) (by decide +kernel)) (by decide +kernel)
theorem qwm_X8_219 : Cond.methodLink RX8 219 yX8_addPoint ∈ qx_tb := qx_tbOf (List.mem_of_getElem? (i := 767) (by decide +kernel)) (by decide +kernel)
theorem qwm_X8_223 : Cond.methodLink RX8 223 yX8_setWindow ∈ qx_tb := qx_tbOf (List.mem_of_getElem? (i := 768) (by decide +kernel)) (by decide +kernel)
theorem qwm_X8_227 : Cond.methodLink RX8 227 yX8_pan ∈ qx_tb := qx_tbOf (List.mem_of_getElem? (i := 769) (by decide +kernel)) (by decide +kernel)
theorem qwm_X8_230 : Cond.methodLink RX8 230 yX3_manyOfAll ∈ qx_tb := qx_tbOf (List.mem_of_getElem? (i := 774) (by decide +kernel)) (by decide +kernel)
theorem qwm_X8_233 : Cond.methodLink RX8 233 yX3_clashingPairs ∈ qx_tb := qx_tbOf (List.mem_of_getElem? (i := 779) (by decide +kernel)) (by decide +kernel)
theorem qwm_X8_236 : Cond.methodLink RX8 236 yX1_manyShown ∈ qx_tb := qx_tbOf (List.mem_of_getElem? (i := 783) (by decide +kernel)) (by decide +kernel)
theorem qwm_X8_239 : Cond.methodLink RX8 239 yX1_sumShown ∈ qx_tb := qx_tbOf (List.mem_of_getElem? (i := 784) (by decide +kernel)) (by decide +kernel)
theorem qwm_X8_242 : Cond.methodLink RX8 242 yX1_manyThatCanPush ∈ qx_tb := qx_tbOf (List.mem_of_getElem? (i := 788) (by decide +kernel)) (by decide +kernel)
theorem qwc_X8_247 : Cond.constantLong RX8 247 31 ∈ qx_tb := qx_tbOf (List.mem_of_getElem? (i := 797) (by decide +kernel)) (by decide +kernel)
theorem qwm_X8_265 : Cond.methodLink RX8 265 yX8_place ∈ qx_tb := qx_tbOf (List.mem_of_getElem? (i := 804) (by decide +kernel)) (by decide +kernel)
theorem qwm_X8_262 : Cond.methodLink RX8 262 yX8_point ∈ qx_tb := qx_tbOf (List.mem_of_getElem? (i := 803) (by decide +kernel)) (by decide +kernel)
theorem qwc_X8_245 : Cond.constantLong RX8 245 325 ∈ qx_tb := qx_tbOf (List.mem_of_getElem? (i := 796) (by decide +kernel)) (by decide +kernel)
theorem qwm_X8_256 : Cond.methodLink RX8 256 yX8_leader ∈ qx_tb := qx_tbOf (List.mem_of_getElem? (i := 805) (by decide +kernel)) (by decide +kernel)
theorem qwm_X8_259 : Cond.methodLink RX8 259 yX6_at ∈ qx_tb := qx_tbOf (List.mem_of_getElem? (i := 806) (by decide +kernel)) (by decide +kernel)
theorem qwm_X8_252 : Cond.methodLink RX8 252 yX8_withPoint ∈ qx_tb := qx_tbOf (List.mem_of_getElem? (i := 799) (by decide +kernel)) (by decide +kernel)
theorem qwm_X8_249 : Cond.methodLink RX8 249 yX8_count ∈ qx_tb := qx_tbOf (List.mem_of_getElem? (i := 798) (by decide +kernel)) (by decide +kernel)
theorem qwf_X9_48 : Cond.fieldLink RX9 48 "LabelPlacerModel" "many" "I" ∈ qx_tb := qx_tbOf (List.mem_of_getElem? (i := 814) (by decide +kernel)) (by decide +kernel)
theorem qwm_X9_51 : Cond.methodLink RX9 51 yX9_in ∈ qx_tb := qx_tbOf (List.mem_of_getElem? (i := 882) (by decide +kernel)) (by decide +kernel)
theorem qwf_X9_7 : Cond.fieldLink RX9 7 "LabelPlacerModel" "m" "[I" ∈ qx_tb := qx_tbOf (List.mem_of_getElem? (i := 813) (by decide +kernel)) (by decide +kernel)
theorem qwf_X9_55 : Cond.fieldLink RX9 55 "LabelPlacerModel" "wx" "I" ∈ qx_tb := qx_tbOf (List.mem_of_getElem? (i := 815) (by decide +kernel)) (by decide +kernel)
theorem qwf_X9_13 : Cond.fieldLink RX9 13 "LabelPlacerModel" "ww" "I" ∈ qx_tb := qx_tbOf (List.mem_of_getElem? (i := 817) (by decide +kernel)) (by decide +kernel)
theorem qwf_X9_58 : Cond.fieldLink RX9 58 "LabelPlacerModel" "wy" "I" ∈ qx_tb := qx_tbOf (List.mem_of_getElem? (i := 816) (by decide +kernel)) (by decide +kernel)
theorem qwf_X9_17 : Cond.fieldLink RX9 17 "LabelPlacerModel" "wh" "I" ∈ qx_tb := qx_tbOf (List.mem_of_getElem? (i := 818) (by decide +kernel)) (by decide +kernel)
theorem qwm_X9_61 : Cond.methodLink RX9 61 yX9_left ∈ qx_tb := qx_tbOf (List.mem_of_getElem? (i := 908) (by decide +kernel)) (by decide +kernel)
theorem qwm_X9_65 : Cond.methodLink RX9 65 yX9_bottom ∈ qx_tb := qx_tbOf (List.mem_of_getElem? (i := 912) (by decide +kernel)) (by decide +kernel)
theorem qwm_X9_72 : Cond.methodLink RX9 72 yX9_covers ∈ qx_tb := qx_tbOf (List.mem_of_getElem? (i := 920) (by decide +kernel)) (by decide +kernel)
theorem qwm_X9_68 : Cond.methodLink RX9 68 yX9_isVisible ∈ qx_tb := qx_tbOf (List.mem_of_getElem? (i := 916) (by decide +kernel)) (by decide +kernel)
theorem qwf_X9_20 : Cond.fieldLink RX9 20 "LabelPlacerModel" "place" "[Z" ∈ qx_tb := qx_tbOf (List.mem_of_getElem? (i := 819) (by decide +kernel)) (by decide +kernel)
theorem qwm_X9_76 : Cond.methodLink RX9 76 yX9_finds ∈ qx_tb := qx_tbOf (List.mem_of_getElem? (i := 904) (by decide +kernel)) (by decide +kernel)
theorem qwm_X9_80 : Cond.methodLink RX9 80 yX9_meet ∈ qx_tb := qx_tbOf (List.mem_of_getElem? (i := 940) (by decide +kernel)) (by decide +kernel)
theorem qwm_X9_83 : Cond.methodLink RX9 83 yX9_findsAll ∈ qx_tb := qx_tbOf (List.mem_of_getElem? (i := 900) (by decide +kernel)) (by decide +kernel)
theorem qwf_X9_24 : Cond.fieldLink RX9 24 "LabelPlacerModel" "order" "[I" ∈ qx_tb := qx_tbOf (List.mem_of_getElem? (i := 820) (by decide +kernel)) (by decide +kernel)
theorem qwc_X9_92 : Cond.constantLong RX9 92 255 ∈ qx_tb := qx_tbOf (List.mem_of_getElem? (i := 891) (by decide +kernel)) (by decide +kernel)
theorem qwc_X9_90 : Cond.constantLong RX9 90 9 ∈ qx_tb := qx_tbOf (List.mem_of_getElem? (i := 890) (by decide +kernel)) (by decide +kernel)
theorem qwc_X9_88 : Cond.constantLong RX9 88 6 ∈ qx_tb := qx_tbOf (List.mem_of_getElem? (i := 889) (by decide +kernel)) (by decide +kernel)
theorem qwc_X9_86 : Cond.constantLong RX9 86 20 ∈ qx_tb := qx_tbOf (List.mem_of_getElem? (i := 888) (by decide +kernel)) (by decide +kernel)
theorem qwc_X9_94 : Cond.constantLong RX9 94 199 ∈ qx_tb := qx_tbOf (List.mem_of_getElem? (i := 881) (by decide +kernel)) (by decide +kernel)
theorem qwm_X9_96 : Cond.methodLink RX9 96 yX9_isProperty ∈ qx_tb := qx_tbOf (List.mem_of_getElem? (i := 885) (by decide +kernel)) (by decide +kernel)
theorem qwm_X9_99 : Cond.methodLink RX9 99 yX9_pointAt ∈ qx_tb := qx_tbOf (List.mem_of_getElem? (i := 892) (by decide +kernel)) (by decide +kernel)
theorem qwm_X9_102 : Cond.methodLink RX9 102 yX9_settles ∈ qx_tb := qx_tbOf (List.mem_of_getElem? (i := 896) (by decide +kernel)) (by decide +kernel)
theorem qwm_X9_105 : Cond.methodLink RX9 105 yX9_isPoint ∈ qx_tb := qx_tbOf (List.mem_of_getElem? (i := 928) (by decide +kernel)) (by decide +kernel)
theorem qwm_X9_108 : Cond.methodLink RX9 108 yX9_clashes ∈ qx_tb := qx_tbOf (List.mem_of_getElem? (i := 936) (by decide +kernel)) (by decide +kernel)
theorem qwm_X9_112 : Cond.methodLink RX9 112 yX9_placesOf ∈ qx_tb := qx_tbOf (List.mem_of_getElem? (i := 953) (by decide +kernel)) (by decide +kernel)
theorem qwc_X9_116 : Cond.constantLong RX9 116 8 ∈ qx_tb := qx_tbOf (List.mem_of_getElem? (i := 948) (by decide +kernel)) (by decide +kernel)
theorem qwm_X9_118 : Cond.methodLink RX9 118 yX9_part ∈ qx_tb := qx_tbOf (List.mem_of_getElem? (i := 949) (by decide +kernel)) (by decide +kernel)
theorem qwc_X9_121 : Cond.constantLong RX9 121 10 ∈ qx_tb := qx_tbOf (List.mem_of_getElem? (i := 961) (by decide +kernel)) (by decide +kernel)
theorem qwc_X9_123 : Cond.constantLong RX9 123 100 ∈ qx_tb := qx_tbOf (List.mem_of_getElem? (i := 962) (by decide +kernel)) (by decide +kernel)
theorem qwm_X9_125 : Cond.methodLink RX9 125 yX9_visible ∈ qx_tb := qx_tbOf (List.mem_of_getElem? (i := 963) (by decide +kernel)) (by decide +kernel)
theorem qwm_X9_151 : Cond.methodLink RX9 151 yX9_wants ∈ qx_tb := qx_tbOf (List.mem_of_getElem? (i := 983) (by decide +kernel)) (by decide +kernel)
theorem qwm_X9_148 : Cond.methodLink RX9 148 yX9_orders ∈ qx_tb := qx_tbOf (List.mem_of_getElem? (i := 979) (by decide +kernel)) (by decide +kernel)
theorem qwm_X9_129 : Cond.methodLink RX9 129 yX9_shown ∈ qx_tb := qx_tbOf (List.mem_of_getElem? (i := 971) (by decide +kernel)) (by decide +kernel)
theorem qwm_X9_132 : Cond.methodLink RX9 132 yX9_fill ∈ qx_tb := qx_tbOf (List.mem_of_getElem? (i := 975) (by decide +kernel)) (by decide +kernel)
theorem qwm_X9_135 : Cond.methodLink RX9 135 yX9_meets ∈ qx_tb := qx_tbOf (List.mem_of_getElem? (i := 1000) (by decide +kernel)) (by decide +kernel)
theorem qwc_X9_138 : Cond.constantLong RX9 138 7 ∈ qx_tb := qx_tbOf (List.mem_of_getElem? (i := 994) (by decide +kernel)) (by decide +kernel)
theorem qwc_X9_143 : Cond.constantLong RX9 143 4 ∈ qx_tb := qx_tbOf (List.mem_of_getElem? (i := 995) (by decide +kernel)) (by decide +kernel)
theorem qwm_X9_140 : Cond.methodLink RX9 140 yX9_isSide ∈ qx_tb := qx_tbOf (List.mem_of_getElem? (i := 991) (by decide +kernel)) (by decide +kernel)
theorem qwm_X9_145 : Cond.methodLink RX9 145 yX9_placePart ∈ qx_tb := qx_tbOf (List.mem_of_getElem? (i := 996) (by decide +kernel)) (by decide +kernel)
theorem qwm_X9_154 : Cond.methodLink RX9 154 yX9_clashing ∈ qx_tb := qx_tbOf (List.mem_of_getElem? (i := 1021) (by decide +kernel)) (by decide +kernel)
theorem qwm_X9_157 : Cond.methodLink RX9 157 yX9_escapes ∈ qx_tb := qx_tbOf (List.mem_of_getElem? (i := 1025) (by decide +kernel)) (by decide +kernel)
theorem qwm_X9_160 : Cond.methodLink RX9 160 yX9_makesRoom ∈ qx_tb := qx_tbOf (List.mem_of_getElem? (i := 1017) (by decide +kernel)) (by decide +kernel)
theorem qwm_X9_163 : Cond.methodLink RX9 163 yX9_isStronger ∈ qx_tb := qx_tbOf (List.mem_of_getElem? (i := 1041) (by decide +kernel)) (by decide +kernel)
theorem qwm_X9_166 : Cond.methodLink RX9 166 yX9_strongest ∈ qx_tb := qx_tbOf (List.mem_of_getElem? (i := 1037) (by decide +kernel)) (by decide +kernel)
theorem qwm_X9_169 : Cond.methodLink RX9 169 yX9_pushes ∈ qx_tb := qx_tbOf (List.mem_of_getElem? (i := 1033) (by decide +kernel)) (by decide +kernel)
theorem qwf_X9_27 : Cond.fieldLink RX9 27 "LabelPlacerModel" "tried" "[I" ∈ qx_tb := qx_tbOf (List.mem_of_getElem? (i := 821) (by decide +kernel)) (by decide +kernel)
theorem qwf_X9_30 : Cond.fieldLink RX9 30 "LabelPlacerModel" "those" "[I" ∈ qx_tb := qx_tbOf (List.mem_of_getElem? (i := 822) (by decide +kernel)) (by decide +kernel)
theorem qwm_X9_176 : Cond.methodLink RX9 176 yX9_sum ∈ qx_tb := qx_tbOf (List.mem_of_getElem? (i := 1061) (by decide +kernel)) (by decide +kernel)
theorem qwm_X9_173 : Cond.methodLink RX9 173 yX9_fitsWith ∈ qx_tb := qx_tbOf (List.mem_of_getElem? (i := 1057) (by decide +kernel)) (by decide +kernel)
theorem qwf_X9_182 : Cond.fieldLink RX9 182 "LabelPlacerModel" "leaders" "I" ∈ qx_tb := qx_tbOf (List.mem_of_getElem? (i := 824) (by decide +kernel)) (by decide +kernel)
theorem qwf_X9_36 : Cond.fieldLink RX9 36 "LabelPlacerModel" "queue" "[I" ∈ qx_tb := qx_tbOf (List.mem_of_getElem? (i := 825) (by decide +kernel)) (by decide +kernel)
theorem qwf_X9_33 : Cond.fieldLink RX9 33 "LabelPlacerModel" "leader" "[I" ∈ qx_tb := qx_tbOf (List.mem_of_getElem? (i := 823) (by decide +kernel)) (by decide +kernel)
theorem qwm_X9_179 : Cond.methodLink RX9 179 yX9_isAhead ∈ qx_tb := qx_tbOf (List.mem_of_getElem? (i := 1069) (by decide +kernel)) (by decide +kernel)
theorem qwc_X9_185 : Cond.constantLong RX9 185 3 ∈ qx_tb := qx_tbOf (List.mem_of_getElem? (i := 1077) (by decide +kernel)) (by decide +kernel)
theorem qwc_X9_187 : Cond.constantLong RX9 187 127 ∈ qx_tb := qx_tbOf (List.mem_of_getElem? (i := 1082) (by decide +kernel)) (by decide +kernel)
theorem qwf_X9_189 : Cond.fieldLink RX9 189 "LabelPlacerModel" "textLength" "I" ∈ qx_tb := qx_tbOf (List.mem_of_getElem? (i := 827) (by decide +kernel)) (by decide +kernel)
theorem qwf_X9_39 : Cond.fieldLink RX9 39 "LabelPlacerModel" "text" "[I" ∈ qx_tb := qx_tbOf (List.mem_of_getElem? (i := 826) (by decide +kernel)) (by decide +kernel)
theorem qwf_X9_192 : Cond.fieldLink RX9 192 "LabelPlacerModel" "at" "I" ∈ qx_tb := qx_tbOf (List.mem_of_getElem? (i := 828) (by decide +kernel)) (by decide +kernel)
theorem qwm_X9_195 : Cond.methodLink RX9 195 yX9_next ∈ qx_tb := qx_tbOf (List.mem_of_getElem? (i := 1099) (by decide +kernel)) (by decide +kernel)
theorem qwf_X9_198 : Cond.fieldLink RX9 198 "LabelPlacerModel" "fault" "I" ∈ qx_tb := qx_tbOf (List.mem_of_getElem? (i := 829) (by decide +kernel)) (by decide +kernel)
theorem qwf_X9_201 : Cond.fieldLink RX9 201 "LabelPlacerModel" "letters" "I" ∈ qx_tb := qx_tbOf (List.mem_of_getElem? (i := 831) (by decide +kernel)) (by decide +kernel)
theorem qwc_X9_204 : Cond.constantLong RX9 204 97 ∈ qx_tb := qx_tbOf (List.mem_of_getElem? (i := 1107) (by decide +kernel)) (by decide +kernel)
theorem qwc_X9_206 : Cond.constantLong RX9 206 122 ∈ qx_tb := qx_tbOf (List.mem_of_getElem? (i := 1108) (by decide +kernel)) (by decide +kernel)
theorem qwf_X9_42 : Cond.fieldLink RX9 42 "LabelPlacerModel" "word" "[I" ∈ qx_tb := qx_tbOf (List.mem_of_getElem? (i := 830) (by decide +kernel)) (by decide +kernel)
theorem qwm_X9_208 : Cond.methodLink RX9 208 yX9_isWord ∈ qx_tb := qx_tbOf (List.mem_of_getElem? (i := 1113) (by decide +kernel)) (by decide +kernel)
theorem qwc_X9_212 : Cond.constantLong RX9 212 48 ∈ qx_tb := qx_tbOf (List.mem_of_getElem? (i := 1125) (by decide +kernel)) (by decide +kernel)
theorem qwc_X9_214 : Cond.constantLong RX9 214 57 ∈ qx_tb := qx_tbOf (List.mem_of_getElem? (i := 1126) (by decide +kernel)) (by decide +kernel)
theorem qwm_X9_220 : Cond.methodLink RX9 220 yX9_skips ∈ qx_tb := qx_tbOf (List.mem_of_getElem? (i := 1095) (by decide +kernel)) (by decide +kernel)
theorem qwm_X9_216 : Cond.methodLink RX9 216 yX9_fails ∈ qx_tb := qx_tbOf (List.mem_of_getElem? (i := 1117) (by decide +kernel)) (by decide +kernel)
theorem qwm_X9_223 : Cond.methodLink RX9 223 yX9_readsNumber ∈ qx_tb := qx_tbOf (List.mem_of_getElem? (i := 1121) (by decide +kernel)) (by decide +kernel)
theorem qwf_X9_45 : Cond.fieldLink RX9 45 "LabelPlacerModel" "read" "[I" ∈ qx_tb := qx_tbOf (List.mem_of_getElem? (i := 832) (by decide +kernel)) (by decide +kernel)
theorem qwm_X9_232 : Cond.methodLink RX9 232 yX9_readsWhole ∈ qx_tb := qx_tbOf (List.mem_of_getElem? (i := 1127) (by decide +kernel)) (by decide +kernel)
theorem qwm_X9_226 : Cond.methodLink RX9 226 yX9_readsWord ∈ qx_tb := qx_tbOf (List.mem_of_getElem? (i := 1103) (by decide +kernel)) (by decide +kernel)
theorem qwm_X9_229 : Cond.methodLink RX9 229 yX9_command ∈ qx_tb := qx_tbOf (List.mem_of_getElem? (i := 1109) (by decide +kernel)) (by decide +kernel)
theorem qwm_X9_235 : Cond.methodLink RX9 235 yX9_reads ∈ qx_tb := qx_tbOf (List.mem_of_getElem? (i := 1091) (by decide +kernel)) (by decide +kernel)
theorem qwm_X9_252 : Cond.methodLink RX9 252 yX9_hideAll ∈ qx_tb := qx_tbOf (List.mem_of_getElem? (i := 1135) (by decide +kernel)) (by decide +kernel)
theorem qwm_X9_238 : Cond.methodLink RX9 238 yX9_addPoint ∈ qx_tb := qx_tbOf (List.mem_of_getElem? (i := 1131) (by decide +kernel)) (by decide +kernel)
theorem qwm_X9_242 : Cond.methodLink RX9 242 yX9_setWindow ∈ qx_tb := qx_tbOf (List.mem_of_getElem? (i := 1132) (by decide +kernel)) (by decide +kernel)
theorem qwm_X9_246 : Cond.methodLink RX9 246 yX9_pan ∈ qx_tb := qx_tbOf (List.mem_of_getElem? (i := 1133) (by decide +kernel)) (by decide +kernel)
theorem qwm_X9_249 : Cond.methodLink RX9 249 yX9_improve ∈ qx_tb := qx_tbOf (List.mem_of_getElem? (i := 1134) (by decide +kernel)) (by decide +kernel)
theorem qwm_X9_264 : Cond.methodLink RX9 264 yX9_pushing ∈ qx_tb := qx_tbOf (List.mem_of_getElem? (i := 1157) (by decide +kernel)) (by decide +kernel)
theorem qwm_X9_255 : Cond.methodLink RX9 255 yX9_places ∈ qx_tb := qx_tbOf (List.mem_of_getElem? (i := 1145) (by decide +kernel)) (by decide +kernel)
theorem qwm_X9_258 : Cond.methodLink RX9 258 yX9_pairs ∈ qx_tb := qx_tbOf (List.mem_of_getElem? (i := 1149) (by decide +kernel)) (by decide +kernel)
theorem qwm_X9_261 : Cond.methodLink RX9 261 yX9_priorities ∈ qx_tb := qx_tbOf (List.mem_of_getElem? (i := 1153) (by decide +kernel)) (by decide +kernel)
theorem qwc_X9_267 : Cond.constantLong RX9 267 12 ∈ qx_tb := qx_tbOf (List.mem_of_getElem? (i := 1140) (by decide +kernel)) (by decide +kernel)
theorem qwm_X9_269 : Cond.methodLink RX9 269 yX9_number ∈ qx_tb := qx_tbOf (List.mem_of_getElem? (i := 1141) (by decide +kernel)) (by decide +kernel)
theorem qwc_X9_272 : Cond.constantLong RX9 272 31 ∈ qx_tb := qx_tbOf (List.mem_of_getElem? (i := 1170) (by decide +kernel)) (by decide +kernel)
theorem qwf_X9_274 : Cond.fieldLink RX9 274 "LabelPlacerModel" "hash" "J" ∈ qx_tb := qx_tbOf (List.mem_of_getElem? (i := 833) (by decide +kernel)) (by decide +kernel)
theorem qwc_X9_278 : Cond.constantLong RX9 278 325 ∈ qx_tb := qx_tbOf (List.mem_of_getElem? (i := 1165) (by decide +kernel)) (by decide +kernel)
theorem qwm_X9_280 : Cond.methodLink RX9 280 yX9_mixes ∈ qx_tb := qx_tbOf (List.mem_of_getElem? (i := 1166) (by decide +kernel)) (by decide +kernel)
def mX6_at : QM := (yX6_at, cX6_at, 2, (some .int))
theorem qcm_X6_at : qx_cm mX6_at 1 := ⟨qx_tbOf (List.mem_of_getElem? (i := 690) (by decide +kernel)) (by decide +kernel), qx_tbOf (List.mem_of_getElem? (i := 77) (by decide +kernel)) (by decide +kernel), ⟨by decide, by decide, by decide +kernel⟩, by decide, by decide⟩
theorem qcv_X6_at : qx_cv mX6_at := ⟨qx_tbOf (List.mem_of_getElem? (i := 688) (by decide +kernel)) (by decide +kernel), qx_tbOf (List.mem_of_getElem? (i := 689) (by decide +kernel)) (by decide +kernel)⟩
def mX6_isWord : QM := (yX6_isWord, cX6_isWord, 5, (some .boolean))
theorem qcm_X6_isWord : qx_cm mX6_isWord 3 := ⟨qx_tbOf (List.mem_of_getElem? (i := 703) (by decide +kernel)) (by decide +kernel), qx_tbOf (List.mem_of_getElem? (i := 77) (by decide +kernel)) (by decide +kernel), ⟨by decide, by decide, by decide +kernel⟩, by decide, by decide⟩
theorem qcv_X6_isWord : qx_cv mX6_isWord := ⟨qx_tbOf (List.mem_of_getElem? (i := 701) (by decide +kernel)) (by decide +kernel), qx_tbOf (List.mem_of_getElem? (i := 702) (by decide +kernel)) (by decide +kernel)⟩
def mX0_kindOf : QM := (yX0_kindOf, cX0_kindOf, 3, (some .int))
theorem qcm_X0_kindOf : qx_cm mX0_kindOf 3 := ⟨qx_tbOf (List.mem_of_getElem? (i := 698) (by decide +kernel)) (by decide +kernel), qx_tbOf (List.mem_of_getElem? (i := 78) (by decide +kernel)) (by decide +kernel), ⟨by decide, by decide, by decide +kernel⟩, by decide, by decide⟩
theorem qcs_X0_kindOf : Cond.static yX0_kindOf ∈ qx_tb := qx_tbOf (List.mem_of_getElem? (i := 697) (by decide +kernel)) (by decide +kernel)
def mX0_skipBlanks : QM := (yX0_skipBlanks, cX0_skipBlanks, 2, none)
theorem qcm_X0_skipBlanks : qx_cm mX0_skipBlanks 1 := ⟨qx_tbOf (List.mem_of_getElem? (i := 686) (by decide +kernel)) (by decide +kernel), qx_tbOf (List.mem_of_getElem? (i := 78) (by decide +kernel)) (by decide +kernel), ⟨by decide, by decide, by decide +kernel⟩, by decide, by decide⟩
theorem qcv_X0_skipBlanks : qx_cv mX0_skipBlanks := ⟨qx_tbOf (List.mem_of_getElem? (i := 685) (by decide +kernel)) (by decide +kernel), qx_tbOf (List.mem_of_getElem? (i := 22) (by decide +kernel)) (by decide +kernel)⟩
def mX6_isDigit : QM := (yX6_isDigit, cX6_isDigit, 2, (some .boolean))
theorem qcm_X6_isDigit : qx_cm mX6_isDigit 1 := ⟨qx_tbOf (List.mem_of_getElem? (i := 766) (by decide +kernel)) (by decide +kernel), qx_tbOf (List.mem_of_getElem? (i := 77) (by decide +kernel)) (by decide +kernel), ⟨by decide, by decide, by decide +kernel⟩, by decide, by decide⟩
theorem qcv_X6_isDigit : qx_cv mX6_isDigit := ⟨qx_tbOf (List.mem_of_getElem? (i := 764) (by decide +kernel)) (by decide +kernel), qx_tbOf (List.mem_of_getElem? (i := 765) (by decide +kernel)) (by decide +kernel)⟩
def mX0_readNumber : QM := (yX0_readNumber, cX0_readNumber, 6, (some .boolean))
theorem qcm_X0_readNumber : qx_cm mX0_readNumber 2 := ⟨qx_tbOf (List.mem_of_getElem? (i := 762) (by decide +kernel)) (by decide +kernel), qx_tbOf (List.mem_of_getElem? (i := 78) (by decide +kernel)) (by decide +kernel), ⟨by decide, by decide, by decide +kernel⟩, by decide, by decide⟩
theorem qcv_X0_readNumber : qx_cv mX0_readNumber := ⟨qx_tbOf (List.mem_of_getElem? (i := 761) (by decide +kernel)) (by decide +kernel), qx_tbOf (List.mem_of_getElem? (i := 23) (by decide +kernel)) (by decide +kernel)⟩
def mX6_isSmallLetter : QM := (yX6_isSmallLetter, cX6_isSmallLetter, 2, (some .boolean))
theorem qcm_X6_isSmallLetter : qx_cm mX6_isSmallLetter 1 := ⟨qx_tbOf (List.mem_of_getElem? (i := 694) (by decide +kernel)) (by decide +kernel), qx_tbOf (List.mem_of_getElem? (i := 77) (by decide +kernel)) (by decide +kernel), ⟨by decide, by decide, by decide +kernel⟩, by decide, by decide⟩
theorem qcv_X6_isSmallLetter : qx_cv mX6_isSmallLetter := ⟨qx_tbOf (List.mem_of_getElem? (i := 692) (by decide +kernel)) (by decide +kernel), qx_tbOf (List.mem_of_getElem? (i := 693) (by decide +kernel)) (by decide +kernel)⟩
def mX0_read : QM := (yX0_read, cX0_read, 4, (some .int))
theorem qcm_X0_read : qx_cm mX0_read 1 := ⟨qx_tbOf (List.mem_of_getElem? (i := 682) (by decide +kernel)) (by decide +kernel), qx_tbOf (List.mem_of_getElem? (i := 78) (by decide +kernel)) (by decide +kernel), ⟨by decide, by decide, by decide +kernel⟩, by decide, by decide⟩
theorem qcv_X0_read : qx_cv mX0_read := ⟨qx_tbOf (List.mem_of_getElem? (i := 680) (by decide +kernel)) (by decide +kernel), qx_tbOf (List.mem_of_getElem? (i := 681) (by decide +kernel)) (by decide +kernel)⟩
def mX1_sideOf : QM := (yX1_sideOf, cX1_sideOf, 2, (some .int))
theorem qcm_X1_sideOf : qx_cm mX1_sideOf 1 := ⟨qx_tbOf (List.mem_of_getElem? (i := 431) (by decide +kernel)) (by decide +kernel), qx_tbOf (List.mem_of_getElem? (i := 73) (by decide +kernel)) (by decide +kernel), ⟨by decide, by decide, by decide +kernel⟩, by decide, by decide⟩
theorem qcv_X1_sideOf : qx_cv mX1_sideOf := ⟨qx_tbOf (List.mem_of_getElem? (i := 429) (by decide +kernel)) (by decide +kernel), qx_tbOf (List.mem_of_getElem? (i := 430) (by decide +kernel)) (by decide +kernel)⟩
def mX1_put : QM := (yX1_put, cX1_put, 3, none)
theorem qcm_X1_put : qx_cm mX1_put 2 := ⟨qx_tbOf (List.mem_of_getElem? (i := 480) (by decide +kernel)) (by decide +kernel), qx_tbOf (List.mem_of_getElem? (i := 73) (by decide +kernel)) (by decide +kernel), ⟨by decide, by decide, by decide +kernel⟩, by decide, by decide⟩
theorem qcv_X1_put : qx_cv mX1_put := ⟨qx_tbOf (List.mem_of_getElem? (i := 478) (by decide +kernel)) (by decide +kernel), qx_tbOf (List.mem_of_getElem? (i := 479) (by decide +kernel)) (by decide +kernel)⟩
def mX1_hide : QM := (yX1_hide, cX1_hide, 2, none)
theorem qcm_X1_hide : qx_cm mX1_hide 1 := ⟨qx_tbOf (List.mem_of_getElem? (i := 330) (by decide +kernel)) (by decide +kernel), qx_tbOf (List.mem_of_getElem? (i := 73) (by decide +kernel)) (by decide +kernel), ⟨by decide, by decide, by decide +kernel⟩, by decide, by decide⟩
theorem qcv_X1_hide : qx_cv mX1_hide := ⟨qx_tbOf (List.mem_of_getElem? (i := 328) (by decide +kernel)) (by decide +kernel), qx_tbOf (List.mem_of_getElem? (i := 329) (by decide +kernel)) (by decide +kernel)⟩
def mX1_isShown : QM := (yX1_isShown, cX1_isShown, 2, (some .boolean))
theorem qcm_X1_isShown : qx_cm mX1_isShown 1 := ⟨qx_tbOf (List.mem_of_getElem? (i := 380) (by decide +kernel)) (by decide +kernel), qx_tbOf (List.mem_of_getElem? (i := 73) (by decide +kernel)) (by decide +kernel), ⟨by decide, by decide, by decide +kernel⟩, by decide, by decide⟩
theorem qcv_X1_isShown : qx_cv mX1_isShown := ⟨qx_tbOf (List.mem_of_getElem? (i := 379) (by decide +kernel)) (by decide +kernel), qx_tbOf (List.mem_of_getElem? (i := 4) (by decide +kernel)) (by decide +kernel)⟩
def mX1_closeGap : QM := (yX1_closeGap, cX1_closeGap, 3, none)
theorem qcm_X1_closeGap : qx_cm mX1_closeGap 1 := ⟨qx_tbOf (List.mem_of_getElem? (i := 401) (by decide +kernel)) (by decide +kernel), qx_tbOf (List.mem_of_getElem? (i := 73) (by decide +kernel)) (by decide +kernel), ⟨by decide, by decide, by decide +kernel⟩, by decide, by decide⟩
theorem qcv_X1_closeGap : qx_cv mX1_closeGap := ⟨qx_tbOf (List.mem_of_getElem? (i := 399) (by decide +kernel)) (by decide +kernel), qx_tbOf (List.mem_of_getElem? (i := 400) (by decide +kernel)) (by decide +kernel)⟩
def mX1_manyShown : QM := (yX1_manyShown, cX1_manyShown, 3, (some .int))
theorem qcm_X1_manyShown : qx_cm mX1_manyShown 0 := ⟨qx_tbOf (List.mem_of_getElem? (i := 389) (by decide +kernel)) (by decide +kernel), qx_tbOf (List.mem_of_getElem? (i := 73) (by decide +kernel)) (by decide +kernel), ⟨by decide, by decide, by decide +kernel⟩, by decide, by decide⟩
theorem qcv_X1_manyShown : qx_cv mX1_manyShown := ⟨qx_tbOf (List.mem_of_getElem? (i := 387) (by decide +kernel)) (by decide +kernel), qx_tbOf (List.mem_of_getElem? (i := 388) (by decide +kernel)) (by decide +kernel)⟩
def mX3_isPlace : QM := (yX3_isPlace, cX3_isPlace, 3, (some .boolean))
theorem qcm_X3_isPlace : qx_cm mX3_isPlace 2 := ⟨qx_tbOf (List.mem_of_getElem? (i := 384) (by decide +kernel)) (by decide +kernel), qx_tbOf (List.mem_of_getElem? (i := 72) (by decide +kernel)) (by decide +kernel), ⟨by decide, by decide, by decide +kernel⟩, by decide, by decide⟩
theorem qcv_X3_isPlace : qx_cv mX3_isPlace := ⟨qx_tbOf (List.mem_of_getElem? (i := 382) (by decide +kernel)) (by decide +kernel), qx_tbOf (List.mem_of_getElem? (i := 383) (by decide +kernel)) (by decide +kernel)⟩
def mX1_dropLost : QM := (yX1_dropLost, cX1_dropLost, 2, (some .int))
theorem qcm_X1_dropLost : qx_cm mX1_dropLost 0 := ⟨qx_tbOf (List.mem_of_getElem? (i := 376) (by decide +kernel)) (by decide +kernel), qx_tbOf (List.mem_of_getElem? (i := 73) (by decide +kernel)) (by decide +kernel), ⟨by decide, by decide, by decide +kernel⟩, by decide, by decide⟩
theorem qcv_X1_dropLost : qx_cv mX1_dropLost := ⟨qx_tbOf (List.mem_of_getElem? (i := 374) (by decide +kernel)) (by decide +kernel), qx_tbOf (List.mem_of_getElem? (i := 375) (by decide +kernel)) (by decide +kernel)⟩
def mX3_doClash : QM := (yX3_doClash, cX3_doClash, 7, (some .boolean))
theorem qcm_X3_doClash : qx_cm mX3_doClash 4 := ⟨qx_tbOf (List.mem_of_getElem? (i := 422) (by decide +kernel)) (by decide +kernel), qx_tbOf (List.mem_of_getElem? (i := 72) (by decide +kernel)) (by decide +kernel), ⟨by decide, by decide, by decide +kernel⟩, by decide, by decide⟩
theorem qcv_X3_doClash : qx_cv mX3_doClash := ⟨qx_tbOf (List.mem_of_getElem? (i := 420) (by decide +kernel)) (by decide +kernel), qx_tbOf (List.mem_of_getElem? (i := 421) (by decide +kernel)) (by decide +kernel)⟩
def mX1_clashing : QM := (yX1_clashing, cX1_clashing, 5, (some .int))
theorem qcm_X1_clashing : qx_cm mX1_clashing 2 := ⟨qx_tbOf (List.mem_of_getElem? (i := 418) (by decide +kernel)) (by decide +kernel), qx_tbOf (List.mem_of_getElem? (i := 73) (by decide +kernel)) (by decide +kernel), ⟨by decide, by decide, by decide +kernel⟩, by decide, by decide⟩
theorem qcv_X1_clashing : qx_cv mX1_clashing := ⟨qx_tbOf (List.mem_of_getElem? (i := 416) (by decide +kernel)) (by decide +kernel), qx_tbOf (List.mem_of_getElem? (i := 417) (by decide +kernel)) (by decide +kernel)⟩
def mX1_hideIfClashing : QM := (yX1_hideIfClashing, cX1_hideIfClashing, 2, none)
theorem qcm_X1_hideIfClashing : qx_cm mX1_hideIfClashing 1 := ⟨qx_tbOf (List.mem_of_getElem? (i := 414) (by decide +kernel)) (by decide +kernel), qx_tbOf (List.mem_of_getElem? (i := 73) (by decide +kernel)) (by decide +kernel), ⟨by decide, by decide, by decide +kernel⟩, by decide, by decide⟩
theorem qcv_X1_hideIfClashing : qx_cv mX1_hideIfClashing := ⟨qx_tbOf (List.mem_of_getElem? (i := 412) (by decide +kernel)) (by decide +kernel), qx_tbOf (List.mem_of_getElem? (i := 413) (by decide +kernel)) (by decide +kernel)⟩
def mJ7_fill_53178 : QM := (yJ7_fill_53178, cJ7_fill_53178, 4, none)
theorem qcm_J7_fill_53178 : qx_cm mJ7_fill_53178 2 := ⟨qx_tbOf (List.mem_of_getElem? (i := 176) (by decide +kernel)) (by decide +kernel), qx_tbOf (List.mem_of_getElem? (i := 74) (by decide +kernel)) (by decide +kernel), ⟨by decide, by decide, by decide +kernel⟩, by decide, by decide⟩
theorem qcs_J7_fill_53178 : Cond.static yJ7_fill_53178 ∈ qx_tb := qx_tbOf (List.mem_of_getElem? (i := 175) (by decide +kernel)) (by decide +kernel)
def mX1_hideEach : QM := (yX1_hideEach, cX1_hideEach, 2, (some .int))
theorem qcm_X1_hideEach : qx_cm mX1_hideEach 0 := ⟨qx_tbOf (List.mem_of_getElem? (i := 580) (by decide +kernel)) (by decide +kernel), qx_tbOf (List.mem_of_getElem? (i := 73) (by decide +kernel)) (by decide +kernel), ⟨by decide, by decide, by decide +kernel⟩, by decide, by decide⟩
theorem qcv_X1_hideEach : qx_cv mX1_hideEach := ⟨qx_tbOf (List.mem_of_getElem? (i := 578) (by decide +kernel)) (by decide +kernel), qx_tbOf (List.mem_of_getElem? (i := 579) (by decide +kernel)) (by decide +kernel)⟩
def mX4_get : QM := (yX4_get, cX4_get, 3, (some .int))
theorem qcm_X4_get : qx_cm mX4_get 2 := ⟨qx_tbOf (List.mem_of_getElem? (i := 317) (by decide +kernel)) (by decide +kernel), qx_tbOf (List.mem_of_getElem? (i := 70) (by decide +kernel)) (by decide +kernel), ⟨by decide, by decide, by decide +kernel⟩, by decide, by decide⟩
theorem qcv_X4_get : qx_cv mX4_get := ⟨qx_tbOf (List.mem_of_getElem? (i := 315) (by decide +kernel)) (by decide +kernel), qx_tbOf (List.mem_of_getElem? (i := 316) (by decide +kernel)) (by decide +kernel)⟩
def mX1_sumShown : QM := (yX1_sumShown, cX1_sumShown, 3, (some .int))
theorem qcm_X1_sumShown : qx_cm mX1_sumShown 0 := ⟨qx_tbOf (List.mem_of_getElem? (i := 787) (by decide +kernel)) (by decide +kernel), qx_tbOf (List.mem_of_getElem? (i := 73) (by decide +kernel)) (by decide +kernel), ⟨by decide, by decide, by decide +kernel⟩, by decide, by decide⟩
theorem qcv_X1_sumShown : qx_cv mX1_sumShown := ⟨qx_tbOf (List.mem_of_getElem? (i := 785) (by decide +kernel)) (by decide +kernel), qx_tbOf (List.mem_of_getElem? (i := 786) (by decide +kernel)) (by decide +kernel)⟩
def mX3_covers : QM := (yX3_covers, cX3_covers, 6, (some .boolean))
theorem qcm_X3_covers : qx_cm mX3_covers 4 := ⟨qx_tbOf (List.mem_of_getElem? (i := 517) (by decide +kernel)) (by decide +kernel), qx_tbOf (List.mem_of_getElem? (i := 72) (by decide +kernel)) (by decide +kernel), ⟨by decide, by decide, by decide +kernel⟩, by decide, by decide⟩
theorem qcv_X3_covers : qx_cv mX3_covers := ⟨qx_tbOf (List.mem_of_getElem? (i := 515) (by decide +kernel)) (by decide +kernel), qx_tbOf (List.mem_of_getElem? (i := 516) (by decide +kernel)) (by decide +kernel)⟩
def mX1_ownerOf : QM := (yX1_ownerOf, cX1_ownerOf, 4, (some .int))
theorem qcm_X1_ownerOf : qx_cm mX1_ownerOf 2 := ⟨qx_tbOf (List.mem_of_getElem? (i := 513) (by decide +kernel)) (by decide +kernel), qx_tbOf (List.mem_of_getElem? (i := 73) (by decide +kernel)) (by decide +kernel), ⟨by decide, by decide, by decide +kernel⟩, by decide, by decide⟩
theorem qcv_X1_ownerOf : qx_cv mX1_ownerOf := ⟨qx_tbOf (List.mem_of_getElem? (i := 511) (by decide +kernel)) (by decide +kernel), qx_tbOf (List.mem_of_getElem? (i := 512) (by decide +kernel)) (by decide +kernel)⟩
def mX7_holds : QM := (yX7_holds, cX7_holds, 5, (some .boolean))
theorem qcm_X7_holds : qx_cm mX7_holds 4 := ⟨qx_tbOf (List.mem_of_getElem? (i := 371) (by decide +kernel)) (by decide +kernel), qx_tbOf (List.mem_of_getElem? (i := 71) (by decide +kernel)) (by decide +kernel), ⟨by decide, by decide, by decide +kernel⟩, by decide, by decide⟩
theorem qcv_X7_holds : qx_cv mX7_holds := ⟨qx_tbOf (List.mem_of_getElem? (i := 369) (by decide +kernel)) (by decide +kernel), qx_tbOf (List.mem_of_getElem? (i := 370) (by decide +kernel)) (by decide +kernel)⟩
def mX3_isVisible : QM := (yX3_isVisible, cX3_isVisible, 2, (some .boolean))
theorem qcm_X3_isVisible : qx_cm mX3_isVisible 1 := ⟨qx_tbOf (List.mem_of_getElem? (i := 367) (by decide +kernel)) (by decide +kernel), qx_tbOf (List.mem_of_getElem? (i := 72) (by decide +kernel)) (by decide +kernel), ⟨by decide, by decide, by decide +kernel⟩, by decide, by decide⟩
theorem qcv_X3_isVisible : qx_cv mX3_isVisible := ⟨qx_tbOf (List.mem_of_getElem? (i := 365) (by decide +kernel)) (by decide +kernel), qx_tbOf (List.mem_of_getElem? (i := 366) (by decide +kernel)) (by decide +kernel)⟩
def mX1_lacksLabel : QM := (yX1_lacksLabel, cX1_lacksLabel, 2, (some .boolean))
theorem qcm_X1_lacksLabel : qx_cm mX1_lacksLabel 1 := ⟨qx_tbOf (List.mem_of_getElem? (i := 467) (by decide +kernel)) (by decide +kernel), qx_tbOf (List.mem_of_getElem? (i := 73) (by decide +kernel)) (by decide +kernel), ⟨by decide, by decide, by decide +kernel⟩, by decide, by decide⟩
theorem qcv_X1_lacksLabel : qx_cv mX1_lacksLabel := ⟨qx_tbOf (List.mem_of_getElem? (i := 465) (by decide +kernel)) (by decide +kernel), qx_tbOf (List.mem_of_getElem? (i := 466) (by decide +kernel)) (by decide +kernel)⟩
def mX1_isFree : QM := (yX1_isFree, cX1_isFree, 3, (some .boolean))
theorem qcm_X1_isFree : qx_cm mX1_isFree 2 := ⟨qx_tbOf (List.mem_of_getElem? (i := 476) (by decide +kernel)) (by decide +kernel), qx_tbOf (List.mem_of_getElem? (i := 73) (by decide +kernel)) (by decide +kernel), ⟨by decide, by decide, by decide +kernel⟩, by decide, by decide⟩
theorem qcv_X1_isFree : qx_cv mX1_isFree := ⟨qx_tbOf (List.mem_of_getElem? (i := 474) (by decide +kernel)) (by decide +kernel), qx_tbOf (List.mem_of_getElem? (i := 475) (by decide +kernel)) (by decide +kernel)⟩
def mX1_showOnLeastFree : QM := (yX1_showOnLeastFree, cX1_showOnLeastFree, 3, (some .boolean))
theorem qcm_X1_showOnLeastFree : qx_cm mX1_showOnLeastFree 1 := ⟨qx_tbOf (List.mem_of_getElem? (i := 472) (by decide +kernel)) (by decide +kernel), qx_tbOf (List.mem_of_getElem? (i := 73) (by decide +kernel)) (by decide +kernel), ⟨by decide, by decide, by decide +kernel⟩, by decide, by decide⟩
theorem qcv_X1_showOnLeastFree : qx_cv mX1_showOnLeastFree := ⟨qx_tbOf (List.mem_of_getElem? (i := 471) (by decide +kernel)) (by decide +kernel), qx_tbOf (List.mem_of_getElem? (i := 5) (by decide +kernel)) (by decide +kernel)⟩
def mX4_inOrder : QM := (yX4_inOrder, cX4_inOrder, 2, (some .int))
theorem qcm_X4_inOrder : qx_cm mX4_inOrder 1 := ⟨qx_tbOf (List.mem_of_getElem? (i := 463) (by decide +kernel)) (by decide +kernel), qx_tbOf (List.mem_of_getElem? (i := 70) (by decide +kernel)) (by decide +kernel), ⟨by decide, by decide, by decide +kernel⟩, by decide, by decide⟩
theorem qcv_X4_inOrder : qx_cv mX4_inOrder := ⟨qx_tbOf (List.mem_of_getElem? (i := 461) (by decide +kernel)) (by decide +kernel), qx_tbOf (List.mem_of_getElem? (i := 462) (by decide +kernel)) (by decide +kernel)⟩
def mX1_addFree : QM := (yX1_addFree, cX1_addFree, 4, (some .int))
theorem qcm_X1_addFree : qx_cm mX1_addFree 0 := ⟨qx_tbOf (List.mem_of_getElem? (i := 459) (by decide +kernel)) (by decide +kernel), qx_tbOf (List.mem_of_getElem? (i := 73) (by decide +kernel)) (by decide +kernel), ⟨by decide, by decide, by decide +kernel⟩, by decide, by decide⟩
theorem qcv_X1_addFree : qx_cv mX1_addFree := ⟨qx_tbOf (List.mem_of_getElem? (i := 457) (by decide +kernel)) (by decide +kernel), qx_tbOf (List.mem_of_getElem? (i := 458) (by decide +kernel)) (by decide +kernel)⟩
def mX1_firstClashing : QM := (yX1_firstClashing, cX1_firstClashing, 4, (some .int))
theorem qcm_X1_firstClashing : qx_cm mX1_firstClashing 2 := ⟨qx_tbOf (List.mem_of_getElem? (i := 537) (by decide +kernel)) (by decide +kernel), qx_tbOf (List.mem_of_getElem? (i := 73) (by decide +kernel)) (by decide +kernel), ⟨by decide, by decide, by decide +kernel⟩, by decide, by decide⟩
theorem qcv_X1_firstClashing : qx_cv mX1_firstClashing := ⟨qx_tbOf (List.mem_of_getElem? (i := 536) (by decide +kernel)) (by decide +kernel), qx_tbOf (List.mem_of_getElem? (i := 8) (by decide +kernel)) (by decide +kernel)⟩
def mX1_moveAside : QM := (yX1_moveAside, cX1_moveAside, 5, (some .boolean))
theorem qcm_X1_moveAside : qx_cm mX1_moveAside 3 := ⟨qx_tbOf (List.mem_of_getElem? (i := 541) (by decide +kernel)) (by decide +kernel), qx_tbOf (List.mem_of_getElem? (i := 73) (by decide +kernel)) (by decide +kernel), ⟨by decide, by decide, by decide +kernel⟩, by decide, by decide⟩
theorem qcv_X1_moveAside : qx_cv mX1_moveAside := ⟨qx_tbOf (List.mem_of_getElem? (i := 540) (by decide +kernel)) (by decide +kernel), qx_tbOf (List.mem_of_getElem? (i := 9) (by decide +kernel)) (by decide +kernel)⟩
def mX1_showByMoving : QM := (yX1_showByMoving, cX1_showByMoving, 4, (some .boolean))
theorem qcm_X1_showByMoving : qx_cm mX1_showByMoving 1 := ⟨qx_tbOf (List.mem_of_getElem? (i := 533) (by decide +kernel)) (by decide +kernel), qx_tbOf (List.mem_of_getElem? (i := 73) (by decide +kernel)) (by decide +kernel), ⟨by decide, by decide, by decide +kernel⟩, by decide, by decide⟩
theorem qcv_X1_showByMoving : qx_cv mX1_showByMoving := ⟨qx_tbOf (List.mem_of_getElem? (i := 532) (by decide +kernel)) (by decide +kernel), qx_tbOf (List.mem_of_getElem? (i := 7) (by decide +kernel)) (by decide +kernel)⟩
def mX1_makeRoom : QM := (yX1_makeRoom, cX1_makeRoom, 4, (some .int))
theorem qcm_X1_makeRoom : qx_cm mX1_makeRoom 0 := ⟨qx_tbOf (List.mem_of_getElem? (i := 529) (by decide +kernel)) (by decide +kernel), qx_tbOf (List.mem_of_getElem? (i := 73) (by decide +kernel)) (by decide +kernel), ⟨by decide, by decide, by decide +kernel⟩, by decide, by decide⟩
theorem qcv_X1_makeRoom : qx_cv mX1_makeRoom := ⟨qx_tbOf (List.mem_of_getElem? (i := 527) (by decide +kernel)) (by decide +kernel), qx_tbOf (List.mem_of_getElem? (i := 528) (by decide +kernel)) (by decide +kernel)⟩
def mX1_hideClashing : QM := (yX1_hideClashing, cX1_hideClashing, 4, none)
theorem qcm_X1_hideClashing : qx_cm mX1_hideClashing 2 := ⟨qx_tbOf (List.mem_of_getElem? (i := 566) (by decide +kernel)) (by decide +kernel), qx_tbOf (List.mem_of_getElem? (i := 73) (by decide +kernel)) (by decide +kernel), ⟨by decide, by decide, by decide +kernel⟩, by decide, by decide⟩
theorem qcv_X1_hideClashing : qx_cv mX1_hideClashing := ⟨qx_tbOf (List.mem_of_getElem? (i := 565) (by decide +kernel)) (by decide +kernel), qx_tbOf (List.mem_of_getElem? (i := 13) (by decide +kernel)) (by decide +kernel)⟩
def mX1_outranksClashing : QM := (yX1_outranksClashing, cX1_outranksClashing, 5, (some .boolean))
theorem qcm_X1_outranksClashing : qx_cm mX1_outranksClashing 2 := ⟨qx_tbOf (List.mem_of_getElem? (i := 561) (by decide +kernel)) (by decide +kernel), qx_tbOf (List.mem_of_getElem? (i := 73) (by decide +kernel)) (by decide +kernel), ⟨by decide, by decide, by decide +kernel⟩, by decide, by decide⟩
theorem qcv_X1_outranksClashing : qx_cv mX1_outranksClashing := ⟨qx_tbOf (List.mem_of_getElem? (i := 560) (by decide +kernel)) (by decide +kernel), qx_tbOf (List.mem_of_getElem? (i := 12) (by decide +kernel)) (by decide +kernel)⟩
def mX1_sideToPush : QM := (yX1_sideToPush, cX1_sideToPush, 3, (some .int))
theorem qcm_X1_sideToPush : qx_cm mX1_sideToPush 1 := ⟨qx_tbOf (List.mem_of_getElem? (i := 557) (by decide +kernel)) (by decide +kernel), qx_tbOf (List.mem_of_getElem? (i := 73) (by decide +kernel)) (by decide +kernel), ⟨by decide, by decide, by decide +kernel⟩, by decide, by decide⟩
theorem qcv_X1_sideToPush : qx_cv mX1_sideToPush := ⟨qx_tbOf (List.mem_of_getElem? (i := 556) (by decide +kernel)) (by decide +kernel), qx_tbOf (List.mem_of_getElem? (i := 11) (by decide +kernel)) (by decide +kernel)⟩
def mX1_pushFirst : QM := (yX1_pushFirst, cX1_pushFirst, 4, (some .boolean))
theorem qcm_X1_pushFirst : qx_cm mX1_pushFirst 0 := ⟨qx_tbOf (List.mem_of_getElem? (i := 553) (by decide +kernel)) (by decide +kernel), qx_tbOf (List.mem_of_getElem? (i := 73) (by decide +kernel)) (by decide +kernel), ⟨by decide, by decide, by decide +kernel⟩, by decide, by decide⟩
theorem qcv_X1_pushFirst : qx_cv mX1_pushFirst := ⟨qx_tbOf (List.mem_of_getElem? (i := 552) (by decide +kernel)) (by decide +kernel), qx_tbOf (List.mem_of_getElem? (i := 10) (by decide +kernel)) (by decide +kernel)⟩
def mX1_pushAway : QM := (yX1_pushAway, cX1_pushAway, 2, (some .int))
theorem qcm_X1_pushAway : qx_cm mX1_pushAway 0 := ⟨qx_tbOf (List.mem_of_getElem? (i := 549) (by decide +kernel)) (by decide +kernel), qx_tbOf (List.mem_of_getElem? (i := 73) (by decide +kernel)) (by decide +kernel), ⟨by decide, by decide, by decide +kernel⟩, by decide, by decide⟩
theorem qcv_X1_pushAway : qx_cv mX1_pushAway := ⟨qx_tbOf (List.mem_of_getElem? (i := 547) (by decide +kernel)) (by decide +kernel), qx_tbOf (List.mem_of_getElem? (i := 548) (by decide +kernel)) (by decide +kernel)⟩
def mX1_manyThatCanPush : QM := (yX1_manyThatCanPush, cX1_manyThatCanPush, 3, (some .int))
theorem qcm_X1_manyThatCanPush : qx_cm mX1_manyThatCanPush 0 := ⟨qx_tbOf (List.mem_of_getElem? (i := 791) (by decide +kernel)) (by decide +kernel), qx_tbOf (List.mem_of_getElem? (i := 73) (by decide +kernel)) (by decide +kernel), ⟨by decide, by decide, by decide +kernel⟩, by decide, by decide⟩
theorem qcv_X1_manyThatCanPush : qx_cv mX1_manyThatCanPush := ⟨qx_tbOf (List.mem_of_getElem? (i := 789) (by decide +kernel)) (by decide +kernel), qx_tbOf (List.mem_of_getElem? (i := 790) (by decide +kernel)) (by decide +kernel)⟩
def mX2_get : QM := (yX2_get, cX2_get, 3, (some .int))
theorem qcm_X2_get : qx_cm mX2_get 2 := ⟨qx_tbOf (List.mem_of_getElem? (i := 662) (by decide +kernel)) (by decide +kernel), qx_tbOf (List.mem_of_getElem? (i := 76) (by decide +kernel)) (by decide +kernel), ⟨by decide, by decide, by decide +kernel⟩, by decide, by decide⟩
theorem qcv_X2_get : qx_cv mX2_get := ⟨qx_tbOf (List.mem_of_getElem? (i := 660) (by decide +kernel)) (by decide +kernel), qx_tbOf (List.mem_of_getElem? (i := 661) (by decide +kernel)) (by decide +kernel)⟩
def mX2_comesBefore : QM := (yX2_comesBefore, cX2_comesBefore, 5, (some .boolean))
theorem qcm_X2_comesBefore : qx_cm mX2_comesBefore 2 := ⟨qx_tbOf (List.mem_of_getElem? (i := 634) (by decide +kernel)) (by decide +kernel), qx_tbOf (List.mem_of_getElem? (i := 76) (by decide +kernel)) (by decide +kernel), ⟨by decide, by decide, by decide +kernel⟩, by decide, by decide⟩
theorem qcv_X2_comesBefore : qx_cv mX2_comesBefore := ⟨qx_tbOf (List.mem_of_getElem? (i := 633) (by decide +kernel)) (by decide +kernel), qx_tbOf (List.mem_of_getElem? (i := 19) (by decide +kernel)) (by decide +kernel)⟩
def mX2_gatherWaiting : QM := (yX2_gatherWaiting, cX2_gatherWaiting, 4, (some .int))
theorem qcm_X2_gatherWaiting : qx_cm mX2_gatherWaiting 0 := ⟨qx_tbOf (List.mem_of_getElem? (i := 629) (by decide +kernel)) (by decide +kernel), qx_tbOf (List.mem_of_getElem? (i := 76) (by decide +kernel)) (by decide +kernel), ⟨by decide, by decide, by decide +kernel⟩, by decide, by decide⟩
theorem qcv_X2_gatherWaiting : qx_cv mX2_gatherWaiting := ⟨qx_tbOf (List.mem_of_getElem? (i := 628) (by decide +kernel)) (by decide +kernel), qx_tbOf (List.mem_of_getElem? (i := 18) (by decide +kernel)) (by decide +kernel)⟩
def mX7_greatestY : QM := (yX7_greatestY, cX7_greatestY, 1, (some .int))
theorem qcm_X7_greatestY : qx_cm mX7_greatestY 0 := ⟨qx_tbOf (List.mem_of_getElem? (i := 643) (by decide +kernel)) (by decide +kernel), qx_tbOf (List.mem_of_getElem? (i := 71) (by decide +kernel)) (by decide +kernel), ⟨by decide, by decide, by decide +kernel⟩, by decide, by decide⟩
theorem qcv_X7_greatestY : qx_cv mX7_greatestY := ⟨qx_tbOf (List.mem_of_getElem? (i := 641) (by decide +kernel)) (by decide +kernel), qx_tbOf (List.mem_of_getElem? (i := 642) (by decide +kernel)) (by decide +kernel)⟩
def mX2_slotRow : QM := (yX2_slotRow, cX2_slotRow, 2, (some .int))
theorem qcm_X2_slotRow : qx_cm mX2_slotRow 1 := ⟨qx_tbOf (List.mem_of_getElem? (i := 639) (by decide +kernel)) (by decide +kernel), qx_tbOf (List.mem_of_getElem? (i := 76) (by decide +kernel)) (by decide +kernel), ⟨by decide, by decide, by decide +kernel⟩, by decide, by decide⟩
theorem qcv_X2_slotRow : qx_cv mX2_slotRow := ⟨qx_tbOf (List.mem_of_getElem? (i := 638) (by decide +kernel)) (by decide +kernel), qx_tbOf (List.mem_of_getElem? (i := 20) (by decide +kernel)) (by decide +kernel)⟩
def mX7_greatestX : QM := (yX7_greatestX, cX7_greatestX, 1, (some .int))
theorem qcm_X7_greatestX : qx_cm mX7_greatestX 0 := ⟨qx_tbOf (List.mem_of_getElem? (i := 651) (by decide +kernel)) (by decide +kernel), qx_tbOf (List.mem_of_getElem? (i := 71) (by decide +kernel)) (by decide +kernel), ⟨by decide, by decide, by decide +kernel⟩, by decide, by decide⟩
theorem qcv_X7_greatestX : qx_cv mX7_greatestX := ⟨qx_tbOf (List.mem_of_getElem? (i := 649) (by decide +kernel)) (by decide +kernel), qx_tbOf (List.mem_of_getElem? (i := 650) (by decide +kernel)) (by decide +kernel)⟩
def mX2_keep : QM := (yX2_keep, cX2_keep, 10, none)
theorem qcm_X2_keep : qx_cm mX2_keep 1 := ⟨qx_tbOf (List.mem_of_getElem? (i := 647) (by decide +kernel)) (by decide +kernel), qx_tbOf (List.mem_of_getElem? (i := 76) (by decide +kernel)) (by decide +kernel), ⟨by decide, by decide, by decide +kernel⟩, by decide, by decide⟩
theorem qcv_X2_keep : qx_cv mX2_keep := ⟨qx_tbOf (List.mem_of_getElem? (i := 646) (by decide +kernel)) (by decide +kernel), qx_tbOf (List.mem_of_getElem? (i := 21) (by decide +kernel)) (by decide +kernel)⟩
def mX2_lay : QM := (yX2_lay, cX2_lay, 3, (some .int))
theorem qcm_X2_lay : qx_cm mX2_lay 0 := ⟨qx_tbOf (List.mem_of_getElem? (i := 625) (by decide +kernel)) (by decide +kernel), qx_tbOf (List.mem_of_getElem? (i := 76) (by decide +kernel)) (by decide +kernel), ⟨by decide, by decide, by decide +kernel⟩, by decide, by decide⟩
theorem qcv_X2_lay : qx_cv mX2_lay := ⟨qx_tbOf (List.mem_of_getElem? (i := 623) (by decide +kernel)) (by decide +kernel), qx_tbOf (List.mem_of_getElem? (i := 624) (by decide +kernel)) (by decide +kernel)⟩
def mX3_findBottom : QM := (yX3_findBottom, cX3_findBottom, 5, (some .int))
theorem qcm_X3_findBottom : qx_cm mX3_findBottom 2 := ⟨qx_tbOf (List.mem_of_getElem? (i := 351) (by decide +kernel)) (by decide +kernel), qx_tbOf (List.mem_of_getElem? (i := 72) (by decide +kernel)) (by decide +kernel), ⟨by decide, by decide, by decide +kernel⟩, by decide, by decide⟩
theorem qcv_X3_findBottom : qx_cv mX3_findBottom := ⟨qx_tbOf (List.mem_of_getElem? (i := 350) (by decide +kernel)) (by decide +kernel), qx_tbOf (List.mem_of_getElem? (i := 2) (by decide +kernel)) (by decide +kernel)⟩
def mX3_findLeft : QM := (yX3_findLeft, cX3_findLeft, 5, (some .int))
theorem qcm_X3_findLeft : qx_cm mX3_findLeft 2 := ⟨qx_tbOf (List.mem_of_getElem? (i := 346) (by decide +kernel)) (by decide +kernel), qx_tbOf (List.mem_of_getElem? (i := 72) (by decide +kernel)) (by decide +kernel), ⟨by decide, by decide, by decide +kernel⟩, by decide, by decide⟩
theorem qcv_X3_findLeft : qx_cv mX3_findLeft := ⟨qx_tbOf (List.mem_of_getElem? (i := 345) (by decide +kernel)) (by decide +kernel), qx_tbOf (List.mem_of_getElem? (i := 1) (by decide +kernel)) (by decide +kernel)⟩
def mX3_bottomOf : QM := (yX3_bottomOf, cX3_bottomOf, 3, (some .int))
theorem qcm_X3_bottomOf : qx_cm mX3_bottomOf 2 := ⟨qx_tbOf (List.mem_of_getElem? (i := 363) (by decide +kernel)) (by decide +kernel), qx_tbOf (List.mem_of_getElem? (i := 72) (by decide +kernel)) (by decide +kernel), ⟨by decide, by decide, by decide +kernel⟩, by decide, by decide⟩
theorem qcv_X3_bottomOf : qx_cv mX3_bottomOf := ⟨qx_tbOf (List.mem_of_getElem? (i := 361) (by decide +kernel)) (by decide +kernel), qx_tbOf (List.mem_of_getElem? (i := 362) (by decide +kernel)) (by decide +kernel)⟩
def mX3_leftOf : QM := (yX3_leftOf, cX3_leftOf, 3, (some .int))
theorem qcm_X3_leftOf : qx_cm mX3_leftOf 2 := ⟨qx_tbOf (List.mem_of_getElem? (i := 359) (by decide +kernel)) (by decide +kernel), qx_tbOf (List.mem_of_getElem? (i := 72) (by decide +kernel)) (by decide +kernel), ⟨by decide, by decide, by decide +kernel⟩, by decide, by decide⟩
theorem qcv_X3_leftOf : qx_cv mX3_leftOf := ⟨qx_tbOf (List.mem_of_getElem? (i := 357) (by decide +kernel)) (by decide +kernel), qx_tbOf (List.mem_of_getElem? (i := 358) (by decide +kernel)) (by decide +kernel)⟩
def mX4_isIn : QM := (yX4_isIn, cX4_isIn, 8, (some .boolean))
theorem qcm_X4_isIn : qx_cm mX4_isIn 4 := ⟨qx_tbOf (List.mem_of_getElem? (i := 313) (by decide +kernel)) (by decide +kernel), qx_tbOf (List.mem_of_getElem? (i := 70) (by decide +kernel)) (by decide +kernel), ⟨by decide, by decide, by decide +kernel⟩, by decide, by decide⟩
theorem qcv_X4_isIn : qx_cv mX4_isIn := ⟨qx_tbOf (List.mem_of_getElem? (i := 311) (by decide +kernel)) (by decide +kernel), qx_tbOf (List.mem_of_getElem? (i := 312) (by decide +kernel)) (by decide +kernel)⟩
def mX3_isGood : QM := (yX3_isGood, cX3_isGood, 7, (some .boolean))
theorem qcm_X3_isGood : qx_cm mX3_isGood 2 := ⟨qx_tbOf (List.mem_of_getElem? (i := 355) (by decide +kernel)) (by decide +kernel), qx_tbOf (List.mem_of_getElem? (i := 72) (by decide +kernel)) (by decide +kernel), ⟨by decide, by decide, by decide +kernel⟩, by decide, by decide⟩
theorem qcv_X3_isGood : qx_cv mX3_isGood := ⟨qx_tbOf (List.mem_of_getElem? (i := 354) (by decide +kernel)) (by decide +kernel), qx_tbOf (List.mem_of_getElem? (i := 3) (by decide +kernel)) (by decide +kernel)⟩
def mX3_findAll : QM := (yX3_findAll, cX3_findAll, 4, none)
theorem qcm_X3_findAll : qx_cm mX3_findAll 0 := ⟨qx_tbOf (List.mem_of_getElem? (i := 342) (by decide +kernel)) (by decide +kernel), qx_tbOf (List.mem_of_getElem? (i := 72) (by decide +kernel)) (by decide +kernel), ⟨by decide, by decide, by decide +kernel⟩, by decide, by decide⟩
theorem qcv_X3_findAll : qx_cv mX3_findAll := ⟨qx_tbOf (List.mem_of_getElem? (i := 340) (by decide +kernel)) (by decide +kernel), qx_tbOf (List.mem_of_getElem? (i := 341) (by decide +kernel)) (by decide +kernel)⟩
def mX3_visiblePoints : QM := (yX3_visiblePoints, cX3_visiblePoints, 3, (some .int))
theorem qcm_X3_visiblePoints : qx_cm mX3_visiblePoints 0 := ⟨qx_tbOf (List.mem_of_getElem? (i := 451) (by decide +kernel)) (by decide +kernel), qx_tbOf (List.mem_of_getElem? (i := 72) (by decide +kernel)) (by decide +kernel), ⟨by decide, by decide, by decide +kernel⟩, by decide, by decide⟩
theorem qcv_X3_visiblePoints : qx_cv mX3_visiblePoints := ⟨qx_tbOf (List.mem_of_getElem? (i := 449) (by decide +kernel)) (by decide +kernel), qx_tbOf (List.mem_of_getElem? (i := 450) (by decide +kernel)) (by decide +kernel)⟩
def mX3_manyOf : QM := (yX3_manyOf, cX3_manyOf, 4, (some .int))
theorem qcm_X3_manyOf : qx_cm mX3_manyOf 1 := ⟨qx_tbOf (List.mem_of_getElem? (i := 435) (by decide +kernel)) (by decide +kernel), qx_tbOf (List.mem_of_getElem? (i := 72) (by decide +kernel)) (by decide +kernel), ⟨by decide, by decide, by decide +kernel⟩, by decide, by decide⟩
theorem qcv_X3_manyOf : qx_cv mX3_manyOf := ⟨qx_tbOf (List.mem_of_getElem? (i := 433) (by decide +kernel)) (by decide +kernel), qx_tbOf (List.mem_of_getElem? (i := 434) (by decide +kernel)) (by decide +kernel)⟩
def mX3_manyOfAll : QM := (yX3_manyOfAll, cX3_manyOfAll, 3, (some .int))
theorem qcm_X3_manyOfAll : qx_cm mX3_manyOfAll 0 := ⟨qx_tbOf (List.mem_of_getElem? (i := 777) (by decide +kernel)) (by decide +kernel), qx_tbOf (List.mem_of_getElem? (i := 72) (by decide +kernel)) (by decide +kernel), ⟨by decide, by decide, by decide +kernel⟩, by decide, by decide⟩
theorem qcv_X3_manyOfAll : qx_cv mX3_manyOfAll := ⟨qx_tbOf (List.mem_of_getElem? (i := 775) (by decide +kernel)) (by decide +kernel), qx_tbOf (List.mem_of_getElem? (i := 776) (by decide +kernel)) (by decide +kernel)⟩
def mX3_clashesBefore : QM := (yX3_clashesBefore, cX3_clashesBefore, 7, (some .int))
theorem qcm_X3_clashesBefore : qx_cm mX3_clashesBefore 3 := ⟨qx_tbOf (List.mem_of_getElem? (i := 498) (by decide +kernel)) (by decide +kernel), qx_tbOf (List.mem_of_getElem? (i := 72) (by decide +kernel)) (by decide +kernel), ⟨by decide, by decide, by decide +kernel⟩, by decide, by decide⟩
theorem qcv_X3_clashesBefore : qx_cv mX3_clashesBefore := ⟨qx_tbOf (List.mem_of_getElem? (i := 497) (by decide +kernel)) (by decide +kernel), qx_tbOf (List.mem_of_getElem? (i := 6) (by decide +kernel)) (by decide +kernel)⟩
def mX3_clashesOf : QM := (yX3_clashesOf, cX3_clashesOf, 3, (some .int))
theorem qcm_X3_clashesOf : qx_cm mX3_clashesOf 2 := ⟨qx_tbOf (List.mem_of_getElem? (i := 494) (by decide +kernel)) (by decide +kernel), qx_tbOf (List.mem_of_getElem? (i := 72) (by decide +kernel)) (by decide +kernel), ⟨by decide, by decide, by decide +kernel⟩, by decide, by decide⟩
theorem qcv_X3_clashesOf : qx_cv mX3_clashesOf := ⟨qx_tbOf (List.mem_of_getElem? (i := 492) (by decide +kernel)) (by decide +kernel), qx_tbOf (List.mem_of_getElem? (i := 493) (by decide +kernel)) (by decide +kernel)⟩
def mX3_clashingPairs : QM := (yX3_clashingPairs, cX3_clashingPairs, 4, (some .int))
theorem qcm_X3_clashingPairs : qx_cm mX3_clashingPairs 0 := ⟨qx_tbOf (List.mem_of_getElem? (i := 782) (by decide +kernel)) (by decide +kernel), qx_tbOf (List.mem_of_getElem? (i := 72) (by decide +kernel)) (by decide +kernel), ⟨by decide, by decide, by decide +kernel⟩, by decide, by decide⟩
theorem qcv_X3_clashingPairs : qx_cv mX3_clashingPairs := ⟨qx_tbOf (List.mem_of_getElem? (i := 780) (by decide +kernel)) (by decide +kernel), qx_tbOf (List.mem_of_getElem? (i := 781) (by decide +kernel)) (by decide +kernel)⟩
def mX4_allows : QM := (yX4_allows, cX4_allows, 2, (some .boolean))
theorem qcm_X4_allows : qx_cm mX4_allows 2 := ⟨qx_tbOf (List.mem_of_getElem? (i := 301) (by decide +kernel)) (by decide +kernel), qx_tbOf (List.mem_of_getElem? (i := 70) (by decide +kernel)) (by decide +kernel), ⟨by decide, by decide, by decide +kernel⟩, by decide, by decide⟩
theorem qcs_X4_allows : Cond.static yX4_allows ∈ qx_tb := qx_tbOf (List.mem_of_getElem? (i := 300) (by decide +kernel)) (by decide +kernel)
def mX4_has : QM := (yX4_has, cX4_has, 2, (some .boolean))
theorem qcm_X4_has : qx_cm mX4_has 1 := ⟨qx_tbOf (List.mem_of_getElem? (i := 397) (by decide +kernel)) (by decide +kernel), qx_tbOf (List.mem_of_getElem? (i := 70) (by decide +kernel)) (by decide +kernel), ⟨by decide, by decide, by decide +kernel⟩, by decide, by decide⟩
theorem qcv_X4_has : qx_cv mX4_has := ⟨qx_tbOf (List.mem_of_getElem? (i := 395) (by decide +kernel)) (by decide +kernel), qx_tbOf (List.mem_of_getElem? (i := 396) (by decide +kernel)) (by decide +kernel)⟩
def mX4_put : QM := (yX4_put, cX4_put, 4, none)
theorem qcm_X4_put : qx_cm mX4_put 3 := ⟨qx_tbOf (List.mem_of_getElem? (i := 325) (by decide +kernel)) (by decide +kernel), qx_tbOf (List.mem_of_getElem? (i := 70) (by decide +kernel)) (by decide +kernel), ⟨by decide, by decide, by decide +kernel⟩, by decide, by decide⟩
theorem qcv_X4_put : qx_cv mX4_put := ⟨qx_tbOf (List.mem_of_getElem? (i := 323) (by decide +kernel)) (by decide +kernel), qx_tbOf (List.mem_of_getElem? (i := 324) (by decide +kernel)) (by decide +kernel)⟩
def mX4_append : QM := (yX4_append, cX4_append, 4, (some .int))
theorem qcm_X4_append : qx_cm mX4_append 2 := ⟨qx_tbOf (List.mem_of_getElem? (i := 321) (by decide +kernel)) (by decide +kernel), qx_tbOf (List.mem_of_getElem? (i := 70) (by decide +kernel)) (by decide +kernel), ⟨by decide, by decide, by decide +kernel⟩, by decide, by decide⟩
theorem qcv_X4_append : qx_cv mX4_append := ⟨qx_tbOf (List.mem_of_getElem? (i := 319) (by decide +kernel)) (by decide +kernel), qx_tbOf (List.mem_of_getElem? (i := 320) (by decide +kernel)) (by decide +kernel)⟩
def mX4_closeGap : QM := (yX4_closeGap, cX4_closeGap, 3, none)
theorem qcm_X4_closeGap : qx_cm mX4_closeGap 1 := ⟨qx_tbOf (List.mem_of_getElem? (i := 405) (by decide +kernel)) (by decide +kernel), qx_tbOf (List.mem_of_getElem? (i := 70) (by decide +kernel)) (by decide +kernel), ⟨by decide, by decide, by decide +kernel⟩, by decide, by decide⟩
theorem qcv_X4_closeGap : qx_cv mX4_closeGap := ⟨qx_tbOf (List.mem_of_getElem? (i := 403) (by decide +kernel)) (by decide +kernel), qx_tbOf (List.mem_of_getElem? (i := 404) (by decide +kernel)) (by decide +kernel)⟩
def mX4_isAt : QM := (yX4_isAt, cX4_isAt, 3, (some .boolean))
theorem qcm_X4_isAt : qx_cm mX4_isAt 2 := ⟨qx_tbOf (List.mem_of_getElem? (i := 309) (by decide +kernel)) (by decide +kernel), qx_tbOf (List.mem_of_getElem? (i := 70) (by decide +kernel)) (by decide +kernel), ⟨by decide, by decide, by decide +kernel⟩, by decide, by decide⟩
theorem qcv_X4_isAt : qx_cv mX4_isAt := ⟨qx_tbOf (List.mem_of_getElem? (i := 307) (by decide +kernel)) (by decide +kernel), qx_tbOf (List.mem_of_getElem? (i := 308) (by decide +kernel)) (by decide +kernel)⟩
def mX4_putInOrder : QM := (yX4_putInOrder, cX4_putInOrder, 4, none)
theorem qcm_X4_putInOrder : qx_cm mX4_putInOrder 0 := ⟨qx_tbOf (List.mem_of_getElem? (i := 338) (by decide +kernel)) (by decide +kernel), qx_tbOf (List.mem_of_getElem? (i := 70) (by decide +kernel)) (by decide +kernel), ⟨by decide, by decide, by decide +kernel⟩, by decide, by decide⟩
theorem qcv_X4_putInOrder : qx_cv mX4_putInOrder := ⟨qx_tbOf (List.mem_of_getElem? (i := 336) (by decide +kernel)) (by decide +kernel), qx_tbOf (List.mem_of_getElem? (i := 337) (by decide +kernel)) (by decide +kernel)⟩
def mX5_priorityOf : QM := (yX5_priorityOf, cX5_priorityOf, 2, (some .int))
theorem qcm_X5_priorityOf : qx_cm mX5_priorityOf 1 := ⟨qx_tbOf (List.mem_of_getElem? (i := 615) (by decide +kernel)) (by decide +kernel), qx_tbOf (List.mem_of_getElem? (i := 75) (by decide +kernel)) (by decide +kernel), ⟨by decide, by decide, by decide +kernel⟩, by decide, by decide⟩
theorem qcv_X5_priorityOf : qx_cv mX5_priorityOf := ⟨qx_tbOf (List.mem_of_getElem? (i := 614) (by decide +kernel)) (by decide +kernel), qx_tbOf (List.mem_of_getElem? (i := 17) (by decide +kernel)) (by decide +kernel)⟩
def mX5_sumInReach : QM := (yX5_sumInReach, cX5_sumInReach, 6, (some .int))
theorem qcm_X5_sumInReach : qx_cm mX5_sumInReach 2 := ⟨qx_tbOf (List.mem_of_getElem? (i := 610) (by decide +kernel)) (by decide +kernel), qx_tbOf (List.mem_of_getElem? (i := 75) (by decide +kernel)) (by decide +kernel), ⟨by decide, by decide, by decide +kernel⟩, by decide, by decide⟩
theorem qcv_X5_sumInReach : qx_cv mX5_sumInReach := ⟨qx_tbOf (List.mem_of_getElem? (i := 609) (by decide +kernel)) (by decide +kernel), qx_tbOf (List.mem_of_getElem? (i := 16) (by decide +kernel)) (by decide +kernel)⟩
def mX5_bestFrom : QM := (yX5_bestFrom, cX5_bestFrom, 10, (some .int))
theorem qcm_X5_bestFrom : qx_cm mX5_bestFrom 5 := ⟨qx_tbOf (List.mem_of_getElem? (i := 603) (by decide +kernel)) (by decide +kernel), qx_tbOf (List.mem_of_getElem? (i := 75) (by decide +kernel)) (by decide +kernel), ⟨by decide, by decide, by decide +kernel⟩, by decide, by decide⟩
theorem qcs_X5_bestFrom : Cond.static yX5_bestFrom ∈ qx_tb := qx_tbOf (List.mem_of_getElem? (i := 602) (by decide +kernel)) (by decide +kernel)
def mX5_gatherCandidates : QM := (yX5_gatherCandidates, cX5_gatherCandidates, 3, (some .boolean))
theorem qcm_X5_gatherCandidates : qx_cm mX5_gatherCandidates 0 := ⟨qx_tbOf (List.mem_of_getElem? (i := 592) (by decide +kernel)) (by decide +kernel), qx_tbOf (List.mem_of_getElem? (i := 75) (by decide +kernel)) (by decide +kernel), ⟨by decide, by decide, by decide +kernel⟩, by decide, by decide⟩
theorem qcv_X5_gatherCandidates : qx_cv mX5_gatherCandidates := ⟨qx_tbOf (List.mem_of_getElem? (i := 591) (by decide +kernel)) (by decide +kernel), qx_tbOf (List.mem_of_getElem? (i := 14) (by decide +kernel)) (by decide +kernel)⟩
def mX5_maskOfClashes : QM := (yX5_maskOfClashes, cX5_maskOfClashes, 7, (some .long))
theorem qcm_X5_maskOfClashes : qx_cm mX5_maskOfClashes 2 := ⟨qx_tbOf (List.mem_of_getElem? (i := 599) (by decide +kernel)) (by decide +kernel), qx_tbOf (List.mem_of_getElem? (i := 75) (by decide +kernel)) (by decide +kernel), ⟨by decide, by decide, by decide +kernel⟩, by decide, by decide⟩
theorem qcv_X5_maskOfClashes : qx_cv mX5_maskOfClashes := ⟨qx_tbOf (List.mem_of_getElem? (i := 598) (by decide +kernel)) (by decide +kernel), qx_tbOf (List.mem_of_getElem? (i := 15) (by decide +kernel)) (by decide +kernel)⟩
def mX5_greatestSum : QM := (yX5_greatestSum, cX5_greatestSum, 6, (some .int))
theorem qcm_X5_greatestSum : qx_cm mX5_greatestSum 0 := ⟨qx_tbOf (List.mem_of_getElem? (i := 588) (by decide +kernel)) (by decide +kernel), qx_tbOf (List.mem_of_getElem? (i := 75) (by decide +kernel)) (by decide +kernel), ⟨by decide, by decide, by decide +kernel⟩, by decide, by decide⟩
theorem qcv_X5_greatestSum : qx_cv mX5_greatestSum := ⟨qx_tbOf (List.mem_of_getElem? (i := 586) (by decide +kernel)) (by decide +kernel), qx_tbOf (List.mem_of_getElem? (i := 587) (by decide +kernel)) (by decide +kernel)⟩
def mX6_append : QM := (yX6_append, cX6_append, 2, none)
theorem qcm_X6_append : qx_cm mX6_append 1 := ⟨qx_tbOf (List.mem_of_getElem? (i := 670) (by decide +kernel)) (by decide +kernel), qx_tbOf (List.mem_of_getElem? (i := 77) (by decide +kernel)) (by decide +kernel), ⟨by decide, by decide, by decide +kernel⟩, by decide, by decide⟩
theorem qcv_X6_append : qx_cv mX6_append := ⟨qx_tbOf (List.mem_of_getElem? (i := 668) (by decide +kernel)) (by decide +kernel), qx_tbOf (List.mem_of_getElem? (i := 669) (by decide +kernel)) (by decide +kernel)⟩
def mX7_allows : QM := (yX7_allows, cX7_allows, 6, (some .boolean))
theorem qcm_X7_allows : qx_cm mX7_allows 4 := ⟨qx_tbOf (List.mem_of_getElem? (i := 443) (by decide +kernel)) (by decide +kernel), qx_tbOf (List.mem_of_getElem? (i := 71) (by decide +kernel)) (by decide +kernel), ⟨by decide, by decide, by decide +kernel⟩, by decide, by decide⟩
theorem qcs_X7_allows : Cond.static yX7_allows ∈ qx_tb := qx_tbOf (List.mem_of_getElem? (i := 442) (by decide +kernel)) (by decide +kernel)
def mX7_put : QM := (yX7_put, cX7_put, 5, none)
theorem qcm_X7_put : qx_cm mX7_put 4 := ⟨qx_tbOf (List.mem_of_getElem? (i := 447) (by decide +kernel)) (by decide +kernel), qx_tbOf (List.mem_of_getElem? (i := 71) (by decide +kernel)) (by decide +kernel), ⟨by decide, by decide, by decide +kernel⟩, by decide, by decide⟩
theorem qcv_X7_put : qx_cv mX7_put := ⟨qx_tbOf (List.mem_of_getElem? (i := 445) (by decide +kernel)) (by decide +kernel), qx_tbOf (List.mem_of_getElem? (i := 446) (by decide +kernel)) (by decide +kernel)⟩
def mX8_renew : QM := (yX8_renew, cX8_renew, 1, (some .int))
theorem qcm_X8_renew : qx_cm mX8_renew 0 := ⟨qx_tbOf (List.mem_of_getElem? (i := 334) (by decide +kernel)) (by decide +kernel), qx_tbOf (List.mem_of_getElem? (i := 69) (by decide +kernel)) (by decide +kernel), ⟨by decide, by decide, by decide +kernel⟩, by decide, by decide⟩
theorem qcv_X8_renew : qx_cv mX8_renew := ⟨qx_tbOf (List.mem_of_getElem? (i := 333) (by decide +kernel)) (by decide +kernel), qx_tbOf (List.mem_of_getElem? (i := 0) (by decide +kernel)) (by decide +kernel)⟩
def mX8_addPoint : QM := (yX8_addPoint, cX8_addPoint, 9, (some .int))
theorem qcm_X8_addPoint : qx_cm mX8_addPoint 6 := ⟨qx_tbOf (List.mem_of_getElem? (i := 298) (by decide +kernel)) (by decide +kernel), qx_tbOf (List.mem_of_getElem? (i := 69) (by decide +kernel)) (by decide +kernel), ⟨by decide, by decide, by decide +kernel⟩, by decide, by decide⟩
theorem qcv_X8_addPoint : qx_cv mX8_addPoint := ⟨qx_tbOf (List.mem_of_getElem? (i := 296) (by decide +kernel)) (by decide +kernel), qx_tbOf (List.mem_of_getElem? (i := 297) (by decide +kernel)) (by decide +kernel)⟩
def mX8_removePoint : QM := (yX8_removePoint, cX8_removePoint, 2, (some .int))
theorem qcm_X8_removePoint : qx_cm mX8_removePoint 1 := ⟨qx_tbOf (List.mem_of_getElem? (i := 393) (by decide +kernel)) (by decide +kernel), qx_tbOf (List.mem_of_getElem? (i := 69) (by decide +kernel)) (by decide +kernel), ⟨by decide, by decide, by decide +kernel⟩, by decide, by decide⟩
theorem qcv_X8_removePoint : qx_cv mX8_removePoint := ⟨qx_tbOf (List.mem_of_getElem? (i := 391) (by decide +kernel)) (by decide +kernel), qx_tbOf (List.mem_of_getElem? (i := 392) (by decide +kernel)) (by decide +kernel)⟩
def mX8_setPoint : QM := (yX8_setPoint, cX8_setPoint, 6, (some .int))
theorem qcm_X8_setPoint : qx_cm mX8_setPoint 3 := ⟨qx_tbOf (List.mem_of_getElem? (i := 409) (by decide +kernel)) (by decide +kernel), qx_tbOf (List.mem_of_getElem? (i := 69) (by decide +kernel)) (by decide +kernel), ⟨by decide, by decide, by decide +kernel⟩, by decide, by decide⟩
theorem qcv_X8_setPoint : qx_cv mX8_setPoint := ⟨qx_tbOf (List.mem_of_getElem? (i := 407) (by decide +kernel)) (by decide +kernel), qx_tbOf (List.mem_of_getElem? (i := 408) (by decide +kernel)) (by decide +kernel)⟩
def mX8_point : QM := (yX8_point, cX8_point, 3, (some .int))
theorem qcm_X8_point : qx_cm mX8_point 2 := ⟨qx_tbOf (List.mem_of_getElem? (i := 426) (by decide +kernel)) (by decide +kernel), qx_tbOf (List.mem_of_getElem? (i := 69) (by decide +kernel)) (by decide +kernel), ⟨by decide, by decide, by decide +kernel⟩, by decide, by decide⟩
theorem qcv_X8_point : qx_cv mX8_point := ⟨qx_tbOf (List.mem_of_getElem? (i := 424) (by decide +kernel)) (by decide +kernel), qx_tbOf (List.mem_of_getElem? (i := 425) (by decide +kernel)) (by decide +kernel)⟩
def mX8_setWindow : QM := (yX8_setWindow, cX8_setWindow, 5, (some .int))
theorem qcm_X8_setWindow : qx_cm mX8_setWindow 4 := ⟨qx_tbOf (List.mem_of_getElem? (i := 440) (by decide +kernel)) (by decide +kernel), qx_tbOf (List.mem_of_getElem? (i := 69) (by decide +kernel)) (by decide +kernel), ⟨by decide, by decide, by decide +kernel⟩, by decide, by decide⟩
theorem qcv_X8_setWindow : qx_cv mX8_setWindow := ⟨qx_tbOf (List.mem_of_getElem? (i := 438) (by decide +kernel)) (by decide +kernel), qx_tbOf (List.mem_of_getElem? (i := 439) (by decide +kernel)) (by decide +kernel)⟩
def mX8_pan : QM := (yX8_pan, cX8_pan, 8, (some .int))
theorem qcm_X8_pan : qx_cm mX8_pan 2 := ⟨qx_tbOf (List.mem_of_getElem? (i := 455) (by decide +kernel)) (by decide +kernel), qx_tbOf (List.mem_of_getElem? (i := 69) (by decide +kernel)) (by decide +kernel), ⟨by decide, by decide, by decide +kernel⟩, by decide, by decide⟩
theorem qcv_X8_pan : qx_cv mX8_pan := ⟨qx_tbOf (List.mem_of_getElem? (i := 453) (by decide +kernel)) (by decide +kernel), qx_tbOf (List.mem_of_getElem? (i := 454) (by decide +kernel)) (by decide +kernel)⟩
def mX8_isSide : QM := (yX8_isSide, cX8_isSide, 1, (some .boolean))
theorem qcm_X8_isSide : qx_cm mX8_isSide 1 := ⟨qx_tbOf (List.mem_of_getElem? (i := 487) (by decide +kernel)) (by decide +kernel), qx_tbOf (List.mem_of_getElem? (i := 69) (by decide +kernel)) (by decide +kernel), ⟨by decide, by decide, by decide +kernel⟩, by decide, by decide⟩
theorem qcs_X8_isSide : Cond.static yX8_isSide ∈ qx_tb := qx_tbOf (List.mem_of_getElem? (i := 486) (by decide +kernel)) (by decide +kernel)
def mX8_place : QM := (yX8_place, cX8_place, 4, (some .int))
theorem qcm_X8_place : qx_cm mX8_place 3 := ⟨qx_tbOf (List.mem_of_getElem? (i := 484) (by decide +kernel)) (by decide +kernel), qx_tbOf (List.mem_of_getElem? (i := 69) (by decide +kernel)) (by decide +kernel), ⟨by decide, by decide, by decide +kernel⟩, by decide, by decide⟩
theorem qcv_X8_place : qx_cv mX8_place := ⟨qx_tbOf (List.mem_of_getElem? (i := 482) (by decide +kernel)) (by decide +kernel), qx_tbOf (List.mem_of_getElem? (i := 483) (by decide +kernel)) (by decide +kernel)⟩
def mX8_clash : QM := (yX8_clash, cX8_clash, 6, (some .int))
theorem qcm_X8_clash : qx_cm mX8_clash 4 := ⟨qx_tbOf (List.mem_of_getElem? (i := 504) (by decide +kernel)) (by decide +kernel), qx_tbOf (List.mem_of_getElem? (i := 69) (by decide +kernel)) (by decide +kernel), ⟨by decide, by decide, by decide +kernel⟩, by decide, by decide⟩
theorem qcv_X8_clash : qx_cv mX8_clash := ⟨qx_tbOf (List.mem_of_getElem? (i := 502) (by decide +kernel)) (by decide +kernel), qx_tbOf (List.mem_of_getElem? (i := 503) (by decide +kernel)) (by decide +kernel)⟩
def mX8_labelAt : QM := (yX8_labelAt, cX8_labelAt, 3, (some .int))
theorem qcm_X8_labelAt : qx_cm mX8_labelAt 2 := ⟨qx_tbOf (List.mem_of_getElem? (i := 509) (by decide +kernel)) (by decide +kernel), qx_tbOf (List.mem_of_getElem? (i := 69) (by decide +kernel)) (by decide +kernel), ⟨by decide, by decide, by decide +kernel⟩, by decide, by decide⟩
theorem qcv_X8_labelAt : qx_cv mX8_labelAt := ⟨qx_tbOf (List.mem_of_getElem? (i := 507) (by decide +kernel)) (by decide +kernel), qx_tbOf (List.mem_of_getElem? (i := 508) (by decide +kernel)) (by decide +kernel)⟩
def mX8_fill : QM := (yX8_fill, cX8_fill, 1, (some .int))
theorem qcm_X8_fill : qx_cm mX8_fill 0 := ⟨qx_tbOf (List.mem_of_getElem? (i := 521) (by decide +kernel)) (by decide +kernel), qx_tbOf (List.mem_of_getElem? (i := 69) (by decide +kernel)) (by decide +kernel), ⟨by decide, by decide, by decide +kernel⟩, by decide, by decide⟩
theorem qcv_X8_fill : qx_cv mX8_fill := ⟨qx_tbOf (List.mem_of_getElem? (i := 519) (by decide +kernel)) (by decide +kernel), qx_tbOf (List.mem_of_getElem? (i := 520) (by decide +kernel)) (by decide +kernel)⟩
def mX8_improve : QM := (yX8_improve, cX8_improve, 1, (some .int))
theorem qcm_X8_improve : qx_cm mX8_improve 0 := ⟨qx_tbOf (List.mem_of_getElem? (i := 525) (by decide +kernel)) (by decide +kernel), qx_tbOf (List.mem_of_getElem? (i := 69) (by decide +kernel)) (by decide +kernel), ⟨by decide, by decide, by decide +kernel⟩, by decide, by decide⟩
theorem qcv_X8_improve : qx_cv mX8_improve := ⟨qx_tbOf (List.mem_of_getElem? (i := 523) (by decide +kernel)) (by decide +kernel), qx_tbOf (List.mem_of_getElem? (i := 524) (by decide +kernel)) (by decide +kernel)⟩
def mX8_push : QM := (yX8_push, cX8_push, 1, (some .int))
theorem qcm_X8_push : qx_cm mX8_push 0 := ⟨qx_tbOf (List.mem_of_getElem? (i := 545) (by decide +kernel)) (by decide +kernel), qx_tbOf (List.mem_of_getElem? (i := 69) (by decide +kernel)) (by decide +kernel), ⟨by decide, by decide, by decide +kernel⟩, by decide, by decide⟩
theorem qcv_X8_push : qx_cv mX8_push := ⟨qx_tbOf (List.mem_of_getElem? (i := 543) (by decide +kernel)) (by decide +kernel), qx_tbOf (List.mem_of_getElem? (i := 544) (by decide +kernel)) (by decide +kernel)⟩
def mX8_show : QM := (yX8_show, cX8_show, 4, (some .int))
theorem qcm_X8_show : qx_cm mX8_show 2 := ⟨qx_tbOf (List.mem_of_getElem? (i := 570) (by decide +kernel)) (by decide +kernel), qx_tbOf (List.mem_of_getElem? (i := 69) (by decide +kernel)) (by decide +kernel), ⟨by decide, by decide, by decide +kernel⟩, by decide, by decide⟩
theorem qcv_X8_show : qx_cv mX8_show := ⟨qx_tbOf (List.mem_of_getElem? (i := 568) (by decide +kernel)) (by decide +kernel), qx_tbOf (List.mem_of_getElem? (i := 569) (by decide +kernel)) (by decide +kernel)⟩
def mX8_hideAll : QM := (yX8_hideAll, cX8_hideAll, 1, (some .int))
theorem qcm_X8_hideAll : qx_cm mX8_hideAll 0 := ⟨qx_tbOf (List.mem_of_getElem? (i := 576) (by decide +kernel)) (by decide +kernel), qx_tbOf (List.mem_of_getElem? (i := 69) (by decide +kernel)) (by decide +kernel), ⟨by decide, by decide, by decide +kernel⟩, by decide, by decide⟩
theorem qcv_X8_hideAll : qx_cv mX8_hideAll := ⟨qx_tbOf (List.mem_of_getElem? (i := 574) (by decide +kernel)) (by decide +kernel), qx_tbOf (List.mem_of_getElem? (i := 575) (by decide +kernel)) (by decide +kernel)⟩
def mX8_greatest : QM := (yX8_greatest, cX8_greatest, 1, (some .int))
theorem qcm_X8_greatest : qx_cm mX8_greatest 0 := ⟨qx_tbOf (List.mem_of_getElem? (i := 584) (by decide +kernel)) (by decide +kernel), qx_tbOf (List.mem_of_getElem? (i := 69) (by decide +kernel)) (by decide +kernel), ⟨by decide, by decide, by decide +kernel⟩, by decide, by decide⟩
theorem qcv_X8_greatest : qx_cv mX8_greatest := ⟨qx_tbOf (List.mem_of_getElem? (i := 582) (by decide +kernel)) (by decide +kernel), qx_tbOf (List.mem_of_getElem? (i := 583) (by decide +kernel)) (by decide +kernel)⟩
def mX8_leaders : QM := (yX8_leaders, cX8_leaders, 1, (some .int))
theorem qcm_X8_leaders : qx_cm mX8_leaders 0 := ⟨qx_tbOf (List.mem_of_getElem? (i := 621) (by decide +kernel)) (by decide +kernel), qx_tbOf (List.mem_of_getElem? (i := 69) (by decide +kernel)) (by decide +kernel), ⟨by decide, by decide, by decide +kernel⟩, by decide, by decide⟩
theorem qcv_X8_leaders : qx_cv mX8_leaders := ⟨qx_tbOf (List.mem_of_getElem? (i := 619) (by decide +kernel)) (by decide +kernel), qx_tbOf (List.mem_of_getElem? (i := 620) (by decide +kernel)) (by decide +kernel)⟩
def mX8_leader : QM := (yX8_leader, cX8_leader, 3, (some .int))
theorem qcm_X8_leader : qx_cm mX8_leader 2 := ⟨qx_tbOf (List.mem_of_getElem? (i := 658) (by decide +kernel)) (by decide +kernel), qx_tbOf (List.mem_of_getElem? (i := 69) (by decide +kernel)) (by decide +kernel), ⟨by decide, by decide, by decide +kernel⟩, by decide, by decide⟩
theorem qcv_X8_leader : qx_cv mX8_leader := ⟨qx_tbOf (List.mem_of_getElem? (i := 656) (by decide +kernel)) (by decide +kernel), qx_tbOf (List.mem_of_getElem? (i := 657) (by decide +kernel)) (by decide +kernel)⟩
def mX8_type : QM := (yX8_type, cX8_type, 2, (some .int))
theorem qcm_X8_type : qx_cm mX8_type 1 := ⟨qx_tbOf (List.mem_of_getElem? (i := 666) (by decide +kernel)) (by decide +kernel), qx_tbOf (List.mem_of_getElem? (i := 69) (by decide +kernel)) (by decide +kernel), ⟨by decide, by decide, by decide +kernel⟩, by decide, by decide⟩
theorem qcv_X8_type : qx_cv mX8_type := ⟨qx_tbOf (List.mem_of_getElem? (i := 664) (by decide +kernel)) (by decide +kernel), qx_tbOf (List.mem_of_getElem? (i := 665) (by decide +kernel)) (by decide +kernel)⟩
def mX8_clear : QM := (yX8_clear, cX8_clear, 2, (some .int))
theorem qcm_X8_clear : qx_cm mX8_clear 0 := ⟨qx_tbOf (List.mem_of_getElem? (i := 674) (by decide +kernel)) (by decide +kernel), qx_tbOf (List.mem_of_getElem? (i := 69) (by decide +kernel)) (by decide +kernel), ⟨by decide, by decide, by decide +kernel⟩, by decide, by decide⟩
theorem qcv_X8_clear : qx_cv mX8_clear := ⟨qx_tbOf (List.mem_of_getElem? (i := 672) (by decide +kernel)) (by decide +kernel), qx_tbOf (List.mem_of_getElem? (i := 673) (by decide +kernel)) (by decide +kernel)⟩
def mX8_run : QM := (yX8_run, cX8_run, 3, (some .int))
theorem qcm_X8_run : qx_cm mX8_run 0 := ⟨qx_tbOf (List.mem_of_getElem? (i := 678) (by decide +kernel)) (by decide +kernel), qx_tbOf (List.mem_of_getElem? (i := 69) (by decide +kernel)) (by decide +kernel), ⟨by decide, by decide, by decide +kernel⟩, by decide, by decide⟩
theorem qcv_X8_run : qx_cv mX8_run := ⟨qx_tbOf (List.mem_of_getElem? (i := 676) (by decide +kernel)) (by decide +kernel), qx_tbOf (List.mem_of_getElem? (i := 677) (by decide +kernel)) (by decide +kernel)⟩
def mX8_count : QM := (yX8_count, cX8_count, 2, (some .int))
theorem qcm_X8_count : qx_cm mX8_count 1 := ⟨qx_tbOf (List.mem_of_getElem? (i := 773) (by decide +kernel)) (by decide +kernel), qx_tbOf (List.mem_of_getElem? (i := 69) (by decide +kernel)) (by decide +kernel), ⟨by decide, by decide, by decide +kernel⟩, by decide, by decide⟩
theorem qcv_X8_count : qx_cv mX8_count := ⟨qx_tbOf (List.mem_of_getElem? (i := 771) (by decide +kernel)) (by decide +kernel), qx_tbOf (List.mem_of_getElem? (i := 772) (by decide +kernel)) (by decide +kernel)⟩
def mX8_withPoint : QM := (yX8_withPoint, cX8_withPoint, 8, (some .long))
theorem qcm_X8_withPoint : qx_cm mX8_withPoint 2 := ⟨qx_tbOf (List.mem_of_getElem? (i := 802) (by decide +kernel)) (by decide +kernel), qx_tbOf (List.mem_of_getElem? (i := 69) (by decide +kernel)) (by decide +kernel), ⟨by decide, by decide, by decide +kernel⟩, by decide, by decide⟩
theorem qcv_X8_withPoint : qx_cv mX8_withPoint := ⟨qx_tbOf (List.mem_of_getElem? (i := 801) (by decide +kernel)) (by decide +kernel), qx_tbOf (List.mem_of_getElem? (i := 24) (by decide +kernel)) (by decide +kernel)⟩
def mX8_digest : QM := (yX8_digest, cX8_digest, 5, (some .long))
theorem qcm_X8_digest : qx_cm mX8_digest 0 := ⟨qx_tbOf (List.mem_of_getElem? (i := 795) (by decide +kernel)) (by decide +kernel), qx_tbOf (List.mem_of_getElem? (i := 69) (by decide +kernel)) (by decide +kernel), ⟨by decide, by decide, by decide +kernel⟩, by decide, by decide⟩
theorem qcv_X8_digest : qx_cv mX8_digest := ⟨qx_tbOf (List.mem_of_getElem? (i := 793) (by decide +kernel)) (by decide +kernel), qx_tbOf (List.mem_of_getElem? (i := 794) (by decide +kernel)) (by decide +kernel)⟩
def mX9_in : QM := (yX9_in, cX9_in, 6, (some .boolean))
theorem qcm_X9_in : qx_cm mX9_in 3 := ⟨qx_tbOf (List.mem_of_getElem? (i := 884) (by decide +kernel)) (by decide +kernel), qx_tbOf (List.mem_of_getElem? (i := 79) (by decide +kernel)) (by decide +kernel), ⟨by decide, by decide, by decide +kernel⟩, by decide, by decide⟩
theorem qcs_X9_in : Cond.static yX9_in ∈ qx_tb := qx_tbOf (List.mem_of_getElem? (i := 883) (by decide +kernel)) (by decide +kernel)
def mX9_isPoint : QM := (yX9_isPoint, cX9_isPoint, 2, (some .boolean))
theorem qcm_X9_isPoint : qx_cm mX9_isPoint 1 := ⟨qx_tbOf (List.mem_of_getElem? (i := 931) (by decide +kernel)) (by decide +kernel), qx_tbOf (List.mem_of_getElem? (i := 79) (by decide +kernel)) (by decide +kernel), ⟨by decide, by decide, by decide +kernel⟩, by decide, by decide⟩
theorem qcv_X9_isPoint : qx_cv mX9_isPoint := ⟨qx_tbOf (List.mem_of_getElem? (i := 930) (by decide +kernel)) (by decide +kernel), qx_tbOf (List.mem_of_getElem? (i := 33) (by decide +kernel)) (by decide +kernel)⟩
def mX9_isVisible : QM := (yX9_isVisible, cX9_isVisible, 2, (some .boolean))
theorem qcm_X9_isVisible : qx_cm mX9_isVisible 1 := ⟨qx_tbOf (List.mem_of_getElem? (i := 919) (by decide +kernel)) (by decide +kernel), qx_tbOf (List.mem_of_getElem? (i := 79) (by decide +kernel)) (by decide +kernel), ⟨by decide, by decide, by decide +kernel⟩, by decide, by decide⟩
theorem qcv_X9_isVisible : qx_cv mX9_isVisible := ⟨qx_tbOf (List.mem_of_getElem? (i := 918) (by decide +kernel)) (by decide +kernel), qx_tbOf (List.mem_of_getElem? (i := 31) (by decide +kernel)) (by decide +kernel)⟩
def mX9_left : QM := (yX9_left, cX9_left, 4, (some .int))
theorem qcm_X9_left : qx_cm mX9_left 2 := ⟨qx_tbOf (List.mem_of_getElem? (i := 911) (by decide +kernel)) (by decide +kernel), qx_tbOf (List.mem_of_getElem? (i := 79) (by decide +kernel)) (by decide +kernel), ⟨by decide, by decide, by decide +kernel⟩, by decide, by decide⟩
theorem qcv_X9_left : qx_cv mX9_left := ⟨qx_tbOf (List.mem_of_getElem? (i := 910) (by decide +kernel)) (by decide +kernel), qx_tbOf (List.mem_of_getElem? (i := 29) (by decide +kernel)) (by decide +kernel)⟩
def mX9_bottom : QM := (yX9_bottom, cX9_bottom, 4, (some .int))
theorem qcm_X9_bottom : qx_cm mX9_bottom 2 := ⟨qx_tbOf (List.mem_of_getElem? (i := 915) (by decide +kernel)) (by decide +kernel), qx_tbOf (List.mem_of_getElem? (i := 79) (by decide +kernel)) (by decide +kernel), ⟨by decide, by decide, by decide +kernel⟩, by decide, by decide⟩
theorem qcv_X9_bottom : qx_cv mX9_bottom := ⟨qx_tbOf (List.mem_of_getElem? (i := 914) (by decide +kernel)) (by decide +kernel), qx_tbOf (List.mem_of_getElem? (i := 30) (by decide +kernel)) (by decide +kernel)⟩
def mX9_covers : QM := (yX9_covers, cX9_covers, 7, (some .boolean))
theorem qcm_X9_covers : qx_cm mX9_covers 4 := ⟨qx_tbOf (List.mem_of_getElem? (i := 923) (by decide +kernel)) (by decide +kernel), qx_tbOf (List.mem_of_getElem? (i := 79) (by decide +kernel)) (by decide +kernel), ⟨by decide, by decide, by decide +kernel⟩, by decide, by decide⟩
theorem qcv_X9_covers : qx_cv mX9_covers := ⟨qx_tbOf (List.mem_of_getElem? (i := 922) (by decide +kernel)) (by decide +kernel), qx_tbOf (List.mem_of_getElem? (i := 32) (by decide +kernel)) (by decide +kernel)⟩
def mX9_finds : QM := (yX9_finds, cX9_finds, 7, (some .boolean))
theorem qcm_X9_finds : qx_cm mX9_finds 2 := ⟨qx_tbOf (List.mem_of_getElem? (i := 907) (by decide +kernel)) (by decide +kernel), qx_tbOf (List.mem_of_getElem? (i := 79) (by decide +kernel)) (by decide +kernel), ⟨by decide, by decide, by decide +kernel⟩, by decide, by decide⟩
theorem qcv_X9_finds : qx_cv mX9_finds := ⟨qx_tbOf (List.mem_of_getElem? (i := 906) (by decide +kernel)) (by decide +kernel), qx_tbOf (List.mem_of_getElem? (i := 28) (by decide +kernel)) (by decide +kernel)⟩
def mX9_findsAll : QM := (yX9_findsAll, cX9_findsAll, 2, none)
theorem qcm_X9_findsAll : qx_cm mX9_findsAll 0 := ⟨qx_tbOf (List.mem_of_getElem? (i := 903) (by decide +kernel)) (by decide +kernel), qx_tbOf (List.mem_of_getElem? (i := 79) (by decide +kernel)) (by decide +kernel), ⟨by decide, by decide, by decide +kernel⟩, by decide, by decide⟩
theorem qcv_X9_findsAll : qx_cv mX9_findsAll := ⟨qx_tbOf (List.mem_of_getElem? (i := 902) (by decide +kernel)) (by decide +kernel), qx_tbOf (List.mem_of_getElem? (i := 27) (by decide +kernel)) (by decide +kernel)⟩
def mX9_meet : QM := (yX9_meet, cX9_meet, 6, (some .boolean))
theorem qcm_X9_meet : qx_cm mX9_meet 4 := ⟨qx_tbOf (List.mem_of_getElem? (i := 943) (by decide +kernel)) (by decide +kernel), qx_tbOf (List.mem_of_getElem? (i := 79) (by decide +kernel)) (by decide +kernel), ⟨by decide, by decide, by decide +kernel⟩, by decide, by decide⟩
theorem qcv_X9_meet : qx_cv mX9_meet := ⟨qx_tbOf (List.mem_of_getElem? (i := 942) (by decide +kernel)) (by decide +kernel), qx_tbOf (List.mem_of_getElem? (i := 35) (by decide +kernel)) (by decide +kernel)⟩
def mX9_clashes : QM := (yX9_clashes, cX9_clashes, 6, (some .int))
theorem qcm_X9_clashes : qx_cm mX9_clashes 3 := ⟨qx_tbOf (List.mem_of_getElem? (i := 939) (by decide +kernel)) (by decide +kernel), qx_tbOf (List.mem_of_getElem? (i := 79) (by decide +kernel)) (by decide +kernel), ⟨by decide, by decide, by decide +kernel⟩, by decide, by decide⟩
theorem qcv_X9_clashes : qx_cv mX9_clashes := ⟨qx_tbOf (List.mem_of_getElem? (i := 938) (by decide +kernel)) (by decide +kernel), qx_tbOf (List.mem_of_getElem? (i := 34) (by decide +kernel)) (by decide +kernel)⟩
def mX9_clashing : QM := (yX9_clashing, cX9_clashing, 5, (some .int))
theorem qcm_X9_clashing : qx_cm mX9_clashing 2 := ⟨qx_tbOf (List.mem_of_getElem? (i := 1024) (by decide +kernel)) (by decide +kernel), qx_tbOf (List.mem_of_getElem? (i := 79) (by decide +kernel)) (by decide +kernel), ⟨by decide, by decide, by decide +kernel⟩, by decide, by decide⟩
theorem qcv_X9_clashing : qx_cv mX9_clashing := ⟨qx_tbOf (List.mem_of_getElem? (i := 1023) (by decide +kernel)) (by decide +kernel), qx_tbOf (List.mem_of_getElem? (i := 45) (by decide +kernel)) (by decide +kernel)⟩
def mX9_settles : QM := (yX9_settles, cX9_settles, 3, none)
theorem qcm_X9_settles : qx_cm mX9_settles 0 := ⟨qx_tbOf (List.mem_of_getElem? (i := 899) (by decide +kernel)) (by decide +kernel), qx_tbOf (List.mem_of_getElem? (i := 79) (by decide +kernel)) (by decide +kernel), ⟨by decide, by decide, by decide +kernel⟩, by decide, by decide⟩
theorem qcv_X9_settles : qx_cv mX9_settles := ⟨qx_tbOf (List.mem_of_getElem? (i := 898) (by decide +kernel)) (by decide +kernel), qx_tbOf (List.mem_of_getElem? (i := 26) (by decide +kernel)) (by decide +kernel)⟩
def mX9_shown : QM := (yX9_shown, cX9_shown, 3, (some .int))
theorem qcm_X9_shown : qx_cm mX9_shown 0 := ⟨qx_tbOf (List.mem_of_getElem? (i := 974) (by decide +kernel)) (by decide +kernel), qx_tbOf (List.mem_of_getElem? (i := 79) (by decide +kernel)) (by decide +kernel), ⟨by decide, by decide, by decide +kernel⟩, by decide, by decide⟩
theorem qcv_X9_shown : qx_cv mX9_shown := ⟨qx_tbOf (List.mem_of_getElem? (i := 973) (by decide +kernel)) (by decide +kernel), qx_tbOf (List.mem_of_getElem? (i := 39) (by decide +kernel)) (by decide +kernel)⟩
def mX9_orders : QM := (yX9_orders, cX9_orders, 4, none)
theorem qcm_X9_orders : qx_cm mX9_orders 0 := ⟨qx_tbOf (List.mem_of_getElem? (i := 982) (by decide +kernel)) (by decide +kernel), qx_tbOf (List.mem_of_getElem? (i := 79) (by decide +kernel)) (by decide +kernel), ⟨by decide, by decide, by decide +kernel⟩, by decide, by decide⟩
theorem qcv_X9_orders : qx_cv mX9_orders := ⟨qx_tbOf (List.mem_of_getElem? (i := 981) (by decide +kernel)) (by decide +kernel), qx_tbOf (List.mem_of_getElem? (i := 40) (by decide +kernel)) (by decide +kernel)⟩
def mX9_isProperty : QM := (yX9_isProperty, cX9_isProperty, 2, (some .boolean))
theorem qcm_X9_isProperty : qx_cm mX9_isProperty 2 := ⟨qx_tbOf (List.mem_of_getElem? (i := 887) (by decide +kernel)) (by decide +kernel), qx_tbOf (List.mem_of_getElem? (i := 79) (by decide +kernel)) (by decide +kernel), ⟨by decide, by decide, by decide +kernel⟩, by decide, by decide⟩
theorem qcs_X9_isProperty : Cond.static yX9_isProperty ∈ qx_tb := qx_tbOf (List.mem_of_getElem? (i := 886) (by decide +kernel)) (by decide +kernel)
def mX9_pointAt : QM := (yX9_pointAt, cX9_pointAt, 4, (some .int))
theorem qcm_X9_pointAt : qx_cm mX9_pointAt 2 := ⟨qx_tbOf (List.mem_of_getElem? (i := 895) (by decide +kernel)) (by decide +kernel), qx_tbOf (List.mem_of_getElem? (i := 79) (by decide +kernel)) (by decide +kernel), ⟨by decide, by decide, by decide +kernel⟩, by decide, by decide⟩
theorem qcv_X9_pointAt : qx_cv mX9_pointAt := ⟨qx_tbOf (List.mem_of_getElem? (i := 894) (by decide +kernel)) (by decide +kernel), qx_tbOf (List.mem_of_getElem? (i := 25) (by decide +kernel)) (by decide +kernel)⟩
def mX9_addPoint : QM := (yX9_addPoint, cX9_addPoint, 8, (some .int))
theorem qcm_X9_addPoint : qx_cm mX9_addPoint 6 := ⟨qx_tbOf (List.mem_of_getElem? (i := 880) (by decide +kernel)) (by decide +kernel), qx_tbOf (List.mem_of_getElem? (i := 79) (by decide +kernel)) (by decide +kernel), ⟨by decide, by decide, by decide +kernel⟩, by decide, by decide⟩
theorem qcv_X9_addPoint : qx_cv mX9_addPoint := ⟨qx_tbOf (List.mem_of_getElem? (i := 878) (by decide +kernel)) (by decide +kernel), qx_tbOf (List.mem_of_getElem? (i := 879) (by decide +kernel)) (by decide +kernel)⟩
def mX9_removePoint : QM := (yX9_removePoint, cX9_removePoint, 4, (some .int))
theorem qcm_X9_removePoint : qx_cm mX9_removePoint 1 := ⟨qx_tbOf (List.mem_of_getElem? (i := 927) (by decide +kernel)) (by decide +kernel), qx_tbOf (List.mem_of_getElem? (i := 79) (by decide +kernel)) (by decide +kernel), ⟨by decide, by decide, by decide +kernel⟩, by decide, by decide⟩
theorem qcv_X9_removePoint : qx_cv mX9_removePoint := ⟨qx_tbOf (List.mem_of_getElem? (i := 925) (by decide +kernel)) (by decide +kernel), qx_tbOf (List.mem_of_getElem? (i := 926) (by decide +kernel)) (by decide +kernel)⟩
def mX9_setPoint : QM := (yX9_setPoint, cX9_setPoint, 5, (some .int))
theorem qcm_X9_setPoint : qx_cm mX9_setPoint 3 := ⟨qx_tbOf (List.mem_of_getElem? (i := 935) (by decide +kernel)) (by decide +kernel), qx_tbOf (List.mem_of_getElem? (i := 79) (by decide +kernel)) (by decide +kernel), ⟨by decide, by decide, by decide +kernel⟩, by decide, by decide⟩
theorem qcv_X9_setPoint : qx_cv mX9_setPoint := ⟨qx_tbOf (List.mem_of_getElem? (i := 933) (by decide +kernel)) (by decide +kernel), qx_tbOf (List.mem_of_getElem? (i := 934) (by decide +kernel)) (by decide +kernel)⟩
def mX9_placesOf : QM := (yX9_placesOf, cX9_placesOf, 4, (some .int))
theorem qcm_X9_placesOf : qx_cm mX9_placesOf 1 := ⟨qx_tbOf (List.mem_of_getElem? (i := 956) (by decide +kernel)) (by decide +kernel), qx_tbOf (List.mem_of_getElem? (i := 79) (by decide +kernel)) (by decide +kernel), ⟨by decide, by decide, by decide +kernel⟩, by decide, by decide⟩
theorem qcv_X9_placesOf : qx_cv mX9_placesOf := ⟨qx_tbOf (List.mem_of_getElem? (i := 955) (by decide +kernel)) (by decide +kernel), qx_tbOf (List.mem_of_getElem? (i := 37) (by decide +kernel)) (by decide +kernel)⟩
def mX9_part : QM := (yX9_part, cX9_part, 3, (some .int))
theorem qcm_X9_part : qx_cm mX9_part 2 := ⟨qx_tbOf (List.mem_of_getElem? (i := 952) (by decide +kernel)) (by decide +kernel), qx_tbOf (List.mem_of_getElem? (i := 79) (by decide +kernel)) (by decide +kernel), ⟨by decide, by decide, by decide +kernel⟩, by decide, by decide⟩
theorem qcv_X9_part : qx_cv mX9_part := ⟨qx_tbOf (List.mem_of_getElem? (i := 951) (by decide +kernel)) (by decide +kernel), qx_tbOf (List.mem_of_getElem? (i := 36) (by decide +kernel)) (by decide +kernel)⟩
def mX9_point : QM := (yX9_point, cX9_point, 3, (some .int))
theorem qcm_X9_point : qx_cm mX9_point 2 := ⟨qx_tbOf (List.mem_of_getElem? (i := 947) (by decide +kernel)) (by decide +kernel), qx_tbOf (List.mem_of_getElem? (i := 79) (by decide +kernel)) (by decide +kernel), ⟨by decide, by decide, by decide +kernel⟩, by decide, by decide⟩
theorem qcv_X9_point : qx_cv mX9_point := ⟨qx_tbOf (List.mem_of_getElem? (i := 945) (by decide +kernel)) (by decide +kernel), qx_tbOf (List.mem_of_getElem? (i := 946) (by decide +kernel)) (by decide +kernel)⟩
def mX9_visible : QM := (yX9_visible, cX9_visible, 3, (some .int))
theorem qcm_X9_visible : qx_cm mX9_visible 0 := ⟨qx_tbOf (List.mem_of_getElem? (i := 966) (by decide +kernel)) (by decide +kernel), qx_tbOf (List.mem_of_getElem? (i := 79) (by decide +kernel)) (by decide +kernel), ⟨by decide, by decide, by decide +kernel⟩, by decide, by decide⟩
theorem qcv_X9_visible : qx_cv mX9_visible := ⟨qx_tbOf (List.mem_of_getElem? (i := 965) (by decide +kernel)) (by decide +kernel), qx_tbOf (List.mem_of_getElem? (i := 38) (by decide +kernel)) (by decide +kernel)⟩
def mX9_setWindow : QM := (yX9_setWindow, cX9_setWindow, 6, (some .int))
theorem qcm_X9_setWindow : qx_cm mX9_setWindow 4 := ⟨qx_tbOf (List.mem_of_getElem? (i := 960) (by decide +kernel)) (by decide +kernel), qx_tbOf (List.mem_of_getElem? (i := 79) (by decide +kernel)) (by decide +kernel), ⟨by decide, by decide, by decide +kernel⟩, by decide, by decide⟩
theorem qcv_X9_setWindow : qx_cv mX9_setWindow := ⟨qx_tbOf (List.mem_of_getElem? (i := 958) (by decide +kernel)) (by decide +kernel), qx_tbOf (List.mem_of_getElem? (i := 959) (by decide +kernel)) (by decide +kernel)⟩
def mX9_wants : QM := (yX9_wants, cX9_wants, 2, (some .boolean))
theorem qcm_X9_wants : qx_cm mX9_wants 1 := ⟨qx_tbOf (List.mem_of_getElem? (i := 986) (by decide +kernel)) (by decide +kernel), qx_tbOf (List.mem_of_getElem? (i := 79) (by decide +kernel)) (by decide +kernel), ⟨by decide, by decide, by decide +kernel⟩, by decide, by decide⟩
theorem qcv_X9_wants : qx_cv mX9_wants := ⟨qx_tbOf (List.mem_of_getElem? (i := 985) (by decide +kernel)) (by decide +kernel), qx_tbOf (List.mem_of_getElem? (i := 41) (by decide +kernel)) (by decide +kernel)⟩
def mX9_fill : QM := (yX9_fill, cX9_fill, 5, (some .int))
theorem qcm_X9_fill : qx_cm mX9_fill 0 := ⟨qx_tbOf (List.mem_of_getElem? (i := 978) (by decide +kernel)) (by decide +kernel), qx_tbOf (List.mem_of_getElem? (i := 79) (by decide +kernel)) (by decide +kernel), ⟨by decide, by decide, by decide +kernel⟩, by decide, by decide⟩
theorem qcv_X9_fill : qx_cv mX9_fill := ⟨qx_tbOf (List.mem_of_getElem? (i := 976) (by decide +kernel)) (by decide +kernel), qx_tbOf (List.mem_of_getElem? (i := 977) (by decide +kernel)) (by decide +kernel)⟩
def mX9_pan : QM := (yX9_pan, cX9_pan, 5, (some .int))
theorem qcm_X9_pan : qx_cm mX9_pan 2 := ⟨qx_tbOf (List.mem_of_getElem? (i := 970) (by decide +kernel)) (by decide +kernel), qx_tbOf (List.mem_of_getElem? (i := 79) (by decide +kernel)) (by decide +kernel), ⟨by decide, by decide, by decide +kernel⟩, by decide, by decide⟩
theorem qcv_X9_pan : qx_cv mX9_pan := ⟨qx_tbOf (List.mem_of_getElem? (i := 968) (by decide +kernel)) (by decide +kernel), qx_tbOf (List.mem_of_getElem? (i := 969) (by decide +kernel)) (by decide +kernel)⟩
def mX9_meets : QM := (yX9_meets, cX9_meets, 5, (some .int))
theorem qcm_X9_meets : qx_cm mX9_meets 2 := ⟨qx_tbOf (List.mem_of_getElem? (i := 1003) (by decide +kernel)) (by decide +kernel), qx_tbOf (List.mem_of_getElem? (i := 79) (by decide +kernel)) (by decide +kernel), ⟨by decide, by decide, by decide +kernel⟩, by decide, by decide⟩
theorem qcv_X9_meets : qx_cv mX9_meets := ⟨qx_tbOf (List.mem_of_getElem? (i := 1002) (by decide +kernel)) (by decide +kernel), qx_tbOf (List.mem_of_getElem? (i := 43) (by decide +kernel)) (by decide +kernel)⟩
def mX9_placePart : QM := (yX9_placePart, cX9_placePart, 5, (some .int))
theorem qcm_X9_placePart : qx_cm mX9_placePart 3 := ⟨qx_tbOf (List.mem_of_getElem? (i := 999) (by decide +kernel)) (by decide +kernel), qx_tbOf (List.mem_of_getElem? (i := 79) (by decide +kernel)) (by decide +kernel), ⟨by decide, by decide, by decide +kernel⟩, by decide, by decide⟩
theorem qcv_X9_placePart : qx_cv mX9_placePart := ⟨qx_tbOf (List.mem_of_getElem? (i := 998) (by decide +kernel)) (by decide +kernel), qx_tbOf (List.mem_of_getElem? (i := 42) (by decide +kernel)) (by decide +kernel)⟩
def mX9_isSide : QM := (yX9_isSide, cX9_isSide, 1, (some .boolean))
theorem qcm_X9_isSide : qx_cm mX9_isSide 1 := ⟨qx_tbOf (List.mem_of_getElem? (i := 993) (by decide +kernel)) (by decide +kernel), qx_tbOf (List.mem_of_getElem? (i := 79) (by decide +kernel)) (by decide +kernel), ⟨by decide, by decide, by decide +kernel⟩, by decide, by decide⟩
theorem qcs_X9_isSide : Cond.static yX9_isSide ∈ qx_tb := qx_tbOf (List.mem_of_getElem? (i := 992) (by decide +kernel)) (by decide +kernel)
def mX9_place : QM := (yX9_place, cX9_place, 4, (some .int))
theorem qcm_X9_place : qx_cm mX9_place 3 := ⟨qx_tbOf (List.mem_of_getElem? (i := 990) (by decide +kernel)) (by decide +kernel), qx_tbOf (List.mem_of_getElem? (i := 79) (by decide +kernel)) (by decide +kernel), ⟨by decide, by decide, by decide +kernel⟩, by decide, by decide⟩
theorem qcv_X9_place : qx_cv mX9_place := ⟨qx_tbOf (List.mem_of_getElem? (i := 988) (by decide +kernel)) (by decide +kernel), qx_tbOf (List.mem_of_getElem? (i := 989) (by decide +kernel)) (by decide +kernel)⟩
def mX9_clash : QM := (yX9_clash, cX9_clash, 5, (some .int))
theorem qcm_X9_clash : qx_cm mX9_clash 4 := ⟨qx_tbOf (List.mem_of_getElem? (i := 1007) (by decide +kernel)) (by decide +kernel), qx_tbOf (List.mem_of_getElem? (i := 79) (by decide +kernel)) (by decide +kernel), ⟨by decide, by decide, by decide +kernel⟩, by decide, by decide⟩
theorem qcv_X9_clash : qx_cv mX9_clash := ⟨qx_tbOf (List.mem_of_getElem? (i := 1005) (by decide +kernel)) (by decide +kernel), qx_tbOf (List.mem_of_getElem? (i := 1006) (by decide +kernel)) (by decide +kernel)⟩
def mX9_labelAt : QM := (yX9_labelAt, cX9_labelAt, 4, (some .int))
theorem qcm_X9_labelAt : qx_cm mX9_labelAt 2 := ⟨qx_tbOf (List.mem_of_getElem? (i := 1011) (by decide +kernel)) (by decide +kernel), qx_tbOf (List.mem_of_getElem? (i := 79) (by decide +kernel)) (by decide +kernel), ⟨by decide, by decide, by decide +kernel⟩, by decide, by decide⟩
theorem qcv_X9_labelAt : qx_cv mX9_labelAt := ⟨qx_tbOf (List.mem_of_getElem? (i := 1009) (by decide +kernel)) (by decide +kernel), qx_tbOf (List.mem_of_getElem? (i := 1010) (by decide +kernel)) (by decide +kernel)⟩
def mX9_escapes : QM := (yX9_escapes, cX9_escapes, 6, (some .int))
theorem qcm_X9_escapes : qx_cm mX9_escapes 3 := ⟨qx_tbOf (List.mem_of_getElem? (i := 1028) (by decide +kernel)) (by decide +kernel), qx_tbOf (List.mem_of_getElem? (i := 79) (by decide +kernel)) (by decide +kernel), ⟨by decide, by decide, by decide +kernel⟩, by decide, by decide⟩
theorem qcv_X9_escapes : qx_cv mX9_escapes := ⟨qx_tbOf (List.mem_of_getElem? (i := 1027) (by decide +kernel)) (by decide +kernel), qx_tbOf (List.mem_of_getElem? (i := 46) (by decide +kernel)) (by decide +kernel)⟩
def mX9_makesRoom : QM := (yX9_makesRoom, cX9_makesRoom, 6, (some .boolean))
theorem qcm_X9_makesRoom : qx_cm mX9_makesRoom 2 := ⟨qx_tbOf (List.mem_of_getElem? (i := 1020) (by decide +kernel)) (by decide +kernel), qx_tbOf (List.mem_of_getElem? (i := 79) (by decide +kernel)) (by decide +kernel), ⟨by decide, by decide, by decide +kernel⟩, by decide, by decide⟩
theorem qcv_X9_makesRoom : qx_cv mX9_makesRoom := ⟨qx_tbOf (List.mem_of_getElem? (i := 1019) (by decide +kernel)) (by decide +kernel), qx_tbOf (List.mem_of_getElem? (i := 44) (by decide +kernel)) (by decide +kernel)⟩
def mX9_improve : QM := (yX9_improve, cX9_improve, 5, (some .int))
theorem qcm_X9_improve : qx_cm mX9_improve 0 := ⟨qx_tbOf (List.mem_of_getElem? (i := 1016) (by decide +kernel)) (by decide +kernel), qx_tbOf (List.mem_of_getElem? (i := 79) (by decide +kernel)) (by decide +kernel), ⟨by decide, by decide, by decide +kernel⟩, by decide, by decide⟩
theorem qcv_X9_improve : qx_cv mX9_improve := ⟨qx_tbOf (List.mem_of_getElem? (i := 1014) (by decide +kernel)) (by decide +kernel), qx_tbOf (List.mem_of_getElem? (i := 1015) (by decide +kernel)) (by decide +kernel)⟩
def mX9_isStronger : QM := (yX9_isStronger, cX9_isStronger, 6, (some .boolean))
theorem qcm_X9_isStronger : qx_cm mX9_isStronger 2 := ⟨qx_tbOf (List.mem_of_getElem? (i := 1044) (by decide +kernel)) (by decide +kernel), qx_tbOf (List.mem_of_getElem? (i := 79) (by decide +kernel)) (by decide +kernel), ⟨by decide, by decide, by decide +kernel⟩, by decide, by decide⟩
theorem qcv_X9_isStronger : qx_cv mX9_isStronger := ⟨qx_tbOf (List.mem_of_getElem? (i := 1043) (by decide +kernel)) (by decide +kernel), qx_tbOf (List.mem_of_getElem? (i := 49) (by decide +kernel)) (by decide +kernel)⟩
def mX9_strongest : QM := (yX9_strongest, cX9_strongest, 3, (some .int))
theorem qcm_X9_strongest : qx_cm mX9_strongest 1 := ⟨qx_tbOf (List.mem_of_getElem? (i := 1040) (by decide +kernel)) (by decide +kernel), qx_tbOf (List.mem_of_getElem? (i := 79) (by decide +kernel)) (by decide +kernel), ⟨by decide, by decide, by decide +kernel⟩, by decide, by decide⟩
theorem qcv_X9_strongest : qx_cv mX9_strongest := ⟨qx_tbOf (List.mem_of_getElem? (i := 1039) (by decide +kernel)) (by decide +kernel), qx_tbOf (List.mem_of_getElem? (i := 48) (by decide +kernel)) (by decide +kernel)⟩
def mX9_pushes : QM := (yX9_pushes, cX9_pushes, 6, (some .boolean))
theorem qcm_X9_pushes : qx_cm mX9_pushes 0 := ⟨qx_tbOf (List.mem_of_getElem? (i := 1036) (by decide +kernel)) (by decide +kernel), qx_tbOf (List.mem_of_getElem? (i := 79) (by decide +kernel)) (by decide +kernel), ⟨by decide, by decide, by decide +kernel⟩, by decide, by decide⟩
theorem qcv_X9_pushes : qx_cv mX9_pushes := ⟨qx_tbOf (List.mem_of_getElem? (i := 1035) (by decide +kernel)) (by decide +kernel), qx_tbOf (List.mem_of_getElem? (i := 47) (by decide +kernel)) (by decide +kernel)⟩
def mX9_push : QM := (yX9_push, cX9_push, 3, (some .int))
theorem qcm_X9_push : qx_cm mX9_push 0 := ⟨qx_tbOf (List.mem_of_getElem? (i := 1032) (by decide +kernel)) (by decide +kernel), qx_tbOf (List.mem_of_getElem? (i := 79) (by decide +kernel)) (by decide +kernel), ⟨by decide, by decide, by decide +kernel⟩, by decide, by decide⟩
theorem qcv_X9_push : qx_cv mX9_push := ⟨qx_tbOf (List.mem_of_getElem? (i := 1030) (by decide +kernel)) (by decide +kernel), qx_tbOf (List.mem_of_getElem? (i := 1031) (by decide +kernel)) (by decide +kernel)⟩
def mX9_show : QM := (yX9_show, cX9_show, 4, (some .int))
theorem qcm_X9_show : qx_cm mX9_show 2 := ⟨qx_tbOf (List.mem_of_getElem? (i := 1048) (by decide +kernel)) (by decide +kernel), qx_tbOf (List.mem_of_getElem? (i := 79) (by decide +kernel)) (by decide +kernel), ⟨by decide, by decide, by decide +kernel⟩, by decide, by decide⟩
theorem qcv_X9_show : qx_cv mX9_show := ⟨qx_tbOf (List.mem_of_getElem? (i := 1046) (by decide +kernel)) (by decide +kernel), qx_tbOf (List.mem_of_getElem? (i := 1047) (by decide +kernel)) (by decide +kernel)⟩
def mX9_hideAll : QM := (yX9_hideAll, cX9_hideAll, 3, (some .int))
theorem qcm_X9_hideAll : qx_cm mX9_hideAll 0 := ⟨qx_tbOf (List.mem_of_getElem? (i := 1052) (by decide +kernel)) (by decide +kernel), qx_tbOf (List.mem_of_getElem? (i := 79) (by decide +kernel)) (by decide +kernel), ⟨by decide, by decide, by decide +kernel⟩, by decide, by decide⟩
theorem qcv_X9_hideAll : qx_cv mX9_hideAll := ⟨qx_tbOf (List.mem_of_getElem? (i := 1050) (by decide +kernel)) (by decide +kernel), qx_tbOf (List.mem_of_getElem? (i := 1051) (by decide +kernel)) (by decide +kernel)⟩
def mX9_fitsWith : QM := (yX9_fitsWith, cX9_fitsWith, 4, (some .boolean))
theorem qcm_X9_fitsWith : qx_cm mX9_fitsWith 1 := ⟨qx_tbOf (List.mem_of_getElem? (i := 1060) (by decide +kernel)) (by decide +kernel), qx_tbOf (List.mem_of_getElem? (i := 79) (by decide +kernel)) (by decide +kernel), ⟨by decide, by decide, by decide +kernel⟩, by decide, by decide⟩
theorem qcv_X9_fitsWith : qx_cv mX9_fitsWith := ⟨qx_tbOf (List.mem_of_getElem? (i := 1059) (by decide +kernel)) (by decide +kernel), qx_tbOf (List.mem_of_getElem? (i := 50) (by decide +kernel)) (by decide +kernel)⟩
def mX9_sum : QM := (yX9_sum, cX9_sum, 4, (some .int))
theorem qcm_X9_sum : qx_cm mX9_sum 1 := ⟨qx_tbOf (List.mem_of_getElem? (i := 1064) (by decide +kernel)) (by decide +kernel), qx_tbOf (List.mem_of_getElem? (i := 79) (by decide +kernel)) (by decide +kernel), ⟨by decide, by decide, by decide +kernel⟩, by decide, by decide⟩
theorem qcv_X9_sum : qx_cv mX9_sum := ⟨qx_tbOf (List.mem_of_getElem? (i := 1063) (by decide +kernel)) (by decide +kernel), qx_tbOf (List.mem_of_getElem? (i := 51) (by decide +kernel)) (by decide +kernel)⟩
def mX9_greatest : QM := (yX9_greatest, cX9_greatest, 5, (some .int))
theorem qcm_X9_greatest : qx_cm mX9_greatest 0 := ⟨qx_tbOf (List.mem_of_getElem? (i := 1056) (by decide +kernel)) (by decide +kernel), qx_tbOf (List.mem_of_getElem? (i := 79) (by decide +kernel)) (by decide +kernel), ⟨by decide, by decide, by decide +kernel⟩, by decide, by decide⟩
theorem qcv_X9_greatest : qx_cv mX9_greatest := ⟨qx_tbOf (List.mem_of_getElem? (i := 1054) (by decide +kernel)) (by decide +kernel), qx_tbOf (List.mem_of_getElem? (i := 1055) (by decide +kernel)) (by decide +kernel)⟩
def mX9_isAhead : QM := (yX9_isAhead, cX9_isAhead, 3, (some .boolean))
theorem qcm_X9_isAhead : qx_cm mX9_isAhead 2 := ⟨qx_tbOf (List.mem_of_getElem? (i := 1072) (by decide +kernel)) (by decide +kernel), qx_tbOf (List.mem_of_getElem? (i := 79) (by decide +kernel)) (by decide +kernel), ⟨by decide, by decide, by decide +kernel⟩, by decide, by decide⟩
theorem qcv_X9_isAhead : qx_cv mX9_isAhead := ⟨qx_tbOf (List.mem_of_getElem? (i := 1071) (by decide +kernel)) (by decide +kernel), qx_tbOf (List.mem_of_getElem? (i := 52) (by decide +kernel)) (by decide +kernel)⟩
def mX9_leaders : QM := (yX9_leaders, cX9_leaders, 7, (some .int))
theorem qcm_X9_leaders : qx_cm mX9_leaders 0 := ⟨qx_tbOf (List.mem_of_getElem? (i := 1068) (by decide +kernel)) (by decide +kernel), qx_tbOf (List.mem_of_getElem? (i := 79) (by decide +kernel)) (by decide +kernel), ⟨by decide, by decide, by decide +kernel⟩, by decide, by decide⟩
theorem qcv_X9_leaders : qx_cv mX9_leaders := ⟨qx_tbOf (List.mem_of_getElem? (i := 1066) (by decide +kernel)) (by decide +kernel), qx_tbOf (List.mem_of_getElem? (i := 1067) (by decide +kernel)) (by decide +kernel)⟩
def mX9_leader : QM := (yX9_leader, cX9_leader, 3, (some .int))
theorem qcm_X9_leader : qx_cm mX9_leader 2 := ⟨qx_tbOf (List.mem_of_getElem? (i := 1076) (by decide +kernel)) (by decide +kernel), qx_tbOf (List.mem_of_getElem? (i := 79) (by decide +kernel)) (by decide +kernel), ⟨by decide, by decide, by decide +kernel⟩, by decide, by decide⟩
theorem qcv_X9_leader : qx_cv mX9_leader := ⟨qx_tbOf (List.mem_of_getElem? (i := 1074) (by decide +kernel)) (by decide +kernel), qx_tbOf (List.mem_of_getElem? (i := 1075) (by decide +kernel)) (by decide +kernel)⟩
def mX9_type : QM := (yX9_type, cX9_type, 2, (some .int))
theorem qcm_X9_type : qx_cm mX9_type 1 := ⟨qx_tbOf (List.mem_of_getElem? (i := 1081) (by decide +kernel)) (by decide +kernel), qx_tbOf (List.mem_of_getElem? (i := 79) (by decide +kernel)) (by decide +kernel), ⟨by decide, by decide, by decide +kernel⟩, by decide, by decide⟩
theorem qcv_X9_type : qx_cv mX9_type := ⟨qx_tbOf (List.mem_of_getElem? (i := 1079) (by decide +kernel)) (by decide +kernel), qx_tbOf (List.mem_of_getElem? (i := 1080) (by decide +kernel)) (by decide +kernel)⟩
def mX9_clear : QM := (yX9_clear, cX9_clear, 2, (some .int))
theorem qcm_X9_clear : qx_cm mX9_clear 0 := ⟨qx_tbOf (List.mem_of_getElem? (i := 1086) (by decide +kernel)) (by decide +kernel), qx_tbOf (List.mem_of_getElem? (i := 79) (by decide +kernel)) (by decide +kernel), ⟨by decide, by decide, by decide +kernel⟩, by decide, by decide⟩
theorem qcv_X9_clear : qx_cv mX9_clear := ⟨qx_tbOf (List.mem_of_getElem? (i := 1084) (by decide +kernel)) (by decide +kernel), qx_tbOf (List.mem_of_getElem? (i := 1085) (by decide +kernel)) (by decide +kernel)⟩
def mX9_next : QM := (yX9_next, cX9_next, 1, (some .int))
theorem qcm_X9_next : qx_cm mX9_next 0 := ⟨qx_tbOf (List.mem_of_getElem? (i := 1102) (by decide +kernel)) (by decide +kernel), qx_tbOf (List.mem_of_getElem? (i := 79) (by decide +kernel)) (by decide +kernel), ⟨by decide, by decide, by decide +kernel⟩, by decide, by decide⟩
theorem qcv_X9_next : qx_cv mX9_next := ⟨qx_tbOf (List.mem_of_getElem? (i := 1101) (by decide +kernel)) (by decide +kernel), qx_tbOf (List.mem_of_getElem? (i := 55) (by decide +kernel)) (by decide +kernel)⟩
def mX9_skips : QM := (yX9_skips, cX9_skips, 1, none)
theorem qcm_X9_skips : qx_cm mX9_skips 0 := ⟨qx_tbOf (List.mem_of_getElem? (i := 1098) (by decide +kernel)) (by decide +kernel), qx_tbOf (List.mem_of_getElem? (i := 79) (by decide +kernel)) (by decide +kernel), ⟨by decide, by decide, by decide +kernel⟩, by decide, by decide⟩
theorem qcv_X9_skips : qx_cv mX9_skips := ⟨qx_tbOf (List.mem_of_getElem? (i := 1097) (by decide +kernel)) (by decide +kernel), qx_tbOf (List.mem_of_getElem? (i := 54) (by decide +kernel)) (by decide +kernel)⟩
def mX9_fails : QM := (yX9_fails, cX9_fails, 2, none)
theorem qcm_X9_fails : qx_cm mX9_fails 1 := ⟨qx_tbOf (List.mem_of_getElem? (i := 1120) (by decide +kernel)) (by decide +kernel), qx_tbOf (List.mem_of_getElem? (i := 79) (by decide +kernel)) (by decide +kernel), ⟨by decide, by decide, by decide +kernel⟩, by decide, by decide⟩
theorem qcv_X9_fails : qx_cv mX9_fails := ⟨qx_tbOf (List.mem_of_getElem? (i := 1119) (by decide +kernel)) (by decide +kernel), qx_tbOf (List.mem_of_getElem? (i := 59) (by decide +kernel)) (by decide +kernel)⟩
def mX9_readsWord : QM := (yX9_readsWord, cX9_readsWord, 1, none)
theorem qcm_X9_readsWord : qx_cm mX9_readsWord 0 := ⟨qx_tbOf (List.mem_of_getElem? (i := 1106) (by decide +kernel)) (by decide +kernel), qx_tbOf (List.mem_of_getElem? (i := 79) (by decide +kernel)) (by decide +kernel), ⟨by decide, by decide, by decide +kernel⟩, by decide, by decide⟩
theorem qcv_X9_readsWord : qx_cv mX9_readsWord := ⟨qx_tbOf (List.mem_of_getElem? (i := 1105) (by decide +kernel)) (by decide +kernel), qx_tbOf (List.mem_of_getElem? (i := 56) (by decide +kernel)) (by decide +kernel)⟩
def mX9_isWord : QM := (yX9_isWord, cX9_isWord, 10, (some .boolean))
theorem qcm_X9_isWord : qx_cm mX9_isWord 7 := ⟨qx_tbOf (List.mem_of_getElem? (i := 1116) (by decide +kernel)) (by decide +kernel), qx_tbOf (List.mem_of_getElem? (i := 79) (by decide +kernel)) (by decide +kernel), ⟨by decide, by decide, by decide +kernel⟩, by decide, by decide⟩
theorem qcv_X9_isWord : qx_cv mX9_isWord := ⟨qx_tbOf (List.mem_of_getElem? (i := 1115) (by decide +kernel)) (by decide +kernel), qx_tbOf (List.mem_of_getElem? (i := 58) (by decide +kernel)) (by decide +kernel)⟩
def mX9_command : QM := (yX9_command, cX9_command, 2, (some .int))
theorem qcm_X9_command : qx_cm mX9_command 0 := ⟨qx_tbOf (List.mem_of_getElem? (i := 1112) (by decide +kernel)) (by decide +kernel), qx_tbOf (List.mem_of_getElem? (i := 79) (by decide +kernel)) (by decide +kernel), ⟨by decide, by decide, by decide +kernel⟩, by decide, by decide⟩
theorem qcv_X9_command : qx_cv mX9_command := ⟨qx_tbOf (List.mem_of_getElem? (i := 1111) (by decide +kernel)) (by decide +kernel), qx_tbOf (List.mem_of_getElem? (i := 57) (by decide +kernel)) (by decide +kernel)⟩
def mX9_readsNumber : QM := (yX9_readsNumber, cX9_readsNumber, 3, (some .int))
theorem qcm_X9_readsNumber : qx_cm mX9_readsNumber 0 := ⟨qx_tbOf (List.mem_of_getElem? (i := 1124) (by decide +kernel)) (by decide +kernel), qx_tbOf (List.mem_of_getElem? (i := 79) (by decide +kernel)) (by decide +kernel), ⟨by decide, by decide, by decide +kernel⟩, by decide, by decide⟩
theorem qcv_X9_readsNumber : qx_cv mX9_readsNumber := ⟨qx_tbOf (List.mem_of_getElem? (i := 1123) (by decide +kernel)) (by decide +kernel), qx_tbOf (List.mem_of_getElem? (i := 60) (by decide +kernel)) (by decide +kernel)⟩
def mX9_readsWhole : QM := (yX9_readsWhole, cX9_readsWhole, 3, (some .int))
theorem qcm_X9_readsWhole : qx_cm mX9_readsWhole 0 := ⟨qx_tbOf (List.mem_of_getElem? (i := 1130) (by decide +kernel)) (by decide +kernel), qx_tbOf (List.mem_of_getElem? (i := 79) (by decide +kernel)) (by decide +kernel), ⟨by decide, by decide, by decide +kernel⟩, by decide, by decide⟩
theorem qcv_X9_readsWhole : qx_cv mX9_readsWhole := ⟨qx_tbOf (List.mem_of_getElem? (i := 1129) (by decide +kernel)) (by decide +kernel), qx_tbOf (List.mem_of_getElem? (i := 61) (by decide +kernel)) (by decide +kernel)⟩
def mX9_reads : QM := (yX9_reads, cX9_reads, 5, (some .int))
theorem qcm_X9_reads : qx_cm mX9_reads 0 := ⟨qx_tbOf (List.mem_of_getElem? (i := 1094) (by decide +kernel)) (by decide +kernel), qx_tbOf (List.mem_of_getElem? (i := 79) (by decide +kernel)) (by decide +kernel), ⟨by decide, by decide, by decide +kernel⟩, by decide, by decide⟩
theorem qcv_X9_reads : qx_cv mX9_reads := ⟨qx_tbOf (List.mem_of_getElem? (i := 1093) (by decide +kernel)) (by decide +kernel), qx_tbOf (List.mem_of_getElem? (i := 53) (by decide +kernel)) (by decide +kernel)⟩
def mX9_run : QM := (yX9_run, cX9_run, 2, (some .int))
theorem qcm_X9_run : qx_cm mX9_run 0 := ⟨qx_tbOf (List.mem_of_getElem? (i := 1090) (by decide +kernel)) (by decide +kernel), qx_tbOf (List.mem_of_getElem? (i := 79) (by decide +kernel)) (by decide +kernel), ⟨by decide, by decide, by decide +kernel⟩, by decide, by decide⟩
theorem qcv_X9_run : qx_cv mX9_run := ⟨qx_tbOf (List.mem_of_getElem? (i := 1088) (by decide +kernel)) (by decide +kernel), qx_tbOf (List.mem_of_getElem? (i := 1089) (by decide +kernel)) (by decide +kernel)⟩
def mX9_places : QM := (yX9_places, cX9_places, 3, (some .int))
theorem qcm_X9_places : qx_cm mX9_places 0 := ⟨qx_tbOf (List.mem_of_getElem? (i := 1148) (by decide +kernel)) (by decide +kernel), qx_tbOf (List.mem_of_getElem? (i := 79) (by decide +kernel)) (by decide +kernel), ⟨by decide, by decide, by decide +kernel⟩, by decide, by decide⟩
theorem qcv_X9_places : qx_cv mX9_places := ⟨qx_tbOf (List.mem_of_getElem? (i := 1147) (by decide +kernel)) (by decide +kernel), qx_tbOf (List.mem_of_getElem? (i := 63) (by decide +kernel)) (by decide +kernel)⟩
def mX9_pairs : QM := (yX9_pairs, cX9_pairs, 3, (some .int))
theorem qcm_X9_pairs : qx_cm mX9_pairs 0 := ⟨qx_tbOf (List.mem_of_getElem? (i := 1152) (by decide +kernel)) (by decide +kernel), qx_tbOf (List.mem_of_getElem? (i := 79) (by decide +kernel)) (by decide +kernel), ⟨by decide, by decide, by decide +kernel⟩, by decide, by decide⟩
theorem qcv_X9_pairs : qx_cv mX9_pairs := ⟨qx_tbOf (List.mem_of_getElem? (i := 1151) (by decide +kernel)) (by decide +kernel), qx_tbOf (List.mem_of_getElem? (i := 64) (by decide +kernel)) (by decide +kernel)⟩
def mX9_priorities : QM := (yX9_priorities, cX9_priorities, 3, (some .int))
theorem qcm_X9_priorities : qx_cm mX9_priorities 0 := ⟨qx_tbOf (List.mem_of_getElem? (i := 1156) (by decide +kernel)) (by decide +kernel), qx_tbOf (List.mem_of_getElem? (i := 79) (by decide +kernel)) (by decide +kernel), ⟨by decide, by decide, by decide +kernel⟩, by decide, by decide⟩
theorem qcv_X9_priorities : qx_cv mX9_priorities := ⟨qx_tbOf (List.mem_of_getElem? (i := 1155) (by decide +kernel)) (by decide +kernel), qx_tbOf (List.mem_of_getElem? (i := 65) (by decide +kernel)) (by decide +kernel)⟩
def mX9_pushing : QM := (yX9_pushing, cX9_pushing, 3, (some .int))
theorem qcm_X9_pushing : qx_cm mX9_pushing 0 := ⟨qx_tbOf (List.mem_of_getElem? (i := 1160) (by decide +kernel)) (by decide +kernel), qx_tbOf (List.mem_of_getElem? (i := 79) (by decide +kernel)) (by decide +kernel), ⟨by decide, by decide, by decide +kernel⟩, by decide, by decide⟩
theorem qcv_X9_pushing : qx_cv mX9_pushing := ⟨qx_tbOf (List.mem_of_getElem? (i := 1159) (by decide +kernel)) (by decide +kernel), qx_tbOf (List.mem_of_getElem? (i := 66) (by decide +kernel)) (by decide +kernel)⟩
def mX9_number : QM := (yX9_number, cX9_number, 2, (some .int))
theorem qcm_X9_number : qx_cm mX9_number 1 := ⟨qx_tbOf (List.mem_of_getElem? (i := 1144) (by decide +kernel)) (by decide +kernel), qx_tbOf (List.mem_of_getElem? (i := 79) (by decide +kernel)) (by decide +kernel), ⟨by decide, by decide, by decide +kernel⟩, by decide, by decide⟩
theorem qcv_X9_number : qx_cv mX9_number := ⟨qx_tbOf (List.mem_of_getElem? (i := 1143) (by decide +kernel)) (by decide +kernel), qx_tbOf (List.mem_of_getElem? (i := 62) (by decide +kernel)) (by decide +kernel)⟩
def mX9_count : QM := (yX9_count, cX9_count, 2, (some .int))
theorem qcm_X9_count : qx_cm mX9_count 1 := ⟨qx_tbOf (List.mem_of_getElem? (i := 1139) (by decide +kernel)) (by decide +kernel), qx_tbOf (List.mem_of_getElem? (i := 79) (by decide +kernel)) (by decide +kernel), ⟨by decide, by decide, by decide +kernel⟩, by decide, by decide⟩
theorem qcv_X9_count : qx_cv mX9_count := ⟨qx_tbOf (List.mem_of_getElem? (i := 1137) (by decide +kernel)) (by decide +kernel), qx_tbOf (List.mem_of_getElem? (i := 1138) (by decide +kernel)) (by decide +kernel)⟩
def mX9_mixes : QM := (yX9_mixes, cX9_mixes, 3, none)
theorem qcm_X9_mixes : qx_cm mX9_mixes 1 := ⟨qx_tbOf (List.mem_of_getElem? (i := 1169) (by decide +kernel)) (by decide +kernel), qx_tbOf (List.mem_of_getElem? (i := 79) (by decide +kernel)) (by decide +kernel), ⟨by decide, by decide, by decide +kernel⟩, by decide, by decide⟩
theorem qcv_X9_mixes : qx_cv mX9_mixes := ⟨qx_tbOf (List.mem_of_getElem? (i := 1168) (by decide +kernel)) (by decide +kernel), qx_tbOf (List.mem_of_getElem? (i := 67) (by decide +kernel)) (by decide +kernel)⟩
def mX9_digest : QM := (yX9_digest, cX9_digest, 3, (some .long))
theorem qcm_X9_digest : qx_cm mX9_digest 0 := ⟨qx_tbOf (List.mem_of_getElem? (i := 1164) (by decide +kernel)) (by decide +kernel), qx_tbOf (List.mem_of_getElem? (i := 79) (by decide +kernel)) (by decide +kernel), ⟨by decide, by decide, by decide +kernel⟩, by decide, by decide⟩
theorem qcv_X9_digest : qx_cv mX9_digest := ⟨qx_tbOf (List.mem_of_getElem? (i := 1162) (by decide +kernel)) (by decide +kernel), qx_tbOf (List.mem_of_getElem? (i := 1163) (by decide +kernel)) (by decide +kernel)⟩
theorem qcs_J9_abs_0f7a4 : Cond.static yJ9_abs_0f7a4 ∈ qx_tb := qx_tbOf (List.mem_of_getElem? (i := 653) (by decide +kernel)) (by decide +kernel)
theorem qcc_J9_abs_0f7a4 : Cond.code yJ9_abs_0f7a4 cJ9_abs_0f7a4 1 (some .int) ∈ qx_tb := qx_tbOf (List.mem_of_getElem? (i := 654) (by decide +kernel)) (by decide +kernel)
theorem qcs_J9_max_7cf53 : Cond.static yJ9_max_7cf53 ∈ qx_tb := qx_tbOf (List.mem_of_getElem? (i := 605) (by decide +kernel)) (by decide +kernel)
theorem qcc_J9_max_7cf53 : Cond.code yJ9_max_7cf53 cJ9_max_7cf53 2 (some .int) ∈ qx_tb := qx_tbOf (List.mem_of_getElem? (i := 606) (by decide +kernel)) (by decide +kernel)
theorem qci_Math : Cond.initialized RJ9 ∈ qx_tb := qx_tbOf (List.mem_of_getElem? (i := 80) (by decide +kernel)) (by decide +kernel)
