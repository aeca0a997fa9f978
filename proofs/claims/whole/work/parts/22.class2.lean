section
variable {l : Launch} {D : va_G} {ci : Nat → ClassId} {a z : Nat → Nat}
theorem dX2_gatherWaiting_0 : decode cX2_gatherWaiting 0 = .ok (.iconst 0, 1) := by decide +kernel
theorem dX2_gatherWaiting_1 : decode cX2_gatherWaiting 1 = .ok (.istore_n 1, 1) := by decide +kernel
theorem dX2_gatherWaiting_2 : decode cX2_gatherWaiting 2 = .ok (.iconst 0, 1) := by decide +kernel
theorem dX2_gatherWaiting_3 : decode cX2_gatherWaiting 3 = .ok (.istore_n 2, 1) := by decide +kernel
theorem dX2_gatherWaiting_4 : decode cX2_gatherWaiting 4 = .ok (.iload_n 2, 1) := by decide +kernel
theorem dX2_gatherWaiting_5 : decode cX2_gatherWaiting 5 = .ok (.aload_n 0, 1) := by decide +kernel
theorem dX2_gatherWaiting_6 : decode cX2_gatherWaiting 6 = .ok (.getfield 9, 3) := by decide +kernel
theorem dX2_gatherWaiting_9 : decode cX2_gatherWaiting 9 = .ok (.getfield 54, 3) := by decide +kernel
theorem dX2_gatherWaiting_12 : decode cX2_gatherWaiting 12 = .ok (.if_icmp .ge 72, 3) := by decide +kernel
theorem dX2_gatherWaiting_15 : decode cX2_gatherWaiting 15 = .ok (.aload_n 0, 1) := by decide +kernel
theorem dX2_gatherWaiting_16 : decode cX2_gatherWaiting 16 = .ok (.getfield 19, 3) := by decide +kernel
theorem dX2_gatherWaiting_19 : decode cX2_gatherWaiting 19 = .ok (.iload_n 2, 1) := by decide +kernel
theorem dX2_gatherWaiting_20 : decode cX2_gatherWaiting 20 = .ok (.invokevirtual 57, 3) := by decide +kernel
theorem dX2_gatherWaiting_23 : decode cX2_gatherWaiting 23 = .ok (.ifCond .eq 55, 3) := by decide +kernel
theorem dX2_gatherWaiting_26 : decode cX2_gatherWaiting 26 = .ok (.iload_n 1, 1) := by decide +kernel
theorem dX2_gatherWaiting_27 : decode cX2_gatherWaiting 27 = .ok (.istore_n 3, 1) := by decide +kernel
theorem dX2_gatherWaiting_28 : decode cX2_gatherWaiting 28 = .ok (.iload_n 3, 1) := by decide +kernel
theorem dX2_gatherWaiting_29 : decode cX2_gatherWaiting 29 = .ok (.ifCond .le 39, 3) := by decide +kernel
theorem dX2_gatherWaiting_32 : decode cX2_gatherWaiting 32 = .ok (.aload_n 0, 1) := by decide +kernel
theorem dX2_gatherWaiting_33 : decode cX2_gatherWaiting 33 = .ok (.iload_n 2, 1) := by decide +kernel
theorem dX2_gatherWaiting_34 : decode cX2_gatherWaiting 34 = .ok (.aload_n 0, 1) := by decide +kernel
theorem dX2_gatherWaiting_35 : decode cX2_gatherWaiting 35 = .ok (.getfield 31, 3) := by decide +kernel
theorem dX2_gatherWaiting_38 : decode cX2_gatherWaiting 38 = .ok (.iload_n 3, 1) := by decide +kernel
theorem dX2_gatherWaiting_39 : decode cX2_gatherWaiting 39 = .ok (.iconst 1, 1) := by decide +kernel
theorem dX2_gatherWaiting_40 : decode cX2_gatherWaiting 40 = .ok (.isub, 1) := by decide +kernel
theorem dX2_gatherWaiting_41 : decode cX2_gatherWaiting 41 = .ok (.iaload, 1) := by decide +kernel
theorem dX2_gatherWaiting_42 : decode cX2_gatherWaiting 42 = .ok (.invokevirtual 63, 3) := by decide +kernel
theorem dX2_gatherWaiting_45 : decode cX2_gatherWaiting 45 = .ok (.ifCond .eq 23, 3) := by decide +kernel
theorem dX2_gatherWaiting_48 : decode cX2_gatherWaiting 48 = .ok (.aload_n 0, 1) := by decide +kernel
theorem dX2_gatherWaiting_49 : decode cX2_gatherWaiting 49 = .ok (.getfield 31, 3) := by decide +kernel
theorem dX2_gatherWaiting_52 : decode cX2_gatherWaiting 52 = .ok (.iload_n 3, 1) := by decide +kernel
theorem dX2_gatherWaiting_53 : decode cX2_gatherWaiting 53 = .ok (.aload_n 0, 1) := by decide +kernel
theorem dX2_gatherWaiting_54 : decode cX2_gatherWaiting 54 = .ok (.getfield 31, 3) := by decide +kernel
theorem dX2_gatherWaiting_57 : decode cX2_gatherWaiting 57 = .ok (.iload_n 3, 1) := by decide +kernel
theorem dX2_gatherWaiting_58 : decode cX2_gatherWaiting 58 = .ok (.iconst 1, 1) := by decide +kernel
theorem dX2_gatherWaiting_59 : decode cX2_gatherWaiting 59 = .ok (.isub, 1) := by decide +kernel
theorem dX2_gatherWaiting_60 : decode cX2_gatherWaiting 60 = .ok (.iaload, 1) := by decide +kernel
theorem dX2_gatherWaiting_61 : decode cX2_gatherWaiting 61 = .ok (.iastore, 1) := by decide +kernel
theorem dX2_gatherWaiting_62 : decode cX2_gatherWaiting 62 = .ok (.iinc 3 (-1), 3) := by decide +kernel
theorem dX2_gatherWaiting_65 : decode cX2_gatherWaiting 65 = .ok (.goto (-37), 3) := by decide +kernel
theorem dX2_gatherWaiting_68 : decode cX2_gatherWaiting 68 = .ok (.aload_n 0, 1) := by decide +kernel
theorem dX2_gatherWaiting_69 : decode cX2_gatherWaiting 69 = .ok (.getfield 31, 3) := by decide +kernel
theorem dX2_gatherWaiting_72 : decode cX2_gatherWaiting 72 = .ok (.iload_n 3, 1) := by decide +kernel
theorem dX2_gatherWaiting_73 : decode cX2_gatherWaiting 73 = .ok (.iload_n 2, 1) := by decide +kernel
theorem dX2_gatherWaiting_74 : decode cX2_gatherWaiting 74 = .ok (.iastore, 1) := by decide +kernel
theorem dX2_gatherWaiting_75 : decode cX2_gatherWaiting 75 = .ok (.iinc 1 1, 3) := by decide +kernel
theorem dX2_gatherWaiting_78 : decode cX2_gatherWaiting 78 = .ok (.iinc 2 1, 3) := by decide +kernel
theorem dX2_gatherWaiting_81 : decode cX2_gatherWaiting 81 = .ok (.goto (-77), 3) := by decide +kernel
theorem dX2_gatherWaiting_84 : decode cX2_gatherWaiting 84 = .ok (.iload_n 1, 1) := by decide +kernel
theorem dX2_gatherWaiting_85 : decode cX2_gatherWaiting 85 = .ok (.ireturn, 1) := by decide +kernel
theorem dX7_greatestY_0 : decode cX7_greatestY 0 = .ok (.aload_n 0, 1) := by decide +kernel
theorem dX7_greatestY_1 : decode cX7_greatestY 1 = .ok (.getfield 15, 3) := by decide +kernel
theorem dX7_greatestY_4 : decode cX7_greatestY 4 = .ok (.aload_n 0, 1) := by decide +kernel
theorem dX7_greatestY_5 : decode cX7_greatestY 5 = .ok (.getfield 21, 3) := by decide +kernel
theorem dX7_greatestY_8 : decode cX7_greatestY 8 = .ok (.iadd, 1) := by decide +kernel
theorem dX7_greatestY_9 : decode cX7_greatestY 9 = .ok (.iconst 1, 1) := by decide +kernel
theorem dX7_greatestY_10 : decode cX7_greatestY 10 = .ok (.isub, 1) := by decide +kernel
theorem dX7_greatestY_11 : decode cX7_greatestY 11 = .ok (.ireturn, 1) := by decide +kernel
theorem dX2_slotRow_0 : decode cX2_slotRow 0 = .ok (.aload_n 0, 1) := by decide +kernel
theorem dX2_slotRow_1 : decode cX2_slotRow 1 = .ok (.getfield 15, 3) := by decide +kernel
theorem dX2_slotRow_4 : decode cX2_slotRow 4 = .ok (.invokevirtual 51, 3) := by decide +kernel
theorem dX2_slotRow_7 : decode cX2_slotRow 7 = .ok (.iconst 2, 1) := by decide +kernel
theorem dX2_slotRow_8 : decode cX2_slotRow 8 = .ok (.iload_n 1, 1) := by decide +kernel
theorem dX2_slotRow_9 : decode cX2_slotRow 9 = .ok (.imul, 1) := by decide +kernel
theorem dX2_slotRow_10 : decode cX2_slotRow 10 = .ok (.isub, 1) := by decide +kernel
theorem dX2_slotRow_11 : decode cX2_slotRow 11 = .ok (.ireturn, 1) := by decide +kernel
theorem dX7_greatestX_0 : decode cX7_greatestX 0 = .ok (.aload_n 0, 1) := by decide +kernel
theorem dX7_greatestX_1 : decode cX7_greatestX 1 = .ok (.getfield 9, 3) := by decide +kernel
theorem dX7_greatestX_4 : decode cX7_greatestX 4 = .ok (.aload_n 0, 1) := by decide +kernel
theorem dX7_greatestX_5 : decode cX7_greatestX 5 = .ok (.getfield 18, 3) := by decide +kernel
theorem dX7_greatestX_8 : decode cX7_greatestX 8 = .ok (.iadd, 1) := by decide +kernel
theorem dX7_greatestX_9 : decode cX7_greatestX 9 = .ok (.iconst 1, 1) := by decide +kernel
theorem dX7_greatestX_10 : decode cX7_greatestX 10 = .ok (.isub, 1) := by decide +kernel
theorem dX7_greatestX_11 : decode cX7_greatestX 11 = .ok (.ireturn, 1) := by decide +kernel
theorem dX2_keep_0 : decode cX2_keep 0 = .ok (.aload_n 0, 1) := by decide +kernel
theorem dX2_keep_1 : decode cX2_keep 1 = .ok (.getfield 31, 3) := by decide +kernel
theorem dX2_keep_4 : decode cX2_keep 4 = .ok (.iload_n 1, 1) := by decide +kernel
theorem dX2_keep_5 : decode cX2_keep 5 = .ok (.iaload, 1) := by decide +kernel
theorem dX2_keep_6 : decode cX2_keep 6 = .ok (.istore_n 2, 1) := by decide +kernel
theorem dX2_keep_7 : decode cX2_keep 7 = .ok (.aload_n 0, 1) := by decide +kernel
theorem dX2_keep_8 : decode cX2_keep 8 = .ok (.getfield 9, 3) := by decide +kernel
theorem dX2_keep_11 : decode cX2_keep 11 = .ok (.iload_n 2, 1) := by decide +kernel
theorem dX2_keep_12 : decode cX2_keep 12 = .ok (.iconst 0, 1) := by decide +kernel
theorem dX2_keep_13 : decode cX2_keep 13 = .ok (.invokevirtual 67, 3) := by decide +kernel
theorem dX2_keep_16 : decode cX2_keep 16 = .ok (.istore_n 3, 1) := by decide +kernel
theorem dX2_keep_17 : decode cX2_keep 17 = .ok (.aload_n 0, 1) := by decide +kernel
theorem dX2_keep_18 : decode cX2_keep 18 = .ok (.getfield 9, 3) := by decide +kernel
theorem dX2_keep_21 : decode cX2_keep 21 = .ok (.iload_n 2, 1) := by decide +kernel
theorem dX2_keep_22 : decode cX2_keep 22 = .ok (.iconst 1, 1) := by decide +kernel
theorem dX2_keep_23 : decode cX2_keep 23 = .ok (.invokevirtual 67, 3) := by decide +kernel
theorem dX2_keep_26 : decode cX2_keep 26 = .ok (.istore 4, 2) := by decide +kernel
theorem dX2_keep_28 : decode cX2_keep 28 = .ok (.aload_n 0, 1) := by decide +kernel
theorem dX2_keep_29 : decode cX2_keep 29 = .ok (.iload_n 1, 1) := by decide +kernel
theorem dX2_keep_30 : decode cX2_keep 30 = .ok (.invokevirtual 38, 3) := by decide +kernel
theorem dX2_keep_33 : decode cX2_keep 33 = .ok (.istore 5, 2) := by decide +kernel
theorem dX2_keep_35 : decode cX2_keep 35 = .ok (.aload_n 0, 1) := by decide +kernel
theorem dX2_keep_36 : decode cX2_keep 36 = .ok (.getfield 15, 3) := by decide +kernel
theorem dX2_keep_39 : decode cX2_keep 39 = .ok (.invokevirtual 71, 3) := by decide +kernel
theorem dX2_keep_42 : decode cX2_keep 42 = .ok (.iconst 1, 1) := by decide +kernel
theorem dX2_keep_43 : decode cX2_keep 43 = .ok (.iadd, 1) := by decide +kernel
theorem dX2_keep_44 : decode cX2_keep 44 = .ok (.istore 6, 2) := by decide +kernel
theorem dX2_keep_46 : decode cX2_keep 46 = .ok (.iload 5, 2) := by decide +kernel
theorem dX2_keep_48 : decode cX2_keep 48 = .ok (.iload 4, 2) := by decide +kernel
theorem dX2_keep_50 : decode cX2_keep 50 = .ok (.if_icmp .le 7, 3) := by decide +kernel
theorem dX2_keep_53 : decode cX2_keep 53 = .ok (.iload_n 1, 1) := by decide +kernel
theorem dX2_keep_54 : decode cX2_keep 54 = .ok (.goto 11, 3) := by decide +kernel
theorem dX2_keep_57 : decode cX2_keep 57 = .ok (.aload_n 0, 1) := by decide +kernel
theorem dX2_keep_58 : decode cX2_keep 58 = .ok (.getfield 23, 3) := by decide +kernel
theorem dX2_keep_61 : decode cX2_keep 61 = .ok (.iconst 1, 1) := by decide +kernel
theorem dX2_keep_62 : decode cX2_keep 62 = .ok (.isub, 1) := by decide +kernel
theorem dX2_keep_63 : decode cX2_keep 63 = .ok (.iload_n 1, 1) := by decide +kernel
theorem dX2_keep_64 : decode cX2_keep 64 = .ok (.isub, 1) := by decide +kernel
theorem dX2_keep_65 : decode cX2_keep 65 = .ok (.istore 7, 2) := by decide +kernel
theorem dX2_keep_67 : decode cX2_keep 67 = .ok (.iload 6, 2) := by decide +kernel
theorem dX2_keep_69 : decode cX2_keep 69 = .ok (.aload_n 0, 1) := by decide +kernel
theorem dX2_keep_70 : decode cX2_keep 70 = .ok (.getfield 23, 3) := by decide +kernel
theorem dX2_keep_73 : decode cX2_keep 73 = .ok (.iadd, 1) := by decide +kernel
theorem dX2_keep_74 : decode cX2_keep 74 = .ok (.istore 8, 2) := by decide +kernel
theorem dX2_keep_76 : decode cX2_keep 76 = .ok (.iload_n 1, 1) := by decide +kernel
theorem dX2_keep_77 : decode cX2_keep 77 = .ok (.iconst 4, 1) := by decide +kernel
theorem dX2_keep_78 : decode cX2_keep 78 = .ok (.imul, 1) := by decide +kernel
theorem dX2_keep_79 : decode cX2_keep 79 = .ok (.istore 9, 2) := by decide +kernel
theorem dX2_keep_81 : decode cX2_keep 81 = .ok (.aload_n 0, 1) := by decide +kernel
theorem dX2_keep_82 : decode cX2_keep 82 = .ok (.getfield 27, 3) := by decide +kernel
theorem dX2_keep_85 : decode cX2_keep 85 = .ok (.iload 9, 2) := by decide +kernel
theorem dX2_keep_87 : decode cX2_keep 87 = .ok (.iconst 0, 1) := by decide +kernel
theorem dX2_keep_88 : decode cX2_keep 88 = .ok (.iadd, 1) := by decide +kernel
theorem dX2_keep_89 : decode cX2_keep 89 = .ok (.iload_n 2, 1) := by decide +kernel
theorem dX2_keep_90 : decode cX2_keep 90 = .ok (.iastore, 1) := by decide +kernel
theorem dX2_keep_91 : decode cX2_keep 91 = .ok (.aload_n 0, 1) := by decide +kernel
theorem dX2_keep_92 : decode cX2_keep 92 = .ok (.getfield 27, 3) := by decide +kernel
theorem dX2_keep_95 : decode cX2_keep 95 = .ok (.iload 9, 2) := by decide +kernel
theorem dX2_keep_97 : decode cX2_keep 97 = .ok (.iconst 1, 1) := by decide +kernel
theorem dX2_keep_98 : decode cX2_keep 98 = .ok (.iadd, 1) := by decide +kernel
theorem dX2_keep_99 : decode cX2_keep 99 = .ok (.iload 5, 2) := by decide +kernel
theorem dX2_keep_101 : decode cX2_keep 101 = .ok (.iastore, 1) := by decide +kernel
theorem dX2_keep_102 : decode cX2_keep 102 = .ok (.aload_n 0, 1) := by decide +kernel
theorem dX2_keep_103 : decode cX2_keep 103 = .ok (.getfield 27, 3) := by decide +kernel
theorem dX2_keep_106 : decode cX2_keep 106 = .ok (.iload 9, 2) := by decide +kernel
theorem dX2_keep_108 : decode cX2_keep 108 = .ok (.iconst 2, 1) := by decide +kernel
theorem dX2_keep_109 : decode cX2_keep 109 = .ok (.iadd, 1) := by decide +kernel
theorem dX2_keep_110 : decode cX2_keep 110 = .ok (.iload 6, 2) := by decide +kernel
theorem dX2_keep_112 : decode cX2_keep 112 = .ok (.iload 7, 2) := by decide +kernel
theorem dX2_keep_114 : decode cX2_keep 114 = .ok (.iadd, 1) := by decide +kernel
theorem dX2_keep_115 : decode cX2_keep 115 = .ok (.iastore, 1) := by decide +kernel
theorem dX2_keep_116 : decode cX2_keep 116 = .ok (.aload_n 0, 1) := by decide +kernel
theorem dX2_keep_117 : decode cX2_keep 117 = .ok (.getfield 27, 3) := by decide +kernel
theorem dX2_keep_120 : decode cX2_keep 120 = .ok (.iload 9, 2) := by decide +kernel
theorem dX2_keep_122 : decode cX2_keep 122 = .ok (.iconst 3, 1) := by decide +kernel
theorem dX2_keep_123 : decode cX2_keep 123 = .ok (.iadd, 1) := by decide +kernel
theorem dX2_keep_124 : decode cX2_keep 124 = .ok (.iload 8, 2) := by decide +kernel
theorem dX2_keep_126 : decode cX2_keep 126 = .ok (.iload_n 3, 1) := by decide +kernel
theorem dX2_keep_127 : decode cX2_keep 127 = .ok (.isub, 1) := by decide +kernel
theorem dX2_keep_128 : decode cX2_keep 128 = .ok (.iload 5, 2) := by decide +kernel
theorem dX2_keep_130 : decode cX2_keep 130 = .ok (.iload 4, 2) := by decide +kernel
theorem dX2_keep_132 : decode cX2_keep 132 = .ok (.isub, 1) := by decide +kernel
theorem dX2_keep_133 : decode cX2_keep 133 = .ok (.invokestatic 74, 3) := by decide +kernel
theorem dX2_keep_136 : decode cX2_keep 136 = .ok (.iadd, 1) := by decide +kernel
theorem dX2_keep_137 : decode cX2_keep 137 = .ok (.iastore, 1) := by decide +kernel
theorem dX2_keep_138 : decode cX2_keep 138 = .ok (.return_, 1) := by decide +kernel
theorem dX2_lay_0 : decode cX2_lay 0 = .ok (.aload_n 0, 1) := by decide +kernel
theorem dX2_lay_1 : decode cX2_lay 1 = .ok (.invokevirtual 34, 3) := by decide +kernel
theorem dX2_lay_4 : decode cX2_lay 4 = .ok (.istore_n 1, 1) := by decide +kernel
theorem dX2_lay_5 : decode cX2_lay 5 = .ok (.iload_n 1, 1) := by decide +kernel
theorem dX2_lay_6 : decode cX2_lay 6 = .ok (.ifCond .le 23, 3) := by decide +kernel
theorem dX2_lay_9 : decode cX2_lay 9 = .ok (.aload_n 0, 1) := by decide +kernel
theorem dX2_lay_10 : decode cX2_lay 10 = .ok (.iload_n 1, 1) := by decide +kernel
theorem dX2_lay_11 : decode cX2_lay 11 = .ok (.iconst 1, 1) := by decide +kernel
theorem dX2_lay_12 : decode cX2_lay 12 = .ok (.isub, 1) := by decide +kernel
theorem dX2_lay_13 : decode cX2_lay 13 = .ok (.invokevirtual 38, 3) := by decide +kernel
theorem dX2_lay_16 : decode cX2_lay 16 = .ok (.aload_n 0, 1) := by decide +kernel
theorem dX2_lay_17 : decode cX2_lay 17 = .ok (.getfield 15, 3) := by decide +kernel
theorem dX2_lay_20 : decode cX2_lay 20 = .ok (.getfield 42, 3) := by decide +kernel
theorem dX2_lay_23 : decode cX2_lay 23 = .ok (.if_icmp .ge 6, 3) := by decide +kernel
theorem dX2_lay_26 : decode cX2_lay 26 = .ok (.bipush (-3), 2) := by decide +kernel
theorem dX2_lay_28 : decode cX2_lay 28 = .ok (.ireturn, 1) := by decide +kernel
theorem dX2_lay_29 : decode cX2_lay 29 = .ok (.aload_n 0, 1) := by decide +kernel
theorem dX2_lay_30 : decode cX2_lay 30 = .ok (.iload_n 1, 1) := by decide +kernel
theorem dX2_lay_31 : decode cX2_lay 31 = .ok (.putfield 23, 3) := by decide +kernel
theorem dX2_lay_34 : decode cX2_lay 34 = .ok (.iconst 0, 1) := by decide +kernel
theorem dX2_lay_35 : decode cX2_lay 35 = .ok (.istore_n 2, 1) := by decide +kernel
theorem dX2_lay_36 : decode cX2_lay 36 = .ok (.iload_n 2, 1) := by decide +kernel
theorem dX2_lay_37 : decode cX2_lay 37 = .ok (.aload_n 0, 1) := by decide +kernel
theorem dX2_lay_38 : decode cX2_lay 38 = .ok (.getfield 23, 3) := by decide +kernel
theorem dX2_lay_41 : decode cX2_lay 41 = .ok (.if_icmp .ge 14, 3) := by decide +kernel
theorem dX2_lay_44 : decode cX2_lay 44 = .ok (.aload_n 0, 1) := by decide +kernel
theorem dX2_lay_45 : decode cX2_lay 45 = .ok (.iload_n 2, 1) := by decide +kernel
theorem dX2_lay_46 : decode cX2_lay 46 = .ok (.invokevirtual 47, 3) := by decide +kernel
theorem dX2_lay_49 : decode cX2_lay 49 = .ok (.iinc 2 1, 3) := by decide +kernel
theorem dX2_lay_52 : decode cX2_lay 52 = .ok (.goto (-16), 3) := by decide +kernel
theorem dX2_lay_55 : decode cX2_lay 55 = .ok (.aload_n 0, 1) := by decide +kernel
theorem dX2_lay_56 : decode cX2_lay 56 = .ok (.getfield 23, 3) := by decide +kernel
theorem dX2_lay_59 : decode cX2_lay 59 = .ok (.ireturn, 1) := by decide +kernel
theorem dX3_findBottom_0 : decode cX3_findBottom 0 = .ok (.aload_n 0, 1) := by decide +kernel
theorem dX3_findBottom_1 : decode cX3_findBottom 1 = .ok (.getfield 9, 3) := by decide +kernel
theorem dX3_findBottom_4 : decode cX3_findBottom 4 = .ok (.iload_n 1, 1) := by decide +kernel
theorem dX3_findBottom_5 : decode cX3_findBottom 5 = .ok (.iconst 1, 1) := by decide +kernel
theorem dX3_findBottom_6 : decode cX3_findBottom 6 = .ok (.invokevirtual 49, 3) := by decide +kernel
theorem dX3_findBottom_9 : decode cX3_findBottom 9 = .ok (.istore_n 3, 1) := by decide +kernel
theorem dX3_findBottom_10 : decode cX3_findBottom 10 = .ok (.aload_n 0, 1) := by decide +kernel
theorem dX3_findBottom_11 : decode cX3_findBottom 11 = .ok (.getfield 9, 3) := by decide +kernel
theorem dX3_findBottom_14 : decode cX3_findBottom 14 = .ok (.iload_n 1, 1) := by decide +kernel
theorem dX3_findBottom_15 : decode cX3_findBottom 15 = .ok (.iconst 3, 1) := by decide +kernel
theorem dX3_findBottom_16 : decode cX3_findBottom 16 = .ok (.invokevirtual 49, 3) := by decide +kernel
theorem dX3_findBottom_19 : decode cX3_findBottom 19 = .ok (.istore 4, 2) := by decide +kernel
theorem dX3_findBottom_21 : decode cX3_findBottom 21 = .ok (.iload_n 2, 1) := by decide +kernel
theorem dX3_findBottom_22 : decode cX3_findBottom 22 = .ok (.tableswitch 55 0 7 #[46, 46, 50, 50, 55, 55, 46, 50], 46) := by decide +kernel
theorem dX3_findBottom_68 : decode cX3_findBottom 68 = .ok (.iload_n 3, 1) := by decide +kernel
theorem dX3_findBottom_69 : decode cX3_findBottom 69 = .ok (.iconst 1, 1) := by decide +kernel
theorem dX3_findBottom_70 : decode cX3_findBottom 70 = .ok (.iadd, 1) := by decide +kernel
theorem dX3_findBottom_71 : decode cX3_findBottom 71 = .ok (.ireturn, 1) := by decide +kernel
theorem dX3_findBottom_72 : decode cX3_findBottom 72 = .ok (.iload_n 3, 1) := by decide +kernel
theorem dX3_findBottom_73 : decode cX3_findBottom 73 = .ok (.iload 4, 2) := by decide +kernel
theorem dX3_findBottom_75 : decode cX3_findBottom 75 = .ok (.isub, 1) := by decide +kernel
theorem dX3_findBottom_76 : decode cX3_findBottom 76 = .ok (.ireturn, 1) := by decide +kernel
theorem dX3_findBottom_77 : decode cX3_findBottom 77 = .ok (.iload_n 3, 1) := by decide +kernel
theorem dX3_findBottom_78 : decode cX3_findBottom 78 = .ok (.iload 4, 2) := by decide +kernel
theorem dX3_findBottom_80 : decode cX3_findBottom 80 = .ok (.iconst 1, 1) := by decide +kernel
theorem dX3_findBottom_81 : decode cX3_findBottom 81 = .ok (.isub, 1) := by decide +kernel
theorem dX3_findBottom_82 : decode cX3_findBottom 82 = .ok (.iconst 2, 1) := by decide +kernel
theorem dX3_findBottom_83 : decode cX3_findBottom 83 = .ok (.idiv, 1) := by decide +kernel
theorem dX3_findBottom_84 : decode cX3_findBottom 84 = .ok (.isub, 1) := by decide +kernel
theorem dX3_findBottom_85 : decode cX3_findBottom 85 = .ok (.ireturn, 1) := by decide +kernel
theorem dX3_findLeft_0 : decode cX3_findLeft 0 = .ok (.aload_n 0, 1) := by decide +kernel
theorem dX3_findLeft_1 : decode cX3_findLeft 1 = .ok (.getfield 9, 3) := by decide +kernel
theorem dX3_findLeft_4 : decode cX3_findLeft 4 = .ok (.iload_n 1, 1) := by decide +kernel
theorem dX3_findLeft_5 : decode cX3_findLeft 5 = .ok (.iconst 0, 1) := by decide +kernel
theorem dX3_findLeft_6 : decode cX3_findLeft 6 = .ok (.invokevirtual 49, 3) := by decide +kernel
theorem dX3_findLeft_9 : decode cX3_findLeft 9 = .ok (.istore_n 3, 1) := by decide +kernel
theorem dX3_findLeft_10 : decode cX3_findLeft 10 = .ok (.aload_n 0, 1) := by decide +kernel
theorem dX3_findLeft_11 : decode cX3_findLeft 11 = .ok (.getfield 9, 3) := by decide +kernel
theorem dX3_findLeft_14 : decode cX3_findLeft 14 = .ok (.iload_n 1, 1) := by decide +kernel
theorem dX3_findLeft_15 : decode cX3_findLeft 15 = .ok (.iconst 2, 1) := by decide +kernel
theorem dX3_findLeft_16 : decode cX3_findLeft 16 = .ok (.invokevirtual 49, 3) := by decide +kernel
theorem dX3_findLeft_19 : decode cX3_findLeft 19 = .ok (.istore 4, 2) := by decide +kernel
theorem dX3_findLeft_21 : decode cX3_findLeft 21 = .ok (.iload_n 2, 1) := by decide +kernel
theorem dX3_findLeft_22 : decode cX3_findLeft 22 = .ok (.tableswitch 47 0 5 #[38, 42, 38, 42, 38, 42], 38) := by decide +kernel
theorem dX3_findLeft_60 : decode cX3_findLeft 60 = .ok (.iload_n 3, 1) := by decide +kernel
theorem dX3_findLeft_61 : decode cX3_findLeft 61 = .ok (.iconst 1, 1) := by decide +kernel
theorem dX3_findLeft_62 : decode cX3_findLeft 62 = .ok (.iadd, 1) := by decide +kernel
theorem dX3_findLeft_63 : decode cX3_findLeft 63 = .ok (.ireturn, 1) := by decide +kernel
theorem dX3_findLeft_64 : decode cX3_findLeft 64 = .ok (.iload_n 3, 1) := by decide +kernel
theorem dX3_findLeft_65 : decode cX3_findLeft 65 = .ok (.iload 4, 2) := by decide +kernel
theorem dX3_findLeft_67 : decode cX3_findLeft 67 = .ok (.isub, 1) := by decide +kernel
theorem dX3_findLeft_68 : decode cX3_findLeft 68 = .ok (.ireturn, 1) := by decide +kernel
theorem dX3_findLeft_69 : decode cX3_findLeft 69 = .ok (.iload_n 3, 1) := by decide +kernel
theorem dX3_findLeft_70 : decode cX3_findLeft 70 = .ok (.iload 4, 2) := by decide +kernel
theorem dX3_findLeft_72 : decode cX3_findLeft 72 = .ok (.iconst 1, 1) := by decide +kernel
theorem dX3_findLeft_73 : decode cX3_findLeft 73 = .ok (.isub, 1) := by decide +kernel
theorem dX3_findLeft_74 : decode cX3_findLeft 74 = .ok (.iconst 2, 1) := by decide +kernel
theorem dX3_findLeft_75 : decode cX3_findLeft 75 = .ok (.idiv, 1) := by decide +kernel
theorem dX3_findLeft_76 : decode cX3_findLeft 76 = .ok (.isub, 1) := by decide +kernel
theorem dX3_findLeft_77 : decode cX3_findLeft 77 = .ok (.ireturn, 1) := by decide +kernel
theorem dX3_bottomOf_0 : decode cX3_bottomOf 0 = .ok (.aload_n 0, 1) := by decide +kernel
theorem dX3_bottomOf_1 : decode cX3_bottomOf 1 = .ok (.getfield 23, 3) := by decide +kernel
theorem dX3_bottomOf_4 : decode cX3_bottomOf 4 = .ok (.iload_n 1, 1) := by decide +kernel
theorem dX3_bottomOf_5 : decode cX3_bottomOf 5 = .ok (.bipush 8, 2) := by decide +kernel
theorem dX3_bottomOf_7 : decode cX3_bottomOf 7 = .ok (.imul, 1) := by decide +kernel
theorem dX3_bottomOf_8 : decode cX3_bottomOf 8 = .ok (.iload_n 2, 1) := by decide +kernel
theorem dX3_bottomOf_9 : decode cX3_bottomOf 9 = .ok (.iadd, 1) := by decide +kernel
theorem dX3_bottomOf_10 : decode cX3_bottomOf 10 = .ok (.iaload, 1) := by decide +kernel
theorem dX3_bottomOf_11 : decode cX3_bottomOf 11 = .ok (.ireturn, 1) := by decide +kernel
theorem dX3_leftOf_0 : decode cX3_leftOf 0 = .ok (.aload_n 0, 1) := by decide +kernel
theorem dX3_leftOf_1 : decode cX3_leftOf 1 = .ok (.getfield 19, 3) := by decide +kernel
theorem dX3_leftOf_4 : decode cX3_leftOf 4 = .ok (.iload_n 1, 1) := by decide +kernel
theorem dX3_leftOf_5 : decode cX3_leftOf 5 = .ok (.bipush 8, 2) := by decide +kernel
theorem dX3_leftOf_7 : decode cX3_leftOf 7 = .ok (.imul, 1) := by decide +kernel
theorem dX3_leftOf_8 : decode cX3_leftOf 8 = .ok (.iload_n 2, 1) := by decide +kernel
theorem dX3_leftOf_9 : decode cX3_leftOf 9 = .ok (.iadd, 1) := by decide +kernel
theorem dX3_leftOf_10 : decode cX3_leftOf 10 = .ok (.iaload, 1) := by decide +kernel
theorem dX3_leftOf_11 : decode cX3_leftOf 11 = .ok (.ireturn, 1) := by decide +kernel
theorem dX4_isIn_0 : decode cX4_isIn 0 = .ok (.iconst 0, 1) := by decide +kernel
theorem dX4_isIn_1 : decode cX4_isIn 1 = .ok (.istore 5, 2) := by decide +kernel
theorem dX4_isIn_3 : decode cX4_isIn 3 = .ok (.iload 5, 2) := by decide +kernel
theorem dX4_isIn_5 : decode cX4_isIn 5 = .ok (.aload_n 0, 1) := by decide +kernel
theorem dX4_isIn_6 : decode cX4_isIn 6 = .ok (.getfield 9, 3) := by decide +kernel
theorem dX4_isIn_9 : decode cX4_isIn 9 = .ok (.if_icmp .ge 56, 3) := by decide +kernel
theorem dX4_isIn_12 : decode cX4_isIn 12 = .ok (.aload_n 0, 1) := by decide +kernel
theorem dX4_isIn_13 : decode cX4_isIn 13 = .ok (.iload 5, 2) := by decide +kernel
theorem dX4_isIn_15 : decode cX4_isIn 15 = .ok (.iconst 0, 1) := by decide +kernel
theorem dX4_isIn_16 : decode cX4_isIn 16 = .ok (.invokevirtual 36, 3) := by decide +kernel
theorem dX4_isIn_19 : decode cX4_isIn 19 = .ok (.iload_n 1, 1) := by decide +kernel
theorem dX4_isIn_20 : decode cX4_isIn 20 = .ok (.isub, 1) := by decide +kernel
theorem dX4_isIn_21 : decode cX4_isIn 21 = .ok (.istore 6, 2) := by decide +kernel
theorem dX4_isIn_23 : decode cX4_isIn 23 = .ok (.aload_n 0, 1) := by decide +kernel
theorem dX4_isIn_24 : decode cX4_isIn 24 = .ok (.iload 5, 2) := by decide +kernel
theorem dX4_isIn_26 : decode cX4_isIn 26 = .ok (.iconst 1, 1) := by decide +kernel
theorem dX4_isIn_27 : decode cX4_isIn 27 = .ok (.invokevirtual 36, 3) := by decide +kernel
theorem dX4_isIn_30 : decode cX4_isIn 30 = .ok (.iload_n 2, 1) := by decide +kernel
theorem dX4_isIn_31 : decode cX4_isIn 31 = .ok (.isub, 1) := by decide +kernel
theorem dX4_isIn_32 : decode cX4_isIn 32 = .ok (.istore 7, 2) := by decide +kernel
theorem dX4_isIn_34 : decode cX4_isIn 34 = .ok (.iload 6, 2) := by decide +kernel
theorem dX4_isIn_36 : decode cX4_isIn 36 = .ok (.ifCond .lt 23, 3) := by decide +kernel
theorem dX4_isIn_39 : decode cX4_isIn 39 = .ok (.iload 6, 2) := by decide +kernel
theorem dX4_isIn_41 : decode cX4_isIn 41 = .ok (.iload_n 3, 1) := by decide +kernel
theorem dX4_isIn_42 : decode cX4_isIn 42 = .ok (.if_icmp .ge 17, 3) := by decide +kernel
theorem dX4_isIn_45 : decode cX4_isIn 45 = .ok (.iload 7, 2) := by decide +kernel
theorem dX4_isIn_47 : decode cX4_isIn 47 = .ok (.ifCond .lt 12, 3) := by decide +kernel
theorem dX4_isIn_50 : decode cX4_isIn 50 = .ok (.iload 7, 2) := by decide +kernel
theorem dX4_isIn_52 : decode cX4_isIn 52 = .ok (.iload 4, 2) := by decide +kernel
theorem dX4_isIn_54 : decode cX4_isIn 54 = .ok (.if_icmp .ge 5, 3) := by decide +kernel
theorem dX4_isIn_57 : decode cX4_isIn 57 = .ok (.iconst 1, 1) := by decide +kernel
theorem dX4_isIn_58 : decode cX4_isIn 58 = .ok (.ireturn, 1) := by decide +kernel
theorem dX4_isIn_59 : decode cX4_isIn 59 = .ok (.iinc 5 1, 3) := by decide +kernel
theorem dX4_isIn_62 : decode cX4_isIn 62 = .ok (.goto (-59), 3) := by decide +kernel
theorem dX4_isIn_65 : decode cX4_isIn 65 = .ok (.iconst 0, 1) := by decide +kernel
theorem dX4_isIn_66 : decode cX4_isIn 66 = .ok (.ireturn, 1) := by decide +kernel
theorem dX3_isGood_0 : decode cX3_isGood 0 = .ok (.aload_n 0, 1) := by decide +kernel
theorem dX3_isGood_1 : decode cX3_isGood 1 = .ok (.getfield 9, 3) := by decide +kernel
theorem dX3_isGood_4 : decode cX3_isGood 4 = .ok (.iload_n 1, 1) := by decide +kernel
theorem dX3_isGood_5 : decode cX3_isGood 5 = .ok (.iconst 2, 1) := by decide +kernel
theorem dX3_isGood_6 : decode cX3_isGood 6 = .ok (.invokevirtual 49, 3) := by decide +kernel
theorem dX3_isGood_9 : decode cX3_isGood 9 = .ok (.istore_n 3, 1) := by decide +kernel
theorem dX3_isGood_10 : decode cX3_isGood 10 = .ok (.aload_n 0, 1) := by decide +kernel
theorem dX3_isGood_11 : decode cX3_isGood 11 = .ok (.getfield 9, 3) := by decide +kernel
theorem dX3_isGood_14 : decode cX3_isGood 14 = .ok (.iload_n 1, 1) := by decide +kernel
theorem dX3_isGood_15 : decode cX3_isGood 15 = .ok (.iconst 3, 1) := by decide +kernel
theorem dX3_isGood_16 : decode cX3_isGood 16 = .ok (.invokevirtual 49, 3) := by decide +kernel
theorem dX3_isGood_19 : decode cX3_isGood 19 = .ok (.istore 4, 2) := by decide +kernel
theorem dX3_isGood_21 : decode cX3_isGood 21 = .ok (.aload_n 0, 1) := by decide +kernel
theorem dX3_isGood_22 : decode cX3_isGood 22 = .ok (.iload_n 1, 1) := by decide +kernel
theorem dX3_isGood_23 : decode cX3_isGood 23 = .ok (.iload_n 2, 1) := by decide +kernel
theorem dX3_isGood_24 : decode cX3_isGood 24 = .ok (.invokevirtual 56, 3) := by decide +kernel
theorem dX3_isGood_27 : decode cX3_isGood 27 = .ok (.istore 5, 2) := by decide +kernel
theorem dX3_isGood_29 : decode cX3_isGood 29 = .ok (.aload_n 0, 1) := by decide +kernel
theorem dX3_isGood_30 : decode cX3_isGood 30 = .ok (.iload_n 1, 1) := by decide +kernel
theorem dX3_isGood_31 : decode cX3_isGood 31 = .ok (.iload_n 2, 1) := by decide +kernel
theorem dX3_isGood_32 : decode cX3_isGood 32 = .ok (.invokevirtual 59, 3) := by decide +kernel
theorem dX3_isGood_35 : decode cX3_isGood 35 = .ok (.istore 6, 2) := by decide +kernel
theorem dX3_isGood_37 : decode cX3_isGood 37 = .ok (.aload_n 0, 1) := by decide +kernel
theorem dX3_isGood_38 : decode cX3_isGood 38 = .ok (.getfield 9, 3) := by decide +kernel
theorem dX3_isGood_41 : decode cX3_isGood 41 = .ok (.iload_n 1, 1) := by decide +kernel
theorem dX3_isGood_42 : decode cX3_isGood 42 = .ok (.iconst 5, 1) := by decide +kernel
theorem dX3_isGood_43 : decode cX3_isGood 43 = .ok (.invokevirtual 49, 3) := by decide +kernel
theorem dX3_isGood_46 : decode cX3_isGood 46 = .ok (.iload_n 2, 1) := by decide +kernel
theorem dX3_isGood_47 : decode cX3_isGood 47 = .ok (.ishr, 1) := by decide +kernel
theorem dX3_isGood_48 : decode cX3_isGood 48 = .ok (.iconst 1, 1) := by decide +kernel
theorem dX3_isGood_49 : decode cX3_isGood 49 = .ok (.iand, 1) := by decide +kernel
theorem dX3_isGood_50 : decode cX3_isGood 50 = .ok (.iconst 1, 1) := by decide +kernel
theorem dX3_isGood_51 : decode cX3_isGood 51 = .ok (.if_icmp .ne 49, 3) := by decide +kernel
theorem dX3_isGood_54 : decode cX3_isGood 54 = .ok (.aload_n 0, 1) := by decide +kernel
theorem dX3_isGood_55 : decode cX3_isGood 55 = .ok (.iload_n 1, 1) := by decide +kernel
theorem dX3_isGood_56 : decode cX3_isGood 56 = .ok (.invokevirtual 62, 3) := by decide +kernel
theorem dX3_isGood_59 : decode cX3_isGood 59 = .ok (.ifCond .eq 41, 3) := by decide +kernel
theorem dX3_isGood_62 : decode cX3_isGood 62 = .ok (.aload_n 0, 1) := by decide +kernel
theorem dX3_isGood_63 : decode cX3_isGood 63 = .ok (.getfield 15, 3) := by decide +kernel
theorem dX3_isGood_66 : decode cX3_isGood 66 = .ok (.iload 5, 2) := by decide +kernel
theorem dX3_isGood_68 : decode cX3_isGood 68 = .ok (.iload 6, 2) := by decide +kernel
theorem dX3_isGood_70 : decode cX3_isGood 70 = .ok (.iload_n 3, 1) := by decide +kernel
theorem dX3_isGood_71 : decode cX3_isGood 71 = .ok (.iload 4, 2) := by decide +kernel
theorem dX3_isGood_73 : decode cX3_isGood 73 = .ok (.invokevirtual 66, 3) := by decide +kernel
theorem dX3_isGood_76 : decode cX3_isGood 76 = .ok (.ifCond .eq 24, 3) := by decide +kernel
theorem dX3_isGood_79 : decode cX3_isGood 79 = .ok (.aload_n 0, 1) := by decide +kernel
theorem dX3_isGood_80 : decode cX3_isGood 80 = .ok (.getfield 9, 3) := by decide +kernel
theorem dX3_isGood_83 : decode cX3_isGood 83 = .ok (.iload 5, 2) := by decide +kernel
theorem dX3_isGood_85 : decode cX3_isGood 85 = .ok (.iload 6, 2) := by decide +kernel
theorem dX3_isGood_87 : decode cX3_isGood 87 = .ok (.iload_n 3, 1) := by decide +kernel
theorem dX3_isGood_88 : decode cX3_isGood 88 = .ok (.iload 4, 2) := by decide +kernel
theorem dX3_isGood_90 : decode cX3_isGood 90 = .ok (.invokevirtual 72, 3) := by decide +kernel
theorem dX3_isGood_93 : decode cX3_isGood 93 = .ok (.ifCond .ne 7, 3) := by decide +kernel
theorem dX3_isGood_96 : decode cX3_isGood 96 = .ok (.iconst 1, 1) := by decide +kernel
theorem dX3_isGood_97 : decode cX3_isGood 97 = .ok (.goto 4, 3) := by decide +kernel
theorem dX3_isGood_100 : decode cX3_isGood 100 = .ok (.iconst 0, 1) := by decide +kernel
theorem dX3_isGood_101 : decode cX3_isGood 101 = .ok (.ireturn, 1) := by decide +kernel
theorem dX3_findAll_0 : decode cX3_findAll 0 = .ok (.iconst 0, 1) := by decide +kernel
theorem dX3_findAll_1 : decode cX3_findAll 1 = .ok (.istore_n 1, 1) := by decide +kernel
theorem dX3_findAll_2 : decode cX3_findAll 2 = .ok (.iload_n 1, 1) := by decide +kernel
theorem dX3_findAll_3 : decode cX3_findAll 3 = .ok (.aload_n 0, 1) := by decide +kernel
theorem dX3_findAll_4 : decode cX3_findAll 4 = .ok (.getfield 9, 3) := by decide +kernel
theorem dX3_findAll_7 : decode cX3_findAll 7 = .ok (.getfield 36, 3) := by decide +kernel
theorem dX3_findAll_10 : decode cX3_findAll 10 = .ok (.if_icmp .ge 110, 3) := by decide +kernel
theorem dX3_findAll_13 : decode cX3_findAll 13 = .ok (.iconst 0, 1) := by decide +kernel
theorem dX3_findAll_14 : decode cX3_findAll 14 = .ok (.istore_n 2, 1) := by decide +kernel
theorem dX3_findAll_15 : decode cX3_findAll 15 = .ok (.iload_n 2, 1) := by decide +kernel
theorem dX3_findAll_16 : decode cX3_findAll 16 = .ok (.bipush 8, 2) := by decide +kernel
theorem dX3_findAll_18 : decode cX3_findAll 18 = .ok (.if_icmp .ge 96, 3) := by decide +kernel
theorem dX3_findAll_21 : decode cX3_findAll 21 = .ok (.iload_n 1, 1) := by decide +kernel
theorem dX3_findAll_22 : decode cX3_findAll 22 = .ok (.bipush 8, 2) := by decide +kernel
theorem dX3_findAll_24 : decode cX3_findAll 24 = .ok (.imul, 1) := by decide +kernel
theorem dX3_findAll_25 : decode cX3_findAll 25 = .ok (.iload_n 2, 1) := by decide +kernel
theorem dX3_findAll_26 : decode cX3_findAll 26 = .ok (.iadd, 1) := by decide +kernel
theorem dX3_findAll_27 : decode cX3_findAll 27 = .ok (.istore_n 3, 1) := by decide +kernel
theorem dX3_findAll_28 : decode cX3_findAll 28 = .ok (.aload_n 0, 1) := by decide +kernel
theorem dX3_findAll_29 : decode cX3_findAll 29 = .ok (.getfield 19, 3) := by decide +kernel
theorem dX3_findAll_32 : decode cX3_findAll 32 = .ok (.iload_n 3, 1) := by decide +kernel
theorem dX3_findAll_33 : decode cX3_findAll 33 = .ok (.aload_n 0, 1) := by decide +kernel
theorem dX3_findAll_34 : decode cX3_findAll 34 = .ok (.iload_n 1, 1) := by decide +kernel
theorem dX3_findAll_35 : decode cX3_findAll 35 = .ok (.iload_n 2, 1) := by decide +kernel
theorem dX3_findAll_36 : decode cX3_findAll 36 = .ok (.invokevirtual 42, 3) := by decide +kernel
theorem dX3_findAll_39 : decode cX3_findAll 39 = .ok (.iastore, 1) := by decide +kernel
theorem dX3_findAll_40 : decode cX3_findAll 40 = .ok (.aload_n 0, 1) := by decide +kernel
theorem dX3_findAll_41 : decode cX3_findAll 41 = .ok (.getfield 23, 3) := by decide +kernel
theorem dX3_findAll_44 : decode cX3_findAll 44 = .ok (.iload_n 3, 1) := by decide +kernel
theorem dX3_findAll_45 : decode cX3_findAll 45 = .ok (.aload_n 0, 1) := by decide +kernel
theorem dX3_findAll_46 : decode cX3_findAll 46 = .ok (.iload_n 1, 1) := by decide +kernel
theorem dX3_findAll_47 : decode cX3_findAll 47 = .ok (.iload_n 2, 1) := by decide +kernel
theorem dX3_findAll_48 : decode cX3_findAll 48 = .ok (.invokevirtual 46, 3) := by decide +kernel
theorem dX3_findAll_51 : decode cX3_findAll 51 = .ok (.iastore, 1) := by decide +kernel
theorem dX3_findAll_52 : decode cX3_findAll 52 = .ok (.aload_n 0, 1) := by decide +kernel
theorem dX3_findAll_53 : decode cX3_findAll 53 = .ok (.getfield 26, 3) := by decide +kernel
theorem dX3_findAll_56 : decode cX3_findAll 56 = .ok (.iload_n 3, 1) := by decide +kernel
theorem dX3_findAll_57 : decode cX3_findAll 57 = .ok (.aload_n 0, 1) := by decide +kernel
theorem dX3_findAll_58 : decode cX3_findAll 58 = .ok (.getfield 19, 3) := by decide +kernel
theorem dX3_findAll_61 : decode cX3_findAll 61 = .ok (.iload_n 3, 1) := by decide +kernel
theorem dX3_findAll_62 : decode cX3_findAll 62 = .ok (.iaload, 1) := by decide +kernel
theorem dX3_findAll_63 : decode cX3_findAll 63 = .ok (.aload_n 0, 1) := by decide +kernel
theorem dX3_findAll_64 : decode cX3_findAll 64 = .ok (.getfield 9, 3) := by decide +kernel
theorem dX3_findAll_67 : decode cX3_findAll 67 = .ok (.iload_n 1, 1) := by decide +kernel
theorem dX3_findAll_68 : decode cX3_findAll 68 = .ok (.iconst 2, 1) := by decide +kernel
theorem dX3_findAll_69 : decode cX3_findAll 69 = .ok (.invokevirtual 49, 3) := by decide +kernel
theorem dX3_findAll_72 : decode cX3_findAll 72 = .ok (.iadd, 1) := by decide +kernel
theorem dX3_findAll_73 : decode cX3_findAll 73 = .ok (.iastore, 1) := by decide +kernel
theorem dX3_findAll_74 : decode cX3_findAll 74 = .ok (.aload_n 0, 1) := by decide +kernel
theorem dX3_findAll_75 : decode cX3_findAll 75 = .ok (.getfield 29, 3) := by decide +kernel
theorem dX3_findAll_78 : decode cX3_findAll 78 = .ok (.iload_n 3, 1) := by decide +kernel
theorem dX3_findAll_79 : decode cX3_findAll 79 = .ok (.aload_n 0, 1) := by decide +kernel
theorem dX3_findAll_80 : decode cX3_findAll 80 = .ok (.getfield 23, 3) := by decide +kernel
theorem dX3_findAll_83 : decode cX3_findAll 83 = .ok (.iload_n 3, 1) := by decide +kernel
theorem dX3_findAll_84 : decode cX3_findAll 84 = .ok (.iaload, 1) := by decide +kernel
theorem dX3_findAll_85 : decode cX3_findAll 85 = .ok (.aload_n 0, 1) := by decide +kernel
theorem dX3_findAll_86 : decode cX3_findAll 86 = .ok (.getfield 9, 3) := by decide +kernel
theorem dX3_findAll_89 : decode cX3_findAll 89 = .ok (.iload_n 1, 1) := by decide +kernel
theorem dX3_findAll_90 : decode cX3_findAll 90 = .ok (.iconst 3, 1) := by decide +kernel
theorem dX3_findAll_91 : decode cX3_findAll 91 = .ok (.invokevirtual 49, 3) := by decide +kernel
theorem dX3_findAll_94 : decode cX3_findAll 94 = .ok (.iadd, 1) := by decide +kernel
theorem dX3_findAll_95 : decode cX3_findAll 95 = .ok (.iastore, 1) := by decide +kernel
theorem dX3_findAll_96 : decode cX3_findAll 96 = .ok (.aload_n 0, 1) := by decide +kernel
theorem dX3_findAll_97 : decode cX3_findAll 97 = .ok (.getfield 32, 3) := by decide +kernel
theorem dX3_findAll_100 : decode cX3_findAll 100 = .ok (.iload_n 3, 1) := by decide +kernel
theorem dX3_findAll_101 : decode cX3_findAll 101 = .ok (.aload_n 0, 1) := by decide +kernel
theorem dX3_findAll_102 : decode cX3_findAll 102 = .ok (.iload_n 1, 1) := by decide +kernel
theorem dX3_findAll_103 : decode cX3_findAll 103 = .ok (.iload_n 2, 1) := by decide +kernel
theorem dX3_findAll_104 : decode cX3_findAll 104 = .ok (.invokevirtual 52, 3) := by decide +kernel
theorem dX3_findAll_107 : decode cX3_findAll 107 = .ok (.bastore, 1) := by decide +kernel
theorem dX3_findAll_108 : decode cX3_findAll 108 = .ok (.iinc 2 1, 3) := by decide +kernel
theorem dX3_findAll_111 : decode cX3_findAll 111 = .ok (.goto (-96), 3) := by decide +kernel
theorem dX3_findAll_114 : decode cX3_findAll 114 = .ok (.iinc 1 1, 3) := by decide +kernel
theorem dX3_findAll_117 : decode cX3_findAll 117 = .ok (.goto (-115), 3) := by decide +kernel
theorem dX3_findAll_120 : decode cX3_findAll 120 = .ok (.return_, 1) := by decide +kernel
theorem dX3_visiblePoints_0 : decode cX3_visiblePoints 0 = .ok (.iconst 0, 1) := by decide +kernel
theorem dX3_visiblePoints_1 : decode cX3_visiblePoints 1 = .ok (.istore_n 1, 1) := by decide +kernel
theorem dX3_visiblePoints_2 : decode cX3_visiblePoints 2 = .ok (.iconst 0, 1) := by decide +kernel
theorem dX3_visiblePoints_3 : decode cX3_visiblePoints 3 = .ok (.istore_n 2, 1) := by decide +kernel
theorem dX3_visiblePoints_4 : decode cX3_visiblePoints 4 = .ok (.iload_n 2, 1) := by decide +kernel
theorem dX3_visiblePoints_5 : decode cX3_visiblePoints 5 = .ok (.aload_n 0, 1) := by decide +kernel
theorem dX3_visiblePoints_6 : decode cX3_visiblePoints 6 = .ok (.getfield 9, 3) := by decide +kernel
theorem dX3_visiblePoints_9 : decode cX3_visiblePoints 9 = .ok (.getfield 36, 3) := by decide +kernel
theorem dX3_visiblePoints_12 : decode cX3_visiblePoints 12 = .ok (.if_icmp .ge 20, 3) := by decide +kernel
theorem dX3_visiblePoints_15 : decode cX3_visiblePoints 15 = .ok (.aload_n 0, 1) := by decide +kernel
theorem dX3_visiblePoints_16 : decode cX3_visiblePoints 16 = .ok (.iload_n 2, 1) := by decide +kernel
theorem dX3_visiblePoints_17 : decode cX3_visiblePoints 17 = .ok (.invokevirtual 62, 3) := by decide +kernel
theorem dX3_visiblePoints_20 : decode cX3_visiblePoints 20 = .ok (.ifCond .eq 6, 3) := by decide +kernel
theorem dX3_visiblePoints_23 : decode cX3_visiblePoints 23 = .ok (.iinc 1 1, 3) := by decide +kernel
theorem dX3_visiblePoints_26 : decode cX3_visiblePoints 26 = .ok (.iinc 2 1, 3) := by decide +kernel
theorem dX3_visiblePoints_29 : decode cX3_visiblePoints 29 = .ok (.goto (-25), 3) := by decide +kernel
theorem dX3_visiblePoints_32 : decode cX3_visiblePoints 32 = .ok (.iload_n 1, 1) := by decide +kernel
theorem dX3_visiblePoints_33 : decode cX3_visiblePoints 33 = .ok (.ireturn, 1) := by decide +kernel
theorem dX3_manyOf_0 : decode cX3_manyOf 0 = .ok (.iconst 0, 1) := by decide +kernel
theorem dX3_manyOf_1 : decode cX3_manyOf 1 = .ok (.istore_n 2, 1) := by decide +kernel
theorem dX3_manyOf_2 : decode cX3_manyOf 2 = .ok (.iconst 0, 1) := by decide +kernel
theorem dX3_manyOf_3 : decode cX3_manyOf 3 = .ok (.istore_n 3, 1) := by decide +kernel
theorem dX3_manyOf_4 : decode cX3_manyOf 4 = .ok (.iload_n 3, 1) := by decide +kernel
theorem dX3_manyOf_5 : decode cX3_manyOf 5 = .ok (.bipush 8, 2) := by decide +kernel
theorem dX3_manyOf_7 : decode cX3_manyOf 7 = .ok (.if_icmp .ge 21, 3) := by decide +kernel
theorem dX3_manyOf_10 : decode cX3_manyOf 10 = .ok (.aload_n 0, 1) := by decide +kernel
theorem dX3_manyOf_11 : decode cX3_manyOf 11 = .ok (.iload_n 1, 1) := by decide +kernel
theorem dX3_manyOf_12 : decode cX3_manyOf 12 = .ok (.iload_n 3, 1) := by decide +kernel
theorem dX3_manyOf_13 : decode cX3_manyOf 13 = .ok (.invokevirtual 75, 3) := by decide +kernel
theorem dX3_manyOf_16 : decode cX3_manyOf 16 = .ok (.ifCond .eq 6, 3) := by decide +kernel
theorem dX3_manyOf_19 : decode cX3_manyOf 19 = .ok (.iinc 2 1, 3) := by decide +kernel
theorem dX3_manyOf_22 : decode cX3_manyOf 22 = .ok (.iinc 3 1, 3) := by decide +kernel
theorem dX3_manyOf_25 : decode cX3_manyOf 25 = .ok (.goto (-21), 3) := by decide +kernel
theorem dX3_manyOf_28 : decode cX3_manyOf 28 = .ok (.iload_n 2, 1) := by decide +kernel
theorem dX3_manyOf_29 : decode cX3_manyOf 29 = .ok (.ireturn, 1) := by decide +kernel
theorem dX3_manyOfAll_0 : decode cX3_manyOfAll 0 = .ok (.iconst 0, 1) := by decide +kernel
theorem dX3_manyOfAll_1 : decode cX3_manyOfAll 1 = .ok (.istore_n 1, 1) := by decide +kernel
theorem dX3_manyOfAll_2 : decode cX3_manyOfAll 2 = .ok (.iconst 0, 1) := by decide +kernel
theorem dX3_manyOfAll_3 : decode cX3_manyOfAll 3 = .ok (.istore_n 2, 1) := by decide +kernel
theorem dX3_manyOfAll_4 : decode cX3_manyOfAll 4 = .ok (.iload_n 2, 1) := by decide +kernel
theorem dX3_manyOfAll_5 : decode cX3_manyOfAll 5 = .ok (.aload_n 0, 1) := by decide +kernel
theorem dX3_manyOfAll_6 : decode cX3_manyOfAll 6 = .ok (.getfield 9, 3) := by decide +kernel
theorem dX3_manyOfAll_9 : decode cX3_manyOfAll 9 = .ok (.getfield 36, 3) := by decide +kernel
theorem dX3_manyOfAll_12 : decode cX3_manyOfAll 12 = .ok (.if_icmp .ge 17, 3) := by decide +kernel
theorem dX3_manyOfAll_15 : decode cX3_manyOfAll 15 = .ok (.iload_n 1, 1) := by decide +kernel
theorem dX3_manyOfAll_16 : decode cX3_manyOfAll 16 = .ok (.aload_n 0, 1) := by decide +kernel
theorem dX3_manyOfAll_17 : decode cX3_manyOfAll 17 = .ok (.iload_n 2, 1) := by decide +kernel
theorem dX3_manyOfAll_18 : decode cX3_manyOfAll 18 = .ok (.invokevirtual 78, 3) := by decide +kernel
theorem dX3_manyOfAll_21 : decode cX3_manyOfAll 21 = .ok (.iadd, 1) := by decide +kernel
theorem dX3_manyOfAll_22 : decode cX3_manyOfAll 22 = .ok (.istore_n 1, 1) := by decide +kernel
theorem dX3_manyOfAll_23 : decode cX3_manyOfAll 23 = .ok (.iinc 2 1, 3) := by decide +kernel
theorem dX3_manyOfAll_26 : decode cX3_manyOfAll 26 = .ok (.goto (-22), 3) := by decide +kernel
theorem dX3_manyOfAll_29 : decode cX3_manyOfAll 29 = .ok (.iload_n 1, 1) := by decide +kernel
theorem dX3_manyOfAll_30 : decode cX3_manyOfAll 30 = .ok (.ireturn, 1) := by decide +kernel
theorem dX3_clashesBefore_0 : decode cX3_clashesBefore 0 = .ok (.iconst 0, 1) := by decide +kernel
theorem dX3_clashesBefore_1 : decode cX3_clashesBefore 1 = .ok (.istore 4, 2) := by decide +kernel
theorem dX3_clashesBefore_3 : decode cX3_clashesBefore 3 = .ok (.iconst 0, 1) := by decide +kernel
theorem dX3_clashesBefore_4 : decode cX3_clashesBefore 4 = .ok (.istore 5, 2) := by decide +kernel
theorem dX3_clashesBefore_6 : decode cX3_clashesBefore 6 = .ok (.iload 5, 2) := by decide +kernel
theorem dX3_clashesBefore_8 : decode cX3_clashesBefore 8 = .ok (.iload_n 3, 1) := by decide +kernel
theorem dX3_clashesBefore_9 : decode cX3_clashesBefore 9 = .ok (.if_icmp .ge 41, 3) := by decide +kernel
theorem dX3_clashesBefore_12 : decode cX3_clashesBefore 12 = .ok (.iconst 0, 1) := by decide +kernel
theorem dX3_clashesBefore_13 : decode cX3_clashesBefore 13 = .ok (.istore 6, 2) := by decide +kernel
theorem dX3_clashesBefore_15 : decode cX3_clashesBefore 15 = .ok (.iload 6, 2) := by decide +kernel
theorem dX3_clashesBefore_17 : decode cX3_clashesBefore 17 = .ok (.bipush 8, 2) := by decide +kernel
theorem dX3_clashesBefore_19 : decode cX3_clashesBefore 19 = .ok (.if_icmp .ge 25, 3) := by decide +kernel
theorem dX3_clashesBefore_22 : decode cX3_clashesBefore 22 = .ok (.aload_n 0, 1) := by decide +kernel
theorem dX3_clashesBefore_23 : decode cX3_clashesBefore 23 = .ok (.iload_n 1, 1) := by decide +kernel
theorem dX3_clashesBefore_24 : decode cX3_clashesBefore 24 = .ok (.iload_n 2, 1) := by decide +kernel
theorem dX3_clashesBefore_25 : decode cX3_clashesBefore 25 = .ok (.iload 5, 2) := by decide +kernel
theorem dX3_clashesBefore_27 : decode cX3_clashesBefore 27 = .ok (.iload 6, 2) := by decide +kernel
theorem dX3_clashesBefore_29 : decode cX3_clashesBefore 29 = .ok (.invokevirtual 86, 3) := by decide +kernel
theorem dX3_clashesBefore_32 : decode cX3_clashesBefore 32 = .ok (.ifCond .eq 6, 3) := by decide +kernel
theorem dX3_clashesBefore_35 : decode cX3_clashesBefore 35 = .ok (.iinc 4 1, 3) := by decide +kernel
theorem dX3_clashesBefore_38 : decode cX3_clashesBefore 38 = .ok (.iinc 6 1, 3) := by decide +kernel
theorem dX3_clashesBefore_41 : decode cX3_clashesBefore 41 = .ok (.goto (-26), 3) := by decide +kernel
theorem dX3_clashesBefore_44 : decode cX3_clashesBefore 44 = .ok (.iinc 5 1, 3) := by decide +kernel
theorem dX3_clashesBefore_47 : decode cX3_clashesBefore 47 = .ok (.goto (-41), 3) := by decide +kernel
theorem dX3_clashesBefore_50 : decode cX3_clashesBefore 50 = .ok (.iload 4, 2) := by decide +kernel
theorem dX3_clashesBefore_52 : decode cX3_clashesBefore 52 = .ok (.ireturn, 1) := by decide +kernel
theorem dX3_clashesOf_0 : decode cX3_clashesOf 0 = .ok (.aload_n 0, 1) := by decide +kernel
theorem dX3_clashesOf_1 : decode cX3_clashesOf 1 = .ok (.iload_n 1, 1) := by decide +kernel
theorem dX3_clashesOf_2 : decode cX3_clashesOf 2 = .ok (.iload_n 2, 1) := by decide +kernel
theorem dX3_clashesOf_3 : decode cX3_clashesOf 3 = .ok (.invokevirtual 75, 3) := by decide +kernel
theorem dX3_clashesOf_6 : decode cX3_clashesOf 6 = .ok (.ifCond .eq 19, 3) := by decide +kernel
theorem dX3_clashesOf_9 : decode cX3_clashesOf 9 = .ok (.aload_n 0, 1) := by decide +kernel
theorem dX3_clashesOf_10 : decode cX3_clashesOf 10 = .ok (.iload_n 1, 1) := by decide +kernel
theorem dX3_clashesOf_11 : decode cX3_clashesOf 11 = .ok (.iload_n 2, 1) := by decide +kernel
theorem dX3_clashesOf_12 : decode cX3_clashesOf 12 = .ok (.aload_n 0, 1) := by decide +kernel
theorem dX3_clashesOf_13 : decode cX3_clashesOf 13 = .ok (.getfield 9, 3) := by decide +kernel
theorem dX3_clashesOf_16 : decode cX3_clashesOf 16 = .ok (.getfield 36, 3) := by decide +kernel
theorem dX3_clashesOf_19 : decode cX3_clashesOf 19 = .ok (.invokevirtual 82, 3) := by decide +kernel
theorem dX3_clashesOf_22 : decode cX3_clashesOf 22 = .ok (.goto 4, 3) := by decide +kernel
theorem dX3_clashesOf_25 : decode cX3_clashesOf 25 = .ok (.iconst 0, 1) := by decide +kernel
theorem dX3_clashesOf_26 : decode cX3_clashesOf 26 = .ok (.ireturn, 1) := by decide +kernel
set_option maxHeartbeats 4000000 in
set_option maxRecDepth 100000 in
theorem qLn_gatherWaiting_L28_ok {x1 : Int32} {x2 : Int32} {k4 : QS → Int32 → Int32 → Option (Int32 × QS)} (hk4 : ∀ (σ : QS) (x1 : Int32) (x2 : Int32) (r : Int32 × QS), k4 σ x1 x2 = some r → qx_E (qx_gC l D ci a z) 4 mX2_gatherWaiting (some (.int r.1), r.2) 4 [(0, .ref (a 16)), (1, .int x1), (2, .int x2)] [] σ) : ∀ (n : Nat) (σ : QS) (x3 : Int32) (r : Int32 × QS), qLn_gatherWaiting_L28 x1 x2 k4 n σ x3 = some r → qx_E (qx_gC l D ci a z) 4 mX2_gatherWaiting (some (.int r.1), r.2) 28 [(0, .ref (a 16)), (1, .int x1), (2, .int x2), (3, .int x3)] [] σ := by
  intro n
  induction n with
  | zero =>
    intro σ x3 r h
    exact (qx_none h).elim
  | succ n ih =>
    intro σ x3 r h
    unfold qLn_gatherWaiting_L28 at h
    refine qx_iload_n (pc := 28) 3 dX2_gatherWaiting_28 rfl ?_
    refine qx_if_le (pc := 29) 68 h dX2_gatherWaiting_29 (by decide) (fun h => ?_) (fun h => ?_)
    · refine qx_aload_n (pc := 68) 0 dX2_gatherWaiting_68 rfl ?_
      refine qgC16_5 (pc := 69) qwf_X2_31 dX2_gatherWaiting_69 ?_
      refine qx_iload_n (pc := 72) 3 dX2_gatherWaiting_72 rfl ?_
      refine qx_iload_n (pc := 73) 2 dX2_gatherWaiting_73 rfl ?_
      refine qsC18 (pc := 74) h dX2_gatherWaiting_74 (fun h => ?_)
      refine qx_iinc (pc := 75) (lv' := [(1, .int (x1 + 1)), (0, .ref (a 16)), (2, .int x2), (3, .int x3)]) 1 (x1 + 1) dX2_gatherWaiting_75 rfl rfl (Nat.le_of_ble_eq_true rfl) rfl ?_
      refine qx_iinc (pc := 78) (lv' := [(2, .int (x2 + 1)), (1, .int (x1 + 1)), (0, .ref (a 16)), (3, .int x3)]) 2 (x2 + 1) dX2_gatherWaiting_78 rfl rfl (Nat.le_of_ble_eq_true rfl) rfl ?_
      refine qx_goto (pc := 81) 4 dX2_gatherWaiting_81 (by decide) ?_
      exact qx_sub [2, 1, 0] rfl (hk4 _ _ _ _ h)
    · refine qx_aload_n (pc := 32) 0 dX2_gatherWaiting_32 rfl ?_
      refine qx_iload_n (pc := 33) 2 dX2_gatherWaiting_33 rfl ?_
      refine qx_aload_n (pc := 34) 0 dX2_gatherWaiting_34 rfl ?_
      refine qgC16_5 (pc := 35) qwf_X2_31 dX2_gatherWaiting_35 ?_
      refine qx_iload_n (pc := 38) 3 dX2_gatherWaiting_38 rfl ?_
      refine qx_iconst (pc := 39) 1 dX2_gatherWaiting_39 (by decide) ?_
      refine qx_isub (pc := 40) dX2_gatherWaiting_40 ?_
      refine qlC18 (pc := 41) h dX2_gatherWaiting_41 (fun h => ?_)
      obtain ⟨r1, hr1, h⟩ := qx_bindE h
      refine qx_callVi (pc := 42) 16 r1 σ [.int x2, .int (σ.1 18 (x3 - 1).toNatClampNeg)] [] rfl rfl rfl qcm_X2_comesBefore qcv_X2_comesBefore qwm_X2_63 rfl (Nat.le_of_ble_eq_true rfl) (Nat.le_of_ble_eq_true rfl) (by decide) dX2_gatherWaiting_42 (qLn_comesBefore_ok hr1) ?_
      refine qx_if_eq (pc := 45) 68 h dX2_gatherWaiting_45 (by decide) (fun h => ?_) (fun h => ?_)
      · refine qx_aload_n (pc := 68) 0 dX2_gatherWaiting_68 rfl ?_
        refine qgC16_5 (pc := 69) qwf_X2_31 dX2_gatherWaiting_69 ?_
        refine qx_iload_n (pc := 72) 3 dX2_gatherWaiting_72 rfl ?_
        refine qx_iload_n (pc := 73) 2 dX2_gatherWaiting_73 rfl ?_
        refine qsC18 (pc := 74) h dX2_gatherWaiting_74 (fun h => ?_)
        refine qx_iinc (pc := 75) (lv' := [(1, .int (x1 + 1)), (0, .ref (a 16)), (2, .int x2), (3, .int x3)]) 1 (x1 + 1) dX2_gatherWaiting_75 rfl rfl (Nat.le_of_ble_eq_true rfl) rfl ?_
        refine qx_iinc (pc := 78) (lv' := [(2, .int (x2 + 1)), (1, .int (x1 + 1)), (0, .ref (a 16)), (3, .int x3)]) 2 (x2 + 1) dX2_gatherWaiting_78 rfl rfl (Nat.le_of_ble_eq_true rfl) rfl ?_
        refine qx_goto (pc := 81) 4 dX2_gatherWaiting_81 (by decide) ?_
        exact qx_sub [2, 1, 0] rfl (hk4 _ _ _ _ h)
      · refine qx_aload_n (pc := 48) 0 dX2_gatherWaiting_48 rfl ?_
        refine qgC16_5 (pc := 49) qwf_X2_31 dX2_gatherWaiting_49 ?_
        refine qx_iload_n (pc := 52) 3 dX2_gatherWaiting_52 rfl ?_
        refine qx_aload_n (pc := 53) 0 dX2_gatherWaiting_53 rfl ?_
        refine qgC16_5 (pc := 54) qwf_X2_31 dX2_gatherWaiting_54 ?_
        refine qx_iload_n (pc := 57) 3 dX2_gatherWaiting_57 rfl ?_
        refine qx_iconst (pc := 58) 1 dX2_gatherWaiting_58 (by decide) ?_
        refine qx_isub (pc := 59) dX2_gatherWaiting_59 ?_
        refine qlC18 (pc := 60) h dX2_gatherWaiting_60 (fun h => ?_)
        refine qsC18 (pc := 61) h dX2_gatherWaiting_61 (fun h => ?_)
        refine qx_iinc (pc := 62) (lv' := [(3, .int (x3 + (-1))), (0, .ref (a 16)), (1, .int x1), (2, .int x2)]) 3 (x3 + (-1)) dX2_gatherWaiting_62 rfl rfl (Nat.le_of_ble_eq_true rfl) rfl ?_
        refine qx_goto (pc := 65) 28 dX2_gatherWaiting_65 (by decide) ?_
        exact qx_sub [1, 2, 3, 0] rfl (ih _ _ _ h)
set_option maxHeartbeats 4000000 in
set_option maxRecDepth 100000 in
theorem qLn_gatherWaiting_L4_ok : ∀ (n : Nat) (σ : QS) (x1 : Int32) (x2 : Int32) (r : Int32 × QS), qLn_gatherWaiting_L4 n σ x1 x2 = some r → qx_E (qx_gC l D ci a z) 4 mX2_gatherWaiting (some (.int r.1), r.2) 4 [(0, .ref (a 16)), (1, .int x1), (2, .int x2)] [] σ := by
  intro n
  induction n with
  | zero =>
    intro σ x1 x2 r h
    exact (qx_none h).elim
  | succ n ih =>
    intro σ x1 x2 r h
    unfold qLn_gatherWaiting_L4 at h
    refine qx_iload_n (pc := 4) 2 dX2_gatherWaiting_4 rfl ?_
    refine qx_aload_n (pc := 5) 0 dX2_gatherWaiting_5 rfl ?_
    refine qgC16_1 (pc := 6) qwf_X2_9 dX2_gatherWaiting_6 ?_
    refine qgC1_0 (pc := 9) qwf_X2_54 dX2_gatherWaiting_9 ?_
    refine qx_icmp_ge (pc := 12) 84 h dX2_gatherWaiting_12 (by decide) (fun h => ?_) (fun h => ?_)
    · refine qx_iload_n (pc := 84) 1 dX2_gatherWaiting_84 rfl ?_
      exact qx_iretS h rfl dX2_gatherWaiting_85
    · refine qx_aload_n (pc := 15) 0 dX2_gatherWaiting_15 rfl ?_
      refine qgC16_3 (pc := 16) qwf_X2_19 dX2_gatherWaiting_16 ?_
      refine qx_iload_n (pc := 19) 2 dX2_gatherWaiting_19 rfl ?_
      obtain ⟨r2, hr2, h⟩ := qx_bindE h
      refine qx_callVi (pc := 20) 11 r2 σ [.int x2] [] rfl rfl rfl qcm_X1_lacksLabel qcv_X1_lacksLabel qwm_X2_57 rfl (Nat.le_of_ble_eq_true rfl) (Nat.le_of_ble_eq_true rfl) (by decide) dX2_gatherWaiting_20 (qLb_lacksLabel_ok hr2) ?_
      refine qx_if_eq (pc := 23) 78 h dX2_gatherWaiting_23 (by decide) (fun h => ?_) (fun h => ?_)
      · refine qx_iinc (pc := 78) (lv' := [(2, .int (x2 + 1)), (0, .ref (a 16)), (1, .int x1)]) 2 (x2 + 1) dX2_gatherWaiting_78 rfl rfl (Nat.le_of_ble_eq_true rfl) rfl ?_
        refine qx_goto (pc := 81) 4 dX2_gatherWaiting_81 (by decide) ?_
        exact qx_sub [1, 2, 0] rfl (ih _ _ _ _ h)
      · refine qx_iload_n (pc := 26) 1 dX2_gatherWaiting_26 rfl ?_
        refine qx_istore_n (pc := 27) (lv' := [(3, .int x1), (0, .ref (a 16)), (1, .int x1), (2, .int x2)]) dX2_gatherWaiting_27 (Nat.le_of_ble_eq_true rfl) rfl ?_
        exact qx_sub [1, 2, 3, 0] rfl (qLn_gatherWaiting_L28_ok ih qx_F _ _ _ h)
set_option maxHeartbeats 4000000 in
set_option maxRecDepth 100000 in
theorem qLn_gatherWaiting_ok {σ : QS} {r : Int32 × QS} (h : qLn_gatherWaiting σ = some r) : qx_E (qx_gC l D ci a z) 4 mX2_gatherWaiting (some (.int r.1), r.2) 0 [(0, .ref (a 16))] [] σ := by
  unfold qLn_gatherWaiting at h
  refine qx_iconst (pc := 0) 0 dX2_gatherWaiting_0 (by decide) ?_
  refine qx_istore_n (pc := 1) (lv' := [(1, .int 0), (0, .ref (a 16))]) dX2_gatherWaiting_1 (Nat.le_of_ble_eq_true rfl) rfl ?_
  refine qx_iconst (pc := 2) 0 dX2_gatherWaiting_2 (by decide) ?_
  refine qx_istore_n (pc := 3) (lv' := [(2, .int 0), (1, .int 0), (0, .ref (a 16))]) dX2_gatherWaiting_3 (Nat.le_of_ble_eq_true rfl) rfl ?_
  exact qx_sub [2, 1, 0] rfl (qLn_gatherWaiting_L4_ok qx_F _ _ _ _ h)
set_option maxHeartbeats 4000000 in
set_option maxRecDepth 100000 in
theorem qWi_greatestY_ok {σ : QS} {r : Int32} (h : qWi_greatestY σ = some r) : qx_E (qx_gC l D ci a z) 1 mX7_greatestY (some (.int r), σ) 0 [(0, .ref (a 4))] [] σ := by
  unfold qWi_greatestY at h
  refine qx_aload_n (pc := 0) 0 dX7_greatestY_0 rfl ?_
  refine qgC4_1 (pc := 1) qwf_X7_15 dX7_greatestY_1 ?_
  refine qx_aload_n (pc := 4) 0 dX7_greatestY_4 rfl ?_
  refine qgC4_3 (pc := 5) qwf_X7_21 dX7_greatestY_5 ?_
  refine qx_iadd (pc := 8) dX7_greatestY_8 ?_
  refine qx_iconst (pc := 9) 1 dX7_greatestY_9 (by decide) ?_
  refine qx_isub (pc := 10) dX7_greatestY_10 ?_
  exact qx_iret h rfl dX7_greatestY_11
set_option maxHeartbeats 4000000 in
set_option maxRecDepth 100000 in
theorem qLn_slotRow_ok {σ : QS} {x1 : Int32} {r : Int32} (h : qLn_slotRow σ x1 = some r) : qx_E (qx_gC l D ci a z) 2 mX2_slotRow (some (.int r), σ) 0 [(0, .ref (a 16)), (1, .int x1)] [] σ := by
  unfold qLn_slotRow at h
  refine qx_aload_n (pc := 0) 0 dX2_slotRow_0 rfl ?_
  refine qgC16_2 (pc := 1) qwf_X2_15 dX2_slotRow_1 ?_
  obtain ⟨r1, hr1, h⟩ := qx_bindE h
  refine qx_callVi (pc := 4) 4 r1 σ [] [] rfl rfl rfl qcm_X7_greatestY qcv_X7_greatestY qwm_X2_51 rfl (Nat.le_of_ble_eq_true rfl) (Nat.le_of_ble_eq_true rfl) (by decide) dX2_slotRow_4 (qWi_greatestY_ok hr1) ?_
  refine qx_iconst (pc := 7) 2 dX2_slotRow_7 (by decide) ?_
  refine qx_iload_n (pc := 8) 1 dX2_slotRow_8 rfl ?_
  refine qx_imul (pc := 9) dX2_slotRow_9 ?_
  refine qx_isub (pc := 10) dX2_slotRow_10 ?_
  exact qx_iret h rfl dX2_slotRow_11
set_option maxHeartbeats 4000000 in
set_option maxRecDepth 100000 in
theorem qWi_greatestX_ok {σ : QS} {r : Int32} (h : qWi_greatestX σ = some r) : qx_E (qx_gC l D ci a z) 1 mX7_greatestX (some (.int r), σ) 0 [(0, .ref (a 4))] [] σ := by
  unfold qWi_greatestX at h
  refine qx_aload_n (pc := 0) 0 dX7_greatestX_0 rfl ?_
  refine qgC4_0 (pc := 1) qwf_X7_9 dX7_greatestX_1 ?_
  refine qx_aload_n (pc := 4) 0 dX7_greatestX_4 rfl ?_
  refine qgC4_2 (pc := 5) qwf_X7_18 dX7_greatestX_5 ?_
  refine qx_iadd (pc := 8) dX7_greatestX_8 ?_
  refine qx_iconst (pc := 9) 1 dX7_greatestX_9 (by decide) ?_
  refine qx_isub (pc := 10) dX7_greatestX_10 ?_
  exact qx_iret h rfl dX7_greatestX_11
set_option maxHeartbeats 4000000 in
set_option maxRecDepth 100000 in
theorem qLn_keep_J65_ok {σ : QS} {x1 : Int32} {x2 : Int32} {x3 : Int32} {x4 : Int32} {x5 : Int32} {x6 : Int32} {s0 : Int32} {r : QS} (h : qLn_keep_J65 σ x1 x2 x3 x4 x5 x6 s0 = some r) : qx_E (qx_gC l D ci a z) 3 mX2_keep (none, r) 65 [(0, .ref (a 16)), (1, .int x1), (2, .int x2), (3, .int x3), (4, .int x4), (5, .int x5), (6, .int x6)] [.int s0] σ := by
  unfold qLn_keep_J65 at h
  refine qx_istore (pc := 65) (lv' := [(7, .int s0), (0, .ref (a 16)), (1, .int x1), (2, .int x2), (3, .int x3), (4, .int x4), (5, .int x5), (6, .int x6)]) dX2_keep_65 (Nat.le_of_ble_eq_true rfl) rfl ?_
  refine qx_iload (pc := 67) 7 dX2_keep_67 rfl ?_
  refine qx_aload_n (pc := 69) 1 dX2_keep_69 rfl ?_
  refine qgC16_0 (pc := 70) qwf_X2_23 dX2_keep_70 ?_
  refine qx_iadd (pc := 73) dX2_keep_73 ?_
  refine qx_istore (pc := 74) (lv' := [(8, .int (x6 + (σ.1 16 0))), (7, .int s0), (0, .ref (a 16)), (1, .int x1), (2, .int x2), (3, .int x3), (4, .int x4), (5, .int x5), (6, .int x6)]) dX2_keep_74 (Nat.le_of_ble_eq_true rfl) rfl ?_
  refine qx_iload_n (pc := 76) 3 dX2_keep_76 rfl ?_
  refine qx_iconst (pc := 77) 4 dX2_keep_77 (by decide) ?_
  refine qx_imul (pc := 78) dX2_keep_78 ?_
  refine qx_istore (pc := 79) (lv' := [(9, .int (x1 * 4)), (8, .int (x6 + (σ.1 16 0))), (7, .int s0), (0, .ref (a 16)), (1, .int x1), (2, .int x2), (3, .int x3), (4, .int x4), (5, .int x5), (6, .int x6)]) dX2_keep_79 (Nat.le_of_ble_eq_true rfl) rfl ?_
  refine qx_aload_n (pc := 81) 3 dX2_keep_81 rfl ?_
  refine qgC16_4 (pc := 82) qwf_X2_27 dX2_keep_82 ?_
  refine qx_iload (pc := 85) 0 dX2_keep_85 rfl ?_
  refine qx_iconst (pc := 87) 0 dX2_keep_87 (by decide) ?_
  refine qx_iadd (pc := 88) dX2_keep_88 ?_
  refine qx_iload_n (pc := 89) 5 dX2_keep_89 rfl ?_
  refine qsC17 (pc := 90) h dX2_keep_90 (fun h => ?_)
  refine qx_aload_n (pc := 91) 3 dX2_keep_91 rfl ?_
  refine qgC16_4 (pc := 92) qwf_X2_27 dX2_keep_92 ?_
  refine qx_iload (pc := 95) 0 dX2_keep_95 rfl ?_
  refine qx_iconst (pc := 97) 1 dX2_keep_97 (by decide) ?_
  refine qx_iadd (pc := 98) dX2_keep_98 ?_
  refine qx_iload (pc := 99) 8 dX2_keep_99 rfl ?_
  refine qsC17 (pc := 101) h dX2_keep_101 (fun h => ?_)
  refine qx_aload_n (pc := 102) 3 dX2_keep_102 rfl ?_
  refine qgC16_4 (pc := 103) qwf_X2_27 dX2_keep_103 ?_
  refine qx_iload (pc := 106) 0 dX2_keep_106 rfl ?_
  refine qx_iconst (pc := 108) 2 dX2_keep_108 (by decide) ?_
  refine qx_iadd (pc := 109) dX2_keep_109 ?_
  refine qx_iload (pc := 110) 9 dX2_keep_110 rfl ?_
  refine qx_iload (pc := 112) 2 dX2_keep_112 rfl ?_
  refine qx_iadd (pc := 114) dX2_keep_114 ?_
  refine qsC17 (pc := 115) h dX2_keep_115 (fun h => ?_)
  refine qx_aload_n (pc := 116) 3 dX2_keep_116 rfl ?_
  refine qgC16_4 (pc := 117) qwf_X2_27 dX2_keep_117 ?_
  refine qx_iload (pc := 120) 0 dX2_keep_120 rfl ?_
  refine qx_iconst (pc := 122) 3 dX2_keep_122 (by decide) ?_
  refine qx_iadd (pc := 123) dX2_keep_123 ?_
  refine qx_iload (pc := 124) 1 dX2_keep_124 rfl ?_
  refine qx_iload_n (pc := 126) 6 dX2_keep_126 rfl ?_
  refine qx_isub (pc := 127) dX2_keep_127 ?_
  refine qx_iload (pc := 128) 8 dX2_keep_128 rfl ?_
  refine qx_iload (pc := 130) 7 dX2_keep_130 rfl ?_
  refine qx_isub (pc := 132) dX2_keep_132 ?_
  refine qx_mabs (pc := 133) qwm_X2_74 (by decide) (Nat.le_of_ble_eq_true rfl) dX2_keep_133 ?_
  refine qx_iadd (pc := 136) dX2_keep_136 ?_
  refine qsC17 (pc := 137) h dX2_keep_137 (fun h => ?_)
  exact qx_vret h rfl dX2_keep_138
set_option maxHeartbeats 4000000 in
set_option maxRecDepth 100000 in
theorem qLn_keep_ok {σ : QS} {x1 : Int32} {r : QS} (h : qLn_keep σ x1 = some r) : qx_E (qx_gC l D ci a z) 3 mX2_keep (none, r) 0 [(0, .ref (a 16)), (1, .int x1)] [] σ := by
  unfold qLn_keep at h
  refine qx_aload_n (pc := 0) 0 dX2_keep_0 rfl ?_
  refine qgC16_5 (pc := 1) qwf_X2_31 dX2_keep_1 ?_
  refine qx_iload_n (pc := 4) 1 dX2_keep_4 rfl ?_
  refine qlC18 (pc := 5) h dX2_keep_5 (fun h => ?_)
  refine qx_istore_n (pc := 6) (lv' := [(2, .int (σ.1 18 x1.toNatClampNeg)), (0, .ref (a 16)), (1, .int x1)]) dX2_keep_6 (Nat.le_of_ble_eq_true rfl) rfl ?_
  refine qx_aload_n (pc := 7) 1 dX2_keep_7 rfl ?_
  refine qgC16_1 (pc := 8) qwf_X2_9 dX2_keep_8 ?_
  refine qx_iload_n (pc := 11) 0 dX2_keep_11 rfl ?_
  refine qx_iconst (pc := 12) 0 dX2_keep_12 (by decide) ?_
  obtain ⟨r1, hr1, h⟩ := qx_bindE h
  refine qx_callVi (pc := 13) 1 r1 σ [.int (σ.1 18 x1.toNatClampNeg), .int 0] [] rfl rfl rfl qcm_X4_get qcv_X4_get qwm_X2_67 rfl (Nat.le_of_ble_eq_true rfl) (Nat.le_of_ble_eq_true rfl) (by decide) dX2_keep_13 (qPt_get_ok hr1) ?_
  refine qx_istore_n (pc := 16) (lv' := [(3, .int r1), (2, .int (σ.1 18 x1.toNatClampNeg)), (0, .ref (a 16)), (1, .int x1)]) dX2_keep_16 (Nat.le_of_ble_eq_true rfl) rfl ?_
  refine qx_aload_n (pc := 17) 2 dX2_keep_17 rfl ?_
  refine qgC16_1 (pc := 18) qwf_X2_9 dX2_keep_18 ?_
  refine qx_iload_n (pc := 21) 1 dX2_keep_21 rfl ?_
  refine qx_iconst (pc := 22) 1 dX2_keep_22 (by decide) ?_
  obtain ⟨r2, hr2, h⟩ := qx_bindE h
  refine qx_callVi (pc := 23) 1 r2 σ [.int (σ.1 18 x1.toNatClampNeg), .int 1] [] rfl rfl rfl qcm_X4_get qcv_X4_get qwm_X2_67 rfl (Nat.le_of_ble_eq_true rfl) (Nat.le_of_ble_eq_true rfl) (by decide) dX2_keep_23 (qPt_get_ok hr2) ?_
  refine qx_istore (pc := 26) (lv' := [(4, .int r2), (3, .int r1), (2, .int (σ.1 18 x1.toNatClampNeg)), (0, .ref (a 16)), (1, .int x1)]) dX2_keep_26 (Nat.le_of_ble_eq_true rfl) rfl ?_
  refine qx_aload_n (pc := 28) 3 dX2_keep_28 rfl ?_
  refine qx_iload_n (pc := 29) 4 dX2_keep_29 rfl ?_
  obtain ⟨r3, hr3, h⟩ := qx_bindE h
  refine qx_callVi (pc := 30) 16 r3 σ [.int x1] [] rfl rfl rfl qcm_X2_slotRow qcv_X2_slotRow qwm_X2_38 rfl (Nat.le_of_ble_eq_true rfl) (Nat.le_of_ble_eq_true rfl) (by decide) dX2_keep_30 (qLn_slotRow_ok hr3) ?_
  refine qx_istore (pc := 33) (lv' := [(5, .int r3), (4, .int r2), (3, .int r1), (2, .int (σ.1 18 x1.toNatClampNeg)), (0, .ref (a 16)), (1, .int x1)]) dX2_keep_33 (Nat.le_of_ble_eq_true rfl) rfl ?_
  refine qx_aload_n (pc := 35) 4 dX2_keep_35 rfl ?_
  refine qgC16_2 (pc := 36) qwf_X2_15 dX2_keep_36 ?_
  obtain ⟨r4, hr4, h⟩ := qx_bindE h
  refine qx_callVi (pc := 39) 4 r4 σ [] [] rfl rfl rfl qcm_X7_greatestX qcv_X7_greatestX qwm_X2_71 rfl (Nat.le_of_ble_eq_true rfl) (Nat.le_of_ble_eq_true rfl) (by decide) dX2_keep_39 (qWi_greatestX_ok hr4) ?_
  refine qx_iconst (pc := 42) 1 dX2_keep_42 (by decide) ?_
  refine qx_iadd (pc := 43) dX2_keep_43 ?_
  refine qx_istore (pc := 44) (lv' := [(6, .int (r4 + 1)), (5, .int r3), (4, .int r2), (3, .int r1), (2, .int (σ.1 18 x1.toNatClampNeg)), (0, .ref (a 16)), (1, .int x1)]) dX2_keep_44 (Nat.le_of_ble_eq_true rfl) rfl ?_
  refine qx_iload (pc := 46) 1 dX2_keep_46 rfl ?_
  refine qx_iload (pc := 48) 2 dX2_keep_48 rfl ?_
  refine qx_icmp_le (pc := 50) 57 h dX2_keep_50 (by decide) (fun h => ?_) (fun h => ?_)
  · refine qx_aload_n (pc := 57) 5 dX2_keep_57 rfl ?_
    refine qgC16_0 (pc := 58) qwf_X2_23 dX2_keep_58 ?_
    refine qx_iconst (pc := 61) 1 dX2_keep_61 (by decide) ?_
    refine qx_isub (pc := 62) dX2_keep_62 ?_
    refine qx_iload_n (pc := 63) 6 dX2_keep_63 rfl ?_
    refine qx_isub (pc := 64) dX2_keep_64 ?_
    exact qx_sub [5, 6, 4, 3, 2, 1, 0] rfl (qLn_keep_J65_ok h)
  · refine qx_iload_n (pc := 53) 6 dX2_keep_53 rfl ?_
    refine qx_goto (pc := 54) 65 dX2_keep_54 (by decide) ?_
    exact qx_sub [5, 6, 4, 3, 2, 1, 0] rfl (qLn_keep_J65_ok h)
set_option maxHeartbeats 4000000 in
set_option maxRecDepth 100000 in
theorem qLn_lay_L36_ok : ∀ (n : Nat) (σ : QS) (x2 : Int32) (r : Int32 × QS), qLn_lay_L36 n σ x2 = some r → qx_E (qx_gC l D ci a z) 5 mX2_lay (some (.int r.1), r.2) 36 [(0, .ref (a 16)), (2, .int x2)] [] σ := by
  intro n
  induction n with
  | zero =>
    intro σ x2 r h
    exact (qx_none h).elim
  | succ n ih =>
    intro σ x2 r h
    unfold qLn_lay_L36 at h
    refine qx_iload_n (pc := 36) 1 dX2_lay_36 rfl ?_
    refine qx_aload_n (pc := 37) 0 dX2_lay_37 rfl ?_
    refine qgC16_0 (pc := 38) qwf_X2_23 dX2_lay_38 ?_
    refine qx_icmp_ge (pc := 41) 55 h dX2_lay_41 (by decide) (fun h => ?_) (fun h => ?_)
    · refine qx_aload_n (pc := 55) 0 dX2_lay_55 rfl ?_
      refine qgC16_0 (pc := 56) qwf_X2_23 dX2_lay_56 ?_
      exact qx_iretS h rfl dX2_lay_59
    · refine qx_aload_n (pc := 44) 0 dX2_lay_44 rfl ?_
      refine qx_iload_n (pc := 45) 1 dX2_lay_45 rfl ?_
      obtain ⟨r1, hr1, h⟩ := qx_bindE h
      refine qx_callVv (pc := 46) 16 r1 [.int x2] [] rfl rfl rfl qcm_X2_keep qcv_X2_keep qwm_X2_47 rfl (Nat.le_of_ble_eq_true rfl) (Nat.le_of_ble_eq_true rfl) (by decide) dX2_lay_46 (qLn_keep_ok hr1) ?_
      refine qx_iinc (pc := 49) (lv' := [(2, .int (x2 + 1)), (0, .ref (a 16))]) 1 (x2 + 1) dX2_lay_49 rfl rfl (Nat.le_of_ble_eq_true rfl) rfl ?_
      refine qx_goto (pc := 52) 36 dX2_lay_52 (by decide) ?_
      exact qx_sub [1, 0] rfl (ih _ _ _ h)
set_option maxHeartbeats 4000000 in
set_option maxRecDepth 100000 in
theorem qLn_lay_ok {σ : QS} {r : Int32 × QS} (h : qLn_lay σ = some r) : qx_E (qx_gC l D ci a z) 5 mX2_lay (some (.int r.1), r.2) 0 [(0, .ref (a 16))] [] σ := by
  unfold qLn_lay at h
  refine qx_aload_n (pc := 0) 0 dX2_lay_0 rfl ?_
  obtain ⟨r2, hr2, h⟩ := qx_bindE h
  refine qx_callVi (pc := 1) 16 r2.1 r2.2 [] [] rfl rfl rfl qcm_X2_gatherWaiting qcv_X2_gatherWaiting qwm_X2_34 rfl (Nat.le_of_ble_eq_true rfl) (Nat.le_of_ble_eq_true rfl) (by decide) dX2_lay_1 (qLn_gatherWaiting_ok hr2) ?_
  refine qx_istore_n (pc := 4) (lv' := [(1, .int (r2.1)), (0, .ref (a 16))]) dX2_lay_4 (Nat.le_of_ble_eq_true rfl) rfl ?_
  refine qx_iload_n (pc := 5) 0 dX2_lay_5 rfl ?_
  refine qx_if_le (pc := 6) 29 h dX2_lay_6 (by decide) (fun h => ?_) (fun h => ?_)
  · refine qx_aload_n (pc := 29) 1 dX2_lay_29 rfl ?_
    refine qx_iload_n (pc := 30) 0 dX2_lay_30 rfl ?_
    refine qpC16_0 (pc := 31) qwf_X2_23 dX2_lay_31 ?_
    refine qx_iconst (pc := 34) 0 dX2_lay_34 (by decide) ?_
    refine qx_istore_n (pc := 35) (lv' := [(2, .int 0), (1, .int (r2.1)), (0, .ref (a 16))]) dX2_lay_35 (Nat.le_of_ble_eq_true rfl) rfl ?_
    exact qx_sub [2, 0] rfl (qLn_lay_L36_ok qx_F _ _ _ h)
  · refine qx_aload_n (pc := 9) 1 dX2_lay_9 rfl ?_
    refine qx_iload_n (pc := 10) 0 dX2_lay_10 rfl ?_
    refine qx_iconst (pc := 11) 1 dX2_lay_11 (by decide) ?_
    refine qx_isub (pc := 12) dX2_lay_12 ?_
    obtain ⟨r3, hr3, h⟩ := qx_bindE h
    refine qx_callVi (pc := 13) 16 r3 (r2.2) [.int ((r2.1) - 1)] [] rfl rfl rfl qcm_X2_slotRow qcv_X2_slotRow qwm_X2_38 rfl (Nat.le_of_ble_eq_true rfl) (Nat.le_of_ble_eq_true rfl) (by decide) dX2_lay_13 (qLn_slotRow_ok hr3) ?_
    refine qx_aload_n (pc := 16) 1 dX2_lay_16 rfl ?_
    refine qgC16_2 (pc := 17) qwf_X2_15 dX2_lay_17 ?_
    refine qgC4_1 (pc := 20) qwf_X2_42 dX2_lay_20 ?_
    refine qx_icmp_ge (pc := 23) 29 h dX2_lay_23 (by decide) (fun h => ?_) (fun h => ?_)
    · refine qx_aload_n (pc := 29) 1 dX2_lay_29 rfl ?_
      refine qx_iload_n (pc := 30) 0 dX2_lay_30 rfl ?_
      refine qpC16_0 (pc := 31) qwf_X2_23 dX2_lay_31 ?_
      refine qx_iconst (pc := 34) 0 dX2_lay_34 (by decide) ?_
      refine qx_istore_n (pc := 35) (lv' := [(2, .int 0), (1, .int (r2.1)), (0, .ref (a 16))]) dX2_lay_35 (Nat.le_of_ble_eq_true rfl) rfl ?_
      exact qx_sub [2, 0] rfl (qLn_lay_L36_ok qx_F _ _ _ h)
    · refine qx_bipush (pc := 26) (-3) dX2_lay_26 (by decide) ?_
      exact qx_iretS h rfl dX2_lay_28
set_option maxHeartbeats 4000000 in
set_option maxRecDepth 100000 in
theorem qPl_findBottom_ok {σ : QS} {x1 : Int32} {x2 : Int32} {r : Int32} (h : qPl_findBottom σ x1 x2 = some r) : qx_E (qx_gC l D ci a z) 2 mX3_findBottom (some (.int r), σ) 0 [(0, .ref (a 5)), (1, .int x1), (2, .int x2)] [] σ := by
  unfold qPl_findBottom at h
  refine qx_aload_n (pc := 0) 0 dX3_findBottom_0 rfl ?_
  refine qgC5_0 (pc := 1) qwf_X3_9 dX3_findBottom_1 ?_
  refine qx_iload_n (pc := 4) 1 dX3_findBottom_4 rfl ?_
  refine qx_iconst (pc := 5) 1 dX3_findBottom_5 (by decide) ?_
  obtain ⟨r1, hr1, h⟩ := qx_bindE h
  refine qx_callVi (pc := 6) 1 r1 σ [.int x1, .int 1] [] rfl rfl rfl qcm_X4_get qcv_X4_get qwm_X3_49 rfl (Nat.le_of_ble_eq_true rfl) (Nat.le_of_ble_eq_true rfl) (by decide) dX3_findBottom_6 (qPt_get_ok hr1) ?_
  refine qx_istore_n (pc := 9) (lv' := [(3, .int r1), (0, .ref (a 5)), (1, .int x1), (2, .int x2)]) dX3_findBottom_9 (Nat.le_of_ble_eq_true rfl) rfl ?_
  refine qx_aload_n (pc := 10) 1 dX3_findBottom_10 rfl ?_
  refine qgC5_0 (pc := 11) qwf_X3_9 dX3_findBottom_11 ?_
  refine qx_iload_n (pc := 14) 2 dX3_findBottom_14 rfl ?_
  refine qx_iconst (pc := 15) 3 dX3_findBottom_15 (by decide) ?_
  obtain ⟨r2, hr2, h⟩ := qx_bindE h
  refine qx_callVi (pc := 16) 1 r2 σ [.int x1, .int 3] [] rfl rfl rfl qcm_X4_get qcv_X4_get qwm_X3_49 rfl (Nat.le_of_ble_eq_true rfl) (Nat.le_of_ble_eq_true rfl) (by decide) dX3_findBottom_16 (qPt_get_ok hr2) ?_
  refine qx_istore (pc := 19) (lv' := [(4, .int r2), (3, .int r1), (0, .ref (a 5)), (1, .int x1), (2, .int x2)]) dX3_findBottom_19 (Nat.le_of_ble_eq_true rfl) rfl ?_
  refine qx_iload_n (pc := 21) 4 dX3_findBottom_21 rfl ?_
  rcases qx_ite h with ⟨hc0, h⟩ | ⟨hc0, h⟩
  · refine qx_tsIn (pc := 22) 68 0 hc0 dX3_findBottom_22 (by decide) (by decide) rfl (by decide) ?_
    refine qx_iload_n (pc := 68) 1 dX3_findBottom_68 rfl ?_
    refine qx_iconst (pc := 69) 1 dX3_findBottom_69 (by decide) ?_
    refine qx_iadd (pc := 70) dX3_findBottom_70 ?_
    exact qx_iret h rfl dX3_findBottom_71
  rcases qx_ite h with ⟨hc1, h⟩ | ⟨hc1, h⟩
  · refine qx_tsIn (pc := 22) 68 1 hc1 dX3_findBottom_22 (by decide) (by decide) rfl (by decide) ?_
    refine qx_iload_n (pc := 68) 1 dX3_findBottom_68 rfl ?_
    refine qx_iconst (pc := 69) 1 dX3_findBottom_69 (by decide) ?_
    refine qx_iadd (pc := 70) dX3_findBottom_70 ?_
    exact qx_iret h rfl dX3_findBottom_71
  rcases qx_ite h with ⟨hc2, h⟩ | ⟨hc2, h⟩
  · refine qx_tsIn (pc := 22) 72 2 hc2 dX3_findBottom_22 (by decide) (by decide) rfl (by decide) ?_
    refine qx_iload_n (pc := 72) 1 dX3_findBottom_72 rfl ?_
    refine qx_iload (pc := 73) 0 dX3_findBottom_73 rfl ?_
    refine qx_isub (pc := 75) dX3_findBottom_75 ?_
    exact qx_iret h rfl dX3_findBottom_76
  rcases qx_ite h with ⟨hc3, h⟩ | ⟨hc3, h⟩
  · refine qx_tsIn (pc := 22) 72 3 hc3 dX3_findBottom_22 (by decide) (by decide) rfl (by decide) ?_
    refine qx_iload_n (pc := 72) 1 dX3_findBottom_72 rfl ?_
    refine qx_iload (pc := 73) 0 dX3_findBottom_73 rfl ?_
    refine qx_isub (pc := 75) dX3_findBottom_75 ?_
    exact qx_iret h rfl dX3_findBottom_76
  rcases qx_ite h with ⟨hc6, h⟩ | ⟨hc6, h⟩
  · refine qx_tsIn (pc := 22) 68 6 hc6 dX3_findBottom_22 (by decide) (by decide) rfl (by decide) ?_
    refine qx_iload_n (pc := 68) 1 dX3_findBottom_68 rfl ?_
    refine qx_iconst (pc := 69) 1 dX3_findBottom_69 (by decide) ?_
    refine qx_iadd (pc := 70) dX3_findBottom_70 ?_
    exact qx_iret h rfl dX3_findBottom_71
  rcases qx_ite h with ⟨hc7, h⟩ | ⟨hc7, h⟩
  · refine qx_tsIn (pc := 22) 72 7 hc7 dX3_findBottom_22 (by decide) (by decide) rfl (by decide) ?_
    refine qx_iload_n (pc := 72) 1 dX3_findBottom_72 rfl ?_
    refine qx_iload (pc := 73) 0 dX3_findBottom_73 rfl ?_
    refine qx_isub (pc := 75) dX3_findBottom_75 ?_
    exact qx_iret h rfl dX3_findBottom_76
  by_cases hc4 : x2 = 4
  · refine qx_tsIn (pc := 22) 77 4 hc4 dX3_findBottom_22 (by decide) (by decide) rfl (by decide) ?_
    refine qx_iload_n (pc := 77) 1 dX3_findBottom_77 rfl ?_
    refine qx_iload (pc := 78) 0 dX3_findBottom_78 rfl ?_
    refine qx_iconst (pc := 80) 1 dX3_findBottom_80 (by decide) ?_
    refine qx_isub (pc := 81) dX3_findBottom_81 ?_
    refine qx_iconst (pc := 82) 2 dX3_findBottom_82 (by decide) ?_
    refine qx_idiv (pc := 83) dX3_findBottom_83 (by decide) ?_
    refine qx_isub (pc := 84) dX3_findBottom_84 ?_
    exact qx_iret h rfl dX3_findBottom_85
  by_cases hc5 : x2 = 5
  · refine qx_tsIn (pc := 22) 77 5 hc5 dX3_findBottom_22 (by decide) (by decide) rfl (by decide) ?_
    refine qx_iload_n (pc := 77) 1 dX3_findBottom_77 rfl ?_
    refine qx_iload (pc := 78) 0 dX3_findBottom_78 rfl ?_
    refine qx_iconst (pc := 80) 1 dX3_findBottom_80 (by decide) ?_
    refine qx_isub (pc := 81) dX3_findBottom_81 ?_
    refine qx_iconst (pc := 82) 2 dX3_findBottom_82 (by decide) ?_
    refine qx_idiv (pc := 83) dX3_findBottom_83 (by decide) ?_
    refine qx_isub (pc := 84) dX3_findBottom_84 ?_
    exact qx_iret h rfl dX3_findBottom_85
  have ht0 := lv_neT (a := 0) hc0 rfl
  have ht1 := lv_neT (a := 1) hc1 rfl
  have ht2 := lv_neT (a := 2) hc2 rfl
  have ht3 := lv_neT (a := 3) hc3 rfl
  have ht4 := lv_neT (a := 4) hc4 rfl
  have ht5 := lv_neT (a := 5) hc5 rfl
  have ht6 := lv_neT (a := 6) hc6 rfl
  have ht7 := lv_neT (a := 7) hc7 rfl
  refine qx_tsOut (pc := 22) 77 dX3_findBottom_22 (by omega) (by decide) ?_
  refine qx_iload_n (pc := 77) 1 dX3_findBottom_77 rfl ?_
  refine qx_iload (pc := 78) 0 dX3_findBottom_78 rfl ?_
  refine qx_iconst (pc := 80) 1 dX3_findBottom_80 (by decide) ?_
  refine qx_isub (pc := 81) dX3_findBottom_81 ?_
  refine qx_iconst (pc := 82) 2 dX3_findBottom_82 (by decide) ?_
  refine qx_idiv (pc := 83) dX3_findBottom_83 (by decide) ?_
  refine qx_isub (pc := 84) dX3_findBottom_84 ?_
  exact qx_iret h rfl dX3_findBottom_85
set_option maxHeartbeats 4000000 in
set_option maxRecDepth 100000 in
theorem qPl_findLeft_ok {σ : QS} {x1 : Int32} {x2 : Int32} {r : Int32} (h : qPl_findLeft σ x1 x2 = some r) : qx_E (qx_gC l D ci a z) 2 mX3_findLeft (some (.int r), σ) 0 [(0, .ref (a 5)), (1, .int x1), (2, .int x2)] [] σ := by
  unfold qPl_findLeft at h
  refine qx_aload_n (pc := 0) 0 dX3_findLeft_0 rfl ?_
  refine qgC5_0 (pc := 1) qwf_X3_9 dX3_findLeft_1 ?_
  refine qx_iload_n (pc := 4) 1 dX3_findLeft_4 rfl ?_
  refine qx_iconst (pc := 5) 0 dX3_findLeft_5 (by decide) ?_
  obtain ⟨r1, hr1, h⟩ := qx_bindE h
  refine qx_callVi (pc := 6) 1 r1 σ [.int x1, .int 0] [] rfl rfl rfl qcm_X4_get qcv_X4_get qwm_X3_49 rfl (Nat.le_of_ble_eq_true rfl) (Nat.le_of_ble_eq_true rfl) (by decide) dX3_findLeft_6 (qPt_get_ok hr1) ?_
  refine qx_istore_n (pc := 9) (lv' := [(3, .int r1), (0, .ref (a 5)), (1, .int x1), (2, .int x2)]) dX3_findLeft_9 (Nat.le_of_ble_eq_true rfl) rfl ?_
  refine qx_aload_n (pc := 10) 1 dX3_findLeft_10 rfl ?_
  refine qgC5_0 (pc := 11) qwf_X3_9 dX3_findLeft_11 ?_
  refine qx_iload_n (pc := 14) 2 dX3_findLeft_14 rfl ?_
  refine qx_iconst (pc := 15) 2 dX3_findLeft_15 (by decide) ?_
  obtain ⟨r2, hr2, h⟩ := qx_bindE h
  refine qx_callVi (pc := 16) 1 r2 σ [.int x1, .int 2] [] rfl rfl rfl qcm_X4_get qcv_X4_get qwm_X3_49 rfl (Nat.le_of_ble_eq_true rfl) (Nat.le_of_ble_eq_true rfl) (by decide) dX3_findLeft_16 (qPt_get_ok hr2) ?_
  refine qx_istore (pc := 19) (lv' := [(4, .int r2), (3, .int r1), (0, .ref (a 5)), (1, .int x1), (2, .int x2)]) dX3_findLeft_19 (Nat.le_of_ble_eq_true rfl) rfl ?_
  refine qx_iload_n (pc := 21) 4 dX3_findLeft_21 rfl ?_
  rcases qx_ite h with ⟨hc0, h⟩ | ⟨hc0, h⟩
  · refine qx_tsIn (pc := 22) 60 0 hc0 dX3_findLeft_22 (by decide) (by decide) rfl (by decide) ?_
    refine qx_iload_n (pc := 60) 1 dX3_findLeft_60 rfl ?_
    refine qx_iconst (pc := 61) 1 dX3_findLeft_61 (by decide) ?_
    refine qx_iadd (pc := 62) dX3_findLeft_62 ?_
    exact qx_iret h rfl dX3_findLeft_63
  rcases qx_ite h with ⟨hc1, h⟩ | ⟨hc1, h⟩
  · refine qx_tsIn (pc := 22) 64 1 hc1 dX3_findLeft_22 (by decide) (by decide) rfl (by decide) ?_
    refine qx_iload_n (pc := 64) 1 dX3_findLeft_64 rfl ?_
    refine qx_iload (pc := 65) 0 dX3_findLeft_65 rfl ?_
    refine qx_isub (pc := 67) dX3_findLeft_67 ?_
    exact qx_iret h rfl dX3_findLeft_68
  rcases qx_ite h with ⟨hc2, h⟩ | ⟨hc2, h⟩
  · refine qx_tsIn (pc := 22) 60 2 hc2 dX3_findLeft_22 (by decide) (by decide) rfl (by decide) ?_
    refine qx_iload_n (pc := 60) 1 dX3_findLeft_60 rfl ?_
    refine qx_iconst (pc := 61) 1 dX3_findLeft_61 (by decide) ?_
    refine qx_iadd (pc := 62) dX3_findLeft_62 ?_
    exact qx_iret h rfl dX3_findLeft_63
  rcases qx_ite h with ⟨hc3, h⟩ | ⟨hc3, h⟩
  · refine qx_tsIn (pc := 22) 64 3 hc3 dX3_findLeft_22 (by decide) (by decide) rfl (by decide) ?_
    refine qx_iload_n (pc := 64) 1 dX3_findLeft_64 rfl ?_
    refine qx_iload (pc := 65) 0 dX3_findLeft_65 rfl ?_
    refine qx_isub (pc := 67) dX3_findLeft_67 ?_
    exact qx_iret h rfl dX3_findLeft_68
  rcases qx_ite h with ⟨hc4, h⟩ | ⟨hc4, h⟩
  · refine qx_tsIn (pc := 22) 60 4 hc4 dX3_findLeft_22 (by decide) (by decide) rfl (by decide) ?_
    refine qx_iload_n (pc := 60) 1 dX3_findLeft_60 rfl ?_
    refine qx_iconst (pc := 61) 1 dX3_findLeft_61 (by decide) ?_
    refine qx_iadd (pc := 62) dX3_findLeft_62 ?_
    exact qx_iret h rfl dX3_findLeft_63
  rcases qx_ite h with ⟨hc5, h⟩ | ⟨hc5, h⟩
  · refine qx_tsIn (pc := 22) 64 5 hc5 dX3_findLeft_22 (by decide) (by decide) rfl (by decide) ?_
    refine qx_iload_n (pc := 64) 1 dX3_findLeft_64 rfl ?_
    refine qx_iload (pc := 65) 0 dX3_findLeft_65 rfl ?_
    refine qx_isub (pc := 67) dX3_findLeft_67 ?_
    exact qx_iret h rfl dX3_findLeft_68
  have ht0 := lv_neT (a := 0) hc0 rfl
  have ht1 := lv_neT (a := 1) hc1 rfl
  have ht2 := lv_neT (a := 2) hc2 rfl
  have ht3 := lv_neT (a := 3) hc3 rfl
  have ht4 := lv_neT (a := 4) hc4 rfl
  have ht5 := lv_neT (a := 5) hc5 rfl
  refine qx_tsOut (pc := 22) 69 dX3_findLeft_22 (by omega) (by decide) ?_
  refine qx_iload_n (pc := 69) 1 dX3_findLeft_69 rfl ?_
  refine qx_iload (pc := 70) 0 dX3_findLeft_70 rfl ?_
  refine qx_iconst (pc := 72) 1 dX3_findLeft_72 (by decide) ?_
  refine qx_isub (pc := 73) dX3_findLeft_73 ?_
  refine qx_iconst (pc := 74) 2 dX3_findLeft_74 (by decide) ?_
  refine qx_idiv (pc := 75) dX3_findLeft_75 (by decide) ?_
  refine qx_isub (pc := 76) dX3_findLeft_76 ?_
  exact qx_iret h rfl dX3_findLeft_77
set_option maxHeartbeats 4000000 in
set_option maxRecDepth 100000 in
theorem qPl_bottomOf_ok {σ : QS} {x1 : Int32} {x2 : Int32} {r : Int32} (h : qPl_bottomOf σ x1 x2 = some r) : qx_E (qx_gC l D ci a z) 1 mX3_bottomOf (some (.int r), σ) 0 [(0, .ref (a 5)), (1, .int x1), (2, .int x2)] [] σ := by
  unfold qPl_bottomOf at h
  refine qx_aload_n (pc := 0) 0 dX3_bottomOf_0 rfl ?_
  refine qgC5_3 (pc := 1) qwf_X3_23 dX3_bottomOf_1 ?_
  refine qx_iload_n (pc := 4) 1 dX3_bottomOf_4 rfl ?_
  refine qx_bipush (pc := 5) 8 dX3_bottomOf_5 (by decide) ?_
  refine qx_imul (pc := 7) dX3_bottomOf_7 ?_
  refine qx_iload_n (pc := 8) 2 dX3_bottomOf_8 rfl ?_
  refine qx_iadd (pc := 9) dX3_bottomOf_9 ?_
  refine qlC7 (pc := 10) h dX3_bottomOf_10 (fun h => ?_)
  exact qx_iret h rfl dX3_bottomOf_11
set_option maxHeartbeats 4000000 in
set_option maxRecDepth 100000 in
theorem qPl_leftOf_ok {σ : QS} {x1 : Int32} {x2 : Int32} {r : Int32} (h : qPl_leftOf σ x1 x2 = some r) : qx_E (qx_gC l D ci a z) 1 mX3_leftOf (some (.int r), σ) 0 [(0, .ref (a 5)), (1, .int x1), (2, .int x2)] [] σ := by
  unfold qPl_leftOf at h
  refine qx_aload_n (pc := 0) 0 dX3_leftOf_0 rfl ?_
  refine qgC5_2 (pc := 1) qwf_X3_19 dX3_leftOf_1 ?_
  refine qx_iload_n (pc := 4) 1 dX3_leftOf_4 rfl ?_
  refine qx_bipush (pc := 5) 8 dX3_leftOf_5 (by decide) ?_
  refine qx_imul (pc := 7) dX3_leftOf_7 ?_
  refine qx_iload_n (pc := 8) 2 dX3_leftOf_8 rfl ?_
  refine qx_iadd (pc := 9) dX3_leftOf_9 ?_
  refine qlC6 (pc := 10) h dX3_leftOf_10 (fun h => ?_)
  exact qx_iret h rfl dX3_leftOf_11
set_option maxHeartbeats 4000000 in
set_option maxRecDepth 100000 in
theorem qPt_isIn_L3_ok {σ : QS} {x1 : Int32} {x2 : Int32} {x3 : Int32} {x4 : Int32} : ∀ (n : Nat) (x5 : Int32) (r : Int32), qPt_isIn_L3 σ x1 x2 x3 x4 n x5 = some r → qx_E (qx_gC l D ci a z) 2 mX4_isIn (some (.int r), σ) 3 [(0, .ref (a 1)), (1, .int x1), (2, .int x2), (3, .int x3), (4, .int x4), (5, .int x5)] [] σ := by
  intro n
  induction n with
  | zero =>
    intro x5 r h
    exact (qx_none h).elim
  | succ n ih =>
    intro x5 r h
    unfold qPt_isIn_L3 at h
    refine qx_iload (pc := 3) 5 dX4_isIn_3 rfl ?_
    refine qx_aload_n (pc := 5) 0 dX4_isIn_5 rfl ?_
    refine qgC1_0 (pc := 6) qwf_X4_9 dX4_isIn_6 ?_
    refine qx_icmp_ge (pc := 9) 65 h dX4_isIn_9 (by decide) (fun h => ?_) (fun h => ?_)
    · refine qx_iconst (pc := 65) 0 dX4_isIn_65 (by decide) ?_
      exact qx_nret h rfl rfl dX4_isIn_66
    · refine qx_aload_n (pc := 12) 0 dX4_isIn_12 rfl ?_
      refine qx_iload (pc := 13) 5 dX4_isIn_13 rfl ?_
      refine qx_iconst (pc := 15) 0 dX4_isIn_15 (by decide) ?_
      obtain ⟨r1, hr1, h⟩ := qx_bindE h
      refine qx_callVi (pc := 16) 1 r1 σ [.int x5, .int 0] [] rfl rfl rfl qcm_X4_get qcv_X4_get qwm_X4_36 rfl (Nat.le_of_ble_eq_true rfl) (Nat.le_of_ble_eq_true rfl) (by decide) dX4_isIn_16 (qPt_get_ok hr1) ?_
      refine qx_iload_n (pc := 19) 1 dX4_isIn_19 rfl ?_
      refine qx_isub (pc := 20) dX4_isIn_20 ?_
      refine qx_istore (pc := 21) (lv' := [(6, .int (r1 - x1)), (0, .ref (a 1)), (1, .int x1), (2, .int x2), (3, .int x3), (4, .int x4), (5, .int x5)]) dX4_isIn_21 (Nat.le_of_ble_eq_true rfl) rfl ?_
      refine qx_aload_n (pc := 23) 1 dX4_isIn_23 rfl ?_
      refine qx_iload (pc := 24) 6 dX4_isIn_24 rfl ?_
      refine qx_iconst (pc := 26) 1 dX4_isIn_26 (by decide) ?_
      obtain ⟨r2, hr2, h⟩ := qx_bindE h
      refine qx_callVi (pc := 27) 1 r2 σ [.int x5, .int 1] [] rfl rfl rfl qcm_X4_get qcv_X4_get qwm_X4_36 rfl (Nat.le_of_ble_eq_true rfl) (Nat.le_of_ble_eq_true rfl) (by decide) dX4_isIn_27 (qPt_get_ok hr2) ?_
      refine qx_iload_n (pc := 30) 3 dX4_isIn_30 rfl ?_
      refine qx_isub (pc := 31) dX4_isIn_31 ?_
      refine qx_istore (pc := 32) (lv' := [(7, .int (r2 - x2)), (6, .int (r1 - x1)), (0, .ref (a 1)), (1, .int x1), (2, .int x2), (3, .int x3), (4, .int x4), (5, .int x5)]) dX4_isIn_32 (Nat.le_of_ble_eq_true rfl) rfl ?_
      refine qx_iload (pc := 34) 1 dX4_isIn_34 rfl ?_
      refine qx_if_lt (pc := 36) 59 h dX4_isIn_36 (by decide) (fun h => ?_) (fun h => ?_)
      · refine qx_iinc (pc := 59) (lv' := [(5, .int (x5 + 1)), (7, .int (r2 - x2)), (6, .int (r1 - x1)), (0, .ref (a 1)), (1, .int x1), (2, .int x2), (3, .int x3), (4, .int x4)]) 7 (x5 + 1) dX4_isIn_59 rfl rfl (Nat.le_of_ble_eq_true rfl) rfl ?_
        refine qx_goto (pc := 62) 3 dX4_isIn_62 (by decide) ?_
        exact qx_sub [3, 4, 5, 6, 7, 0] rfl (ih _ _ h)
      · refine qx_iload (pc := 39) 1 dX4_isIn_39 rfl ?_
        refine qx_iload_n (pc := 41) 5 dX4_isIn_41 rfl ?_
        refine qx_icmp_ge (pc := 42) 59 h dX4_isIn_42 (by decide) (fun h => ?_) (fun h => ?_)
        · refine qx_iinc (pc := 59) (lv' := [(5, .int (x5 + 1)), (7, .int (r2 - x2)), (6, .int (r1 - x1)), (0, .ref (a 1)), (1, .int x1), (2, .int x2), (3, .int x3), (4, .int x4)]) 7 (x5 + 1) dX4_isIn_59 rfl rfl (Nat.le_of_ble_eq_true rfl) rfl ?_
          refine qx_goto (pc := 62) 3 dX4_isIn_62 (by decide) ?_
          exact qx_sub [3, 4, 5, 6, 7, 0] rfl (ih _ _ h)
        · refine qx_iload (pc := 45) 0 dX4_isIn_45 rfl ?_
          refine qx_if_lt (pc := 47) 59 h dX4_isIn_47 (by decide) (fun h => ?_) (fun h => ?_)
          · refine qx_iinc (pc := 59) (lv' := [(5, .int (x5 + 1)), (7, .int (r2 - x2)), (6, .int (r1 - x1)), (0, .ref (a 1)), (1, .int x1), (2, .int x2), (3, .int x3), (4, .int x4)]) 7 (x5 + 1) dX4_isIn_59 rfl rfl (Nat.le_of_ble_eq_true rfl) rfl ?_
            refine qx_goto (pc := 62) 3 dX4_isIn_62 (by decide) ?_
            exact qx_sub [3, 4, 5, 6, 7, 0] rfl (ih _ _ h)
          · refine qx_iload (pc := 50) 0 dX4_isIn_50 rfl ?_
            refine qx_iload (pc := 52) 6 dX4_isIn_52 rfl ?_
            refine qx_icmp_ge (pc := 54) 59 h dX4_isIn_54 (by decide) (fun h => ?_) (fun h => ?_)
            · refine qx_iinc (pc := 59) (lv' := [(5, .int (x5 + 1)), (7, .int (r2 - x2)), (6, .int (r1 - x1)), (0, .ref (a 1)), (1, .int x1), (2, .int x2), (3, .int x3), (4, .int x4)]) 7 (x5 + 1) dX4_isIn_59 rfl rfl (Nat.le_of_ble_eq_true rfl) rfl ?_
              refine qx_goto (pc := 62) 3 dX4_isIn_62 (by decide) ?_
              exact qx_sub [3, 4, 5, 6, 7, 0] rfl (ih _ _ h)
            · refine qx_iconst (pc := 57) 1 dX4_isIn_57 (by decide) ?_
              exact qx_nret h rfl rfl dX4_isIn_58
set_option maxHeartbeats 4000000 in
set_option maxRecDepth 100000 in
theorem qPt_isIn_ok {σ : QS} {x1 : Int32} {x2 : Int32} {x3 : Int32} {x4 : Int32} {r : Int32} (h : qPt_isIn σ x1 x2 x3 x4 = some r) : qx_E (qx_gC l D ci a z) 2 mX4_isIn (some (.int r), σ) 0 [(0, .ref (a 1)), (1, .int x1), (2, .int x2), (3, .int x3), (4, .int x4)] [] σ := by
  unfold qPt_isIn at h
  refine qx_iconst (pc := 0) 0 dX4_isIn_0 (by decide) ?_
  refine qx_istore (pc := 1) (lv' := [(5, .int 0), (0, .ref (a 1)), (1, .int x1), (2, .int x2), (3, .int x3), (4, .int x4)]) dX4_isIn_1 (Nat.le_of_ble_eq_true rfl) rfl ?_
  exact qx_sub [1, 2, 3, 4, 5, 0] rfl (qPt_isIn_L3_ok qx_F _ _ h)
set_option maxHeartbeats 4000000 in
set_option maxRecDepth 100000 in
theorem qPl_isGood_ok {σ : QS} {x1 : Int32} {x2 : Int32} {r : Int32} (h : qPl_isGood σ x1 x2 = some r) : qx_E (qx_gC l D ci a z) 3 mX3_isGood (some (.int r), σ) 0 [(0, .ref (a 5)), (1, .int x1), (2, .int x2)] [] σ := by
  unfold qPl_isGood at h
  refine qx_aload_n (pc := 0) 0 dX3_isGood_0 rfl ?_
  refine qgC5_0 (pc := 1) qwf_X3_9 dX3_isGood_1 ?_
  refine qx_iload_n (pc := 4) 1 dX3_isGood_4 rfl ?_
  refine qx_iconst (pc := 5) 2 dX3_isGood_5 (by decide) ?_
  obtain ⟨r1, hr1, h⟩ := qx_bindE h
  refine qx_callVi (pc := 6) 1 r1 σ [.int x1, .int 2] [] rfl rfl rfl qcm_X4_get qcv_X4_get qwm_X3_49 rfl (Nat.le_of_ble_eq_true rfl) (Nat.le_of_ble_eq_true rfl) (by decide) dX3_isGood_6 (qPt_get_ok hr1) ?_
  refine qx_istore_n (pc := 9) (lv' := [(3, .int r1), (0, .ref (a 5)), (1, .int x1), (2, .int x2)]) dX3_isGood_9 (Nat.le_of_ble_eq_true rfl) rfl ?_
  refine qx_aload_n (pc := 10) 1 dX3_isGood_10 rfl ?_
  refine qgC5_0 (pc := 11) qwf_X3_9 dX3_isGood_11 ?_
  refine qx_iload_n (pc := 14) 2 dX3_isGood_14 rfl ?_
  refine qx_iconst (pc := 15) 3 dX3_isGood_15 (by decide) ?_
  obtain ⟨r2, hr2, h⟩ := qx_bindE h
  refine qx_callVi (pc := 16) 1 r2 σ [.int x1, .int 3] [] rfl rfl rfl qcm_X4_get qcv_X4_get qwm_X3_49 rfl (Nat.le_of_ble_eq_true rfl) (Nat.le_of_ble_eq_true rfl) (by decide) dX3_isGood_16 (qPt_get_ok hr2) ?_
  refine qx_istore (pc := 19) (lv' := [(4, .int r2), (3, .int r1), (0, .ref (a 5)), (1, .int x1), (2, .int x2)]) dX3_isGood_19 (Nat.le_of_ble_eq_true rfl) rfl ?_
  refine qx_aload_n (pc := 21) 2 dX3_isGood_21 rfl ?_
  refine qx_iload_n (pc := 22) 3 dX3_isGood_22 rfl ?_
  refine qx_iload_n (pc := 23) 4 dX3_isGood_23 rfl ?_
  obtain ⟨r3, hr3, h⟩ := qx_bindE h
  refine qx_callVi (pc := 24) 5 r3 σ [.int x1, .int x2] [] rfl rfl rfl qcm_X3_leftOf qcv_X3_leftOf qwm_X3_56 rfl (Nat.le_of_ble_eq_true rfl) (Nat.le_of_ble_eq_true rfl) (by decide) dX3_isGood_24 (qPl_leftOf_ok hr3) ?_
  refine qx_istore (pc := 27) (lv' := [(5, .int r3), (4, .int r2), (3, .int r1), (0, .ref (a 5)), (1, .int x1), (2, .int x2)]) dX3_isGood_27 (Nat.le_of_ble_eq_true rfl) rfl ?_
  refine qx_aload_n (pc := 29) 3 dX3_isGood_29 rfl ?_
  refine qx_iload_n (pc := 30) 4 dX3_isGood_30 rfl ?_
  refine qx_iload_n (pc := 31) 5 dX3_isGood_31 rfl ?_
  obtain ⟨r4, hr4, h⟩ := qx_bindE h
  refine qx_callVi (pc := 32) 5 r4 σ [.int x1, .int x2] [] rfl rfl rfl qcm_X3_bottomOf qcv_X3_bottomOf qwm_X3_59 rfl (Nat.le_of_ble_eq_true rfl) (Nat.le_of_ble_eq_true rfl) (by decide) dX3_isGood_32 (qPl_bottomOf_ok hr4) ?_
  refine qx_istore (pc := 35) (lv' := [(6, .int r4), (5, .int r3), (4, .int r2), (3, .int r1), (0, .ref (a 5)), (1, .int x1), (2, .int x2)]) dX3_isGood_35 (Nat.le_of_ble_eq_true rfl) rfl ?_
  refine qx_aload_n (pc := 37) 4 dX3_isGood_37 rfl ?_
  refine qgC5_0 (pc := 38) qwf_X3_9 dX3_isGood_38 ?_
  refine qx_iload_n (pc := 41) 5 dX3_isGood_41 rfl ?_
  refine qx_iconst (pc := 42) 5 dX3_isGood_42 (by decide) ?_
  obtain ⟨r5, hr5, h⟩ := qx_bindE h
  refine qx_callVi (pc := 43) 1 r5 σ [.int x1, .int 5] [] rfl rfl rfl qcm_X4_get qcv_X4_get qwm_X3_49 rfl (Nat.le_of_ble_eq_true rfl) (Nat.le_of_ble_eq_true rfl) (by decide) dX3_isGood_43 (qPt_get_ok hr5) ?_
  refine qx_iload_n (pc := 46) 6 dX3_isGood_46 rfl ?_
  refine qx_ishr (pc := 47) dX3_isGood_47 ?_
  refine qx_iconst (pc := 48) 1 dX3_isGood_48 (by decide) ?_
  refine qx_iand (pc := 49) dX3_isGood_49 ?_
  refine qx_iconst (pc := 50) 1 dX3_isGood_50 (by decide) ?_
  refine qx_icmp_ne (pc := 51) 100 h dX3_isGood_51 (by decide) (fun h => ?_) (fun h => ?_)
  · refine qx_iconst (pc := 100) 0 dX3_isGood_100 (by decide) ?_
    exact qx_nret h rfl rfl dX3_isGood_101
  · refine qx_aload_n (pc := 54) 4 dX3_isGood_54 rfl ?_
    refine qx_iload_n (pc := 55) 5 dX3_isGood_55 rfl ?_
    obtain ⟨r6, hr6, h⟩ := qx_bindE h
    refine qx_callVi (pc := 56) 5 r6 σ [.int x1] [] rfl rfl rfl qcm_X3_isVisible qcv_X3_isVisible qwm_X3_62 rfl (Nat.le_of_ble_eq_true rfl) (Nat.le_of_ble_eq_true rfl) (by decide) dX3_isGood_56 (qPl_isVisible_ok hr6) ?_
    refine qx_if_eq (pc := 59) 100 h dX3_isGood_59 (by decide) (fun h => ?_) (fun h => ?_)
    · refine qx_iconst (pc := 100) 0 dX3_isGood_100 (by decide) ?_
      exact qx_nret h rfl rfl dX3_isGood_101
    · refine qx_aload_n (pc := 62) 4 dX3_isGood_62 rfl ?_
      refine qgC5_1 (pc := 63) qwf_X3_15 dX3_isGood_63 ?_
      refine qx_iload (pc := 66) 1 dX3_isGood_66 rfl ?_
      refine qx_iload (pc := 68) 0 dX3_isGood_68 rfl ?_
      refine qx_iload_n (pc := 70) 3 dX3_isGood_70 rfl ?_
      refine qx_iload (pc := 71) 2 dX3_isGood_71 rfl ?_
      obtain ⟨r7, hr7, h⟩ := qx_bindE h
      refine qx_callVi (pc := 73) 4 r7 σ [.int r3, .int r4, .int r1, .int r2] [] rfl rfl rfl qcm_X7_holds qcv_X7_holds qwm_X3_66 rfl (Nat.le_of_ble_eq_true rfl) (Nat.le_of_ble_eq_true rfl) (by decide) dX3_isGood_73 (qWi_holds_ok hr7) ?_
      refine qx_if_eq (pc := 76) 100 h dX3_isGood_76 (by decide) (fun h => ?_) (fun h => ?_)
      · refine qx_iconst (pc := 100) 0 dX3_isGood_100 (by decide) ?_
        exact qx_nret h rfl rfl dX3_isGood_101
      · refine qx_aload_n (pc := 79) 4 dX3_isGood_79 rfl ?_
        refine qgC5_0 (pc := 80) qwf_X3_9 dX3_isGood_80 ?_
        refine qx_iload (pc := 83) 1 dX3_isGood_83 rfl ?_
        refine qx_iload (pc := 85) 0 dX3_isGood_85 rfl ?_
        refine qx_iload_n (pc := 87) 3 dX3_isGood_87 rfl ?_
        refine qx_iload (pc := 88) 2 dX3_isGood_88 rfl ?_
        obtain ⟨r8, hr8, h⟩ := qx_bindE h
        refine qx_callVi (pc := 90) 1 r8 σ [.int r3, .int r4, .int r1, .int r2] [] rfl rfl rfl qcm_X4_isIn qcv_X4_isIn qwm_X3_72 rfl (Nat.le_of_ble_eq_true rfl) (Nat.le_of_ble_eq_true rfl) (by decide) dX3_isGood_90 (qPt_isIn_ok hr8) ?_
        refine qx_if_ne (pc := 93) 100 h dX3_isGood_93 (by decide) (fun h => ?_) (fun h => ?_)
        · refine qx_iconst (pc := 100) 0 dX3_isGood_100 (by decide) ?_
          exact qx_nret h rfl rfl dX3_isGood_101
        · refine qx_iconst (pc := 96) 1 dX3_isGood_96 (by decide) ?_
          refine qx_goto (pc := 97) 101 dX3_isGood_97 (by decide) ?_
          exact qx_nret h rfl rfl dX3_isGood_101
set_option maxHeartbeats 4000000 in
set_option maxRecDepth 100000 in
theorem qPl_findAll_L15_ok {x1 : Int32} {k2 : QS → Int32 → Option (QS)} (hk2 : ∀ (σ : QS) (x1 : Int32) (r : QS), k2 σ x1 = some r → qx_E (qx_gC l D ci a z) 4 mX3_findAll (none, r) 2 [(0, .ref (a 5)), (1, .int x1)] [] σ) : ∀ (n : Nat) (σ : QS) (x2 : Int32) (r : QS), qPl_findAll_L15 x1 k2 n σ x2 = some r → qx_E (qx_gC l D ci a z) 4 mX3_findAll (none, r) 15 [(0, .ref (a 5)), (1, .int x1), (2, .int x2)] [] σ := by
  intro n
  induction n with
  | zero =>
    intro σ x2 r h
    exact (qx_none h).elim
  | succ n ih =>
    intro σ x2 r h
    unfold qPl_findAll_L15 at h
    refine qx_iload_n (pc := 15) 2 dX3_findAll_15 rfl ?_
    refine qx_bipush (pc := 16) 8 dX3_findAll_16 (by decide) ?_
    refine qx_icmp_ge (pc := 18) 114 h dX3_findAll_18 (by decide) (fun h => ?_) (fun h => ?_)
    · refine qx_iinc (pc := 114) (lv' := [(1, .int (x1 + 1)), (0, .ref (a 5)), (2, .int x2)]) 1 (x1 + 1) dX3_findAll_114 rfl rfl (Nat.le_of_ble_eq_true rfl) rfl ?_
      refine qx_goto (pc := 117) 2 dX3_findAll_117 (by decide) ?_
      exact qx_sub [1, 0] rfl (hk2 _ _ _ h)
    · refine qx_iload_n (pc := 21) 1 dX3_findAll_21 rfl ?_
      refine qx_bipush (pc := 22) 8 dX3_findAll_22 (by decide) ?_
      refine qx_imul (pc := 24) dX3_findAll_24 ?_
      refine qx_iload_n (pc := 25) 2 dX3_findAll_25 rfl ?_
      refine qx_iadd (pc := 26) dX3_findAll_26 ?_
      refine qx_istore_n (pc := 27) (lv' := [(3, .int ((x1 * 8) + x2)), (0, .ref (a 5)), (1, .int x1), (2, .int x2)]) dX3_findAll_27 (Nat.le_of_ble_eq_true rfl) rfl ?_
      refine qx_aload_n (pc := 28) 1 dX3_findAll_28 rfl ?_
      refine qgC5_2 (pc := 29) qwf_X3_19 dX3_findAll_29 ?_
      refine qx_iload_n (pc := 32) 0 dX3_findAll_32 rfl ?_
      refine qx_aload_n (pc := 33) 1 dX3_findAll_33 rfl ?_
      refine qx_iload_n (pc := 34) 2 dX3_findAll_34 rfl ?_
      refine qx_iload_n (pc := 35) 3 dX3_findAll_35 rfl ?_
      obtain ⟨r1, hr1, h⟩ := qx_bindE h
      refine qx_callVi (pc := 36) 5 r1 σ [.int x1, .int x2] [.int ((x1 * 8) + x2), .ref (a 6)] rfl rfl rfl qcm_X3_findLeft qcv_X3_findLeft qwm_X3_42 rfl (Nat.le_of_ble_eq_true rfl) (Nat.le_of_ble_eq_true rfl) (by decide) dX3_findAll_36 (qPl_findLeft_ok hr1) ?_
      refine qsC6 (pc := 39) h dX3_findAll_39 (fun h => ?_)
      refine qx_aload_n (pc := 40) 1 dX3_findAll_40 rfl ?_
      refine qgC5_3 (pc := 41) qwf_X3_23 dX3_findAll_41 ?_
      refine qx_iload_n (pc := 44) 0 dX3_findAll_44 rfl ?_
      refine qx_aload_n (pc := 45) 1 dX3_findAll_45 rfl ?_
      refine qx_iload_n (pc := 46) 2 dX3_findAll_46 rfl ?_
      refine qx_iload_n (pc := 47) 3 dX3_findAll_47 rfl ?_
      obtain ⟨r2, hr2, h⟩ := qx_bindE h
      refine qx_callVi (pc := 48) 5 r2 (qx_up σ 6 ((x1 * 8) + x2).toNatClampNeg r1) [.int x1, .int x2] [.int ((x1 * 8) + x2), .ref (a 7)] rfl rfl rfl qcm_X3_findBottom qcv_X3_findBottom qwm_X3_46 rfl (Nat.le_of_ble_eq_true rfl) (Nat.le_of_ble_eq_true rfl) (by decide) dX3_findAll_48 (qPl_findBottom_ok hr2) ?_
      refine qsC7 (pc := 51) h dX3_findAll_51 (fun h => ?_)
      refine qx_aload_n (pc := 52) 1 dX3_findAll_52 rfl ?_
      refine qgC5_4 (pc := 53) qwf_X3_26 dX3_findAll_53 ?_
      refine qx_iload_n (pc := 56) 0 dX3_findAll_56 rfl ?_
      refine qx_aload_n (pc := 57) 1 dX3_findAll_57 rfl ?_
      refine qgC5_2 (pc := 58) qwf_X3_19 dX3_findAll_58 ?_
      refine qx_iload_n (pc := 61) 0 dX3_findAll_61 rfl ?_
      refine qlC6 (pc := 62) h dX3_findAll_62 (fun h => ?_)
      refine qx_aload_n (pc := 63) 1 dX3_findAll_63 rfl ?_
      refine qgC5_0 (pc := 64) qwf_X3_9 dX3_findAll_64 ?_
      refine qx_iload_n (pc := 67) 2 dX3_findAll_67 rfl ?_
      refine qx_iconst (pc := 68) 2 dX3_findAll_68 (by decide) ?_
      obtain ⟨r3, hr3, h⟩ := qx_bindE h
      refine qx_callVi (pc := 69) 1 r3 (qx_up (qx_up σ 6 ((x1 * 8) + x2).toNatClampNeg r1) 7 ((x1 * 8) + x2).toNatClampNeg r2) [.int x1, .int 2] [.int ((qx_up (qx_up σ 6 ((x1 * 8) + x2).toNatClampNeg r1) 7 ((x1 * 8) + x2).toNatClampNeg r2).1 6 ((x1 * 8) + x2).toNatClampNeg), .int ((x1 * 8) + x2), .ref (a 8)] rfl rfl rfl qcm_X4_get qcv_X4_get qwm_X3_49 rfl (Nat.le_of_ble_eq_true rfl) (Nat.le_of_ble_eq_true rfl) (by decide) dX3_findAll_69 (qPt_get_ok hr3) ?_
      refine qx_iadd (pc := 72) dX3_findAll_72 ?_
      refine qsC8 (pc := 73) h dX3_findAll_73 (fun h => ?_)
      refine qx_aload_n (pc := 74) 1 dX3_findAll_74 rfl ?_
      refine qgC5_5 (pc := 75) qwf_X3_29 dX3_findAll_75 ?_
      refine qx_iload_n (pc := 78) 0 dX3_findAll_78 rfl ?_
      refine qx_aload_n (pc := 79) 1 dX3_findAll_79 rfl ?_
      refine qgC5_3 (pc := 80) qwf_X3_23 dX3_findAll_80 ?_
      refine qx_iload_n (pc := 83) 0 dX3_findAll_83 rfl ?_
      refine qlC7 (pc := 84) h dX3_findAll_84 (fun h => ?_)
      refine qx_aload_n (pc := 85) 1 dX3_findAll_85 rfl ?_
      refine qgC5_0 (pc := 86) qwf_X3_9 dX3_findAll_86 ?_
      refine qx_iload_n (pc := 89) 2 dX3_findAll_89 rfl ?_
      refine qx_iconst (pc := 90) 3 dX3_findAll_90 (by decide) ?_
      obtain ⟨r4, hr4, h⟩ := qx_bindE h
      refine qx_callVi (pc := 91) 1 r4 (qx_up (qx_up (qx_up σ 6 ((x1 * 8) + x2).toNatClampNeg r1) 7 ((x1 * 8) + x2).toNatClampNeg r2) 8 ((x1 * 8) + x2).toNatClampNeg (((qx_up (qx_up σ 6 ((x1 * 8) + x2).toNatClampNeg r1) 7 ((x1 * 8) + x2).toNatClampNeg r2).1 6 ((x1 * 8) + x2).toNatClampNeg) + r3)) [.int x1, .int 3] [.int ((qx_up (qx_up (qx_up σ 6 ((x1 * 8) + x2).toNatClampNeg r1) 7 ((x1 * 8) + x2).toNatClampNeg r2) 8 ((x1 * 8) + x2).toNatClampNeg (((qx_up (qx_up σ 6 ((x1 * 8) + x2).toNatClampNeg r1) 7 ((x1 * 8) + x2).toNatClampNeg r2).1 6 ((x1 * 8) + x2).toNatClampNeg) + r3)).1 7 ((x1 * 8) + x2).toNatClampNeg), .int ((x1 * 8) + x2), .ref (a 9)] rfl rfl rfl qcm_X4_get qcv_X4_get qwm_X3_49 rfl (Nat.le_of_ble_eq_true rfl) (Nat.le_of_ble_eq_true rfl) (by decide) dX3_findAll_91 (qPt_get_ok hr4) ?_
      refine qx_iadd (pc := 94) dX3_findAll_94 ?_
      refine qsC9 (pc := 95) h dX3_findAll_95 (fun h => ?_)
      refine qx_aload_n (pc := 96) 1 dX3_findAll_96 rfl ?_
      refine qgC5_6 (pc := 97) qwf_X3_32 dX3_findAll_97 ?_
      refine qx_iload_n (pc := 100) 0 dX3_findAll_100 rfl ?_
      refine qx_aload_n (pc := 101) 1 dX3_findAll_101 rfl ?_
      refine qx_iload_n (pc := 102) 2 dX3_findAll_102 rfl ?_
      refine qx_iload_n (pc := 103) 3 dX3_findAll_103 rfl ?_
      obtain ⟨r5, hr5, h⟩ := qx_bindE h
      refine qx_callVi (pc := 104) 5 r5 (qx_up (qx_up (qx_up (qx_up σ 6 ((x1 * 8) + x2).toNatClampNeg r1) 7 ((x1 * 8) + x2).toNatClampNeg r2) 8 ((x1 * 8) + x2).toNatClampNeg (((qx_up (qx_up σ 6 ((x1 * 8) + x2).toNatClampNeg r1) 7 ((x1 * 8) + x2).toNatClampNeg r2).1 6 ((x1 * 8) + x2).toNatClampNeg) + r3)) 9 ((x1 * 8) + x2).toNatClampNeg (((qx_up (qx_up (qx_up σ 6 ((x1 * 8) + x2).toNatClampNeg r1) 7 ((x1 * 8) + x2).toNatClampNeg r2) 8 ((x1 * 8) + x2).toNatClampNeg (((qx_up (qx_up σ 6 ((x1 * 8) + x2).toNatClampNeg r1) 7 ((x1 * 8) + x2).toNatClampNeg r2).1 6 ((x1 * 8) + x2).toNatClampNeg) + r3)).1 7 ((x1 * 8) + x2).toNatClampNeg) + r4)) [.int x1, .int x2] [.int ((x1 * 8) + x2), .ref (a 10)] rfl rfl rfl qcm_X3_isGood qcv_X3_isGood qwm_X3_52 rfl (Nat.le_of_ble_eq_true rfl) (Nat.le_of_ble_eq_true rfl) (by decide) dX3_findAll_104 (qPl_isGood_ok hr5) ?_
      refine qsC10 (pc := 107) h dX3_findAll_107 (fun h => ?_)
      refine qx_iinc (pc := 108) (lv' := [(2, .int (x2 + 1)), (3, .int ((x1 * 8) + x2)), (0, .ref (a 5)), (1, .int x1)]) 3 (x2 + 1) dX3_findAll_108 rfl rfl (Nat.le_of_ble_eq_true rfl) rfl ?_
      refine qx_goto (pc := 111) 15 dX3_findAll_111 (by decide) ?_
      exact qx_sub [2, 3, 0] rfl (ih _ _ _ h)
set_option maxHeartbeats 4000000 in
set_option maxRecDepth 100000 in
theorem qPl_findAll_L2_ok : ∀ (n : Nat) (σ : QS) (x1 : Int32) (r : QS), qPl_findAll_L2 n σ x1 = some r → qx_E (qx_gC l D ci a z) 4 mX3_findAll (none, r) 2 [(0, .ref (a 5)), (1, .int x1)] [] σ := by
  intro n
  induction n with
  | zero =>
    intro σ x1 r h
    exact (qx_none h).elim
  | succ n ih =>
    intro σ x1 r h
    unfold qPl_findAll_L2 at h
    refine qx_iload_n (pc := 2) 1 dX3_findAll_2 rfl ?_
    refine qx_aload_n (pc := 3) 0 dX3_findAll_3 rfl ?_
    refine qgC5_0 (pc := 4) qwf_X3_9 dX3_findAll_4 ?_
    refine qgC1_0 (pc := 7) qwf_X3_36 dX3_findAll_7 ?_
    refine qx_icmp_ge (pc := 10) 120 h dX3_findAll_10 (by decide) (fun h => ?_) (fun h => ?_)
    · exact qx_vret h rfl dX3_findAll_120
    · refine qx_iconst (pc := 13) 0 dX3_findAll_13 (by decide) ?_
      refine qx_istore_n (pc := 14) (lv' := [(2, .int 0), (0, .ref (a 5)), (1, .int x1)]) dX3_findAll_14 (Nat.le_of_ble_eq_true rfl) rfl ?_
      exact qx_sub [1, 2, 0] rfl (qPl_findAll_L15_ok ih qx_F _ _ _ h)
set_option maxHeartbeats 4000000 in
set_option maxRecDepth 100000 in
theorem qPl_findAll_ok {σ : QS} {r : QS} (h : qPl_findAll σ = some r) : qx_E (qx_gC l D ci a z) 4 mX3_findAll (none, r) 0 [(0, .ref (a 5))] [] σ := by
  unfold qPl_findAll at h
  refine qx_iconst (pc := 0) 0 dX3_findAll_0 (by decide) ?_
  refine qx_istore_n (pc := 1) (lv' := [(1, .int 0), (0, .ref (a 5))]) dX3_findAll_1 (Nat.le_of_ble_eq_true rfl) rfl ?_
  exact qx_sub [1, 0] rfl (qPl_findAll_L2_ok qx_F _ _ _ h)
set_option maxHeartbeats 4000000 in
set_option maxRecDepth 100000 in
theorem qPl_visiblePoints_L4_ok {σ : QS} : ∀ (n : Nat) (x1 : Int32) (x2 : Int32) (r : Int32), qPl_visiblePoints_L4 σ n x1 x2 = some r → qx_E (qx_gC l D ci a z) 3 mX3_visiblePoints (some (.int r), σ) 4 [(0, .ref (a 5)), (1, .int x1), (2, .int x2)] [] σ := by
  intro n
  induction n with
  | zero =>
    intro x1 x2 r h
    exact (qx_none h).elim
  | succ n ih =>
    intro x1 x2 r h
    unfold qPl_visiblePoints_L4 at h
    refine qx_iload_n (pc := 4) 2 dX3_visiblePoints_4 rfl ?_
    refine qx_aload_n (pc := 5) 0 dX3_visiblePoints_5 rfl ?_
    refine qgC5_0 (pc := 6) qwf_X3_9 dX3_visiblePoints_6 ?_
    refine qgC1_0 (pc := 9) qwf_X3_36 dX3_visiblePoints_9 ?_
    refine qx_icmp_ge (pc := 12) 32 h dX3_visiblePoints_12 (by decide) (fun h => ?_) (fun h => ?_)
    · refine qx_iload_n (pc := 32) 1 dX3_visiblePoints_32 rfl ?_
      exact qx_iret h rfl dX3_visiblePoints_33
    · refine qx_aload_n (pc := 15) 0 dX3_visiblePoints_15 rfl ?_
      refine qx_iload_n (pc := 16) 2 dX3_visiblePoints_16 rfl ?_
      obtain ⟨r1, hr1, h⟩ := qx_bindE h
      refine qx_callVi (pc := 17) 5 r1 σ [.int x2] [] rfl rfl rfl qcm_X3_isVisible qcv_X3_isVisible qwm_X3_62 rfl (Nat.le_of_ble_eq_true rfl) (Nat.le_of_ble_eq_true rfl) (by decide) dX3_visiblePoints_17 (qPl_isVisible_ok hr1) ?_
      refine qx_if_eq (pc := 20) 26 h dX3_visiblePoints_20 (by decide) (fun h => ?_) (fun h => ?_)
      · refine qx_iinc (pc := 26) (lv' := [(2, .int (x2 + 1)), (0, .ref (a 5)), (1, .int x1)]) 2 (x2 + 1) dX3_visiblePoints_26 rfl rfl (Nat.le_of_ble_eq_true rfl) rfl ?_
        refine qx_goto (pc := 29) 4 dX3_visiblePoints_29 (by decide) ?_
        exact qx_sub [1, 2, 0] rfl (ih _ _ _ h)
      · refine qx_iinc (pc := 23) (lv' := [(1, .int (x1 + 1)), (0, .ref (a 5)), (2, .int x2)]) 1 (x1 + 1) dX3_visiblePoints_23 rfl rfl (Nat.le_of_ble_eq_true rfl) rfl ?_
        refine qx_iinc (pc := 26) (lv' := [(2, .int (x2 + 1)), (1, .int (x1 + 1)), (0, .ref (a 5))]) 2 (x2 + 1) dX3_visiblePoints_26 rfl rfl (Nat.le_of_ble_eq_true rfl) rfl ?_
        refine qx_goto (pc := 29) 4 dX3_visiblePoints_29 (by decide) ?_
        exact qx_sub [2, 1, 0] rfl (ih _ _ _ h)
set_option maxHeartbeats 4000000 in
set_option maxRecDepth 100000 in
theorem qPl_visiblePoints_ok {σ : QS} {r : Int32} (h : qPl_visiblePoints σ = some r) : qx_E (qx_gC l D ci a z) 3 mX3_visiblePoints (some (.int r), σ) 0 [(0, .ref (a 5))] [] σ := by
  unfold qPl_visiblePoints at h
  refine qx_iconst (pc := 0) 0 dX3_visiblePoints_0 (by decide) ?_
  refine qx_istore_n (pc := 1) (lv' := [(1, .int 0), (0, .ref (a 5))]) dX3_visiblePoints_1 (Nat.le_of_ble_eq_true rfl) rfl ?_
  refine qx_iconst (pc := 2) 0 dX3_visiblePoints_2 (by decide) ?_
  refine qx_istore_n (pc := 3) (lv' := [(2, .int 0), (1, .int 0), (0, .ref (a 5))]) dX3_visiblePoints_3 (Nat.le_of_ble_eq_true rfl) rfl ?_
  exact qx_sub [2, 1, 0] rfl (qPl_visiblePoints_L4_ok qx_F _ _ _ h)
set_option maxHeartbeats 4000000 in
set_option maxRecDepth 100000 in
theorem qPl_manyOf_L4_ok {σ : QS} {x1 : Int32} : ∀ (n : Nat) (x2 : Int32) (x3 : Int32) (r : Int32), qPl_manyOf_L4 σ x1 n x2 x3 = some r → qx_E (qx_gC l D ci a z) 2 mX3_manyOf (some (.int r), σ) 4 [(0, .ref (a 5)), (1, .int x1), (2, .int x2), (3, .int x3)] [] σ := by
  intro n
  induction n with
  | zero =>
    intro x2 x3 r h
    exact (qx_none h).elim
  | succ n ih =>
    intro x2 x3 r h
    unfold qPl_manyOf_L4 at h
    refine qx_iload_n (pc := 4) 3 dX3_manyOf_4 rfl ?_
    refine qx_bipush (pc := 5) 8 dX3_manyOf_5 (by decide) ?_
    refine qx_icmp_ge (pc := 7) 28 h dX3_manyOf_7 (by decide) (fun h => ?_) (fun h => ?_)
    · refine qx_iload_n (pc := 28) 2 dX3_manyOf_28 rfl ?_
      exact qx_iret h rfl dX3_manyOf_29
    · refine qx_aload_n (pc := 10) 0 dX3_manyOf_10 rfl ?_
      refine qx_iload_n (pc := 11) 1 dX3_manyOf_11 rfl ?_
      refine qx_iload_n (pc := 12) 3 dX3_manyOf_12 rfl ?_
      obtain ⟨r1, hr1, h⟩ := qx_bindE h
      refine qx_callVi (pc := 13) 5 r1 σ [.int x1, .int x3] [] rfl rfl rfl qcm_X3_isPlace qcv_X3_isPlace qwm_X3_75 rfl (Nat.le_of_ble_eq_true rfl) (Nat.le_of_ble_eq_true rfl) (by decide) dX3_manyOf_13 (qPl_isPlace_ok hr1) ?_
      refine qx_if_eq (pc := 16) 22 h dX3_manyOf_16 (by decide) (fun h => ?_) (fun h => ?_)
      · refine qx_iinc (pc := 22) (lv' := [(3, .int (x3 + 1)), (0, .ref (a 5)), (1, .int x1), (2, .int x2)]) 3 (x3 + 1) dX3_manyOf_22 rfl rfl (Nat.le_of_ble_eq_true rfl) rfl ?_
        refine qx_goto (pc := 25) 4 dX3_manyOf_25 (by decide) ?_
        exact qx_sub [1, 2, 3, 0] rfl (ih _ _ _ h)
      · refine qx_iinc (pc := 19) (lv' := [(2, .int (x2 + 1)), (0, .ref (a 5)), (1, .int x1), (3, .int x3)]) 2 (x2 + 1) dX3_manyOf_19 rfl rfl (Nat.le_of_ble_eq_true rfl) rfl ?_
        refine qx_iinc (pc := 22) (lv' := [(3, .int (x3 + 1)), (2, .int (x2 + 1)), (0, .ref (a 5)), (1, .int x1)]) 3 (x3 + 1) dX3_manyOf_22 rfl rfl (Nat.le_of_ble_eq_true rfl) rfl ?_
        refine qx_goto (pc := 25) 4 dX3_manyOf_25 (by decide) ?_
        exact qx_sub [2, 3, 1, 0] rfl (ih _ _ _ h)
set_option maxHeartbeats 4000000 in
set_option maxRecDepth 100000 in
theorem qPl_manyOf_ok {σ : QS} {x1 : Int32} {r : Int32} (h : qPl_manyOf σ x1 = some r) : qx_E (qx_gC l D ci a z) 2 mX3_manyOf (some (.int r), σ) 0 [(0, .ref (a 5)), (1, .int x1)] [] σ := by
  unfold qPl_manyOf at h
  refine qx_iconst (pc := 0) 0 dX3_manyOf_0 (by decide) ?_
  refine qx_istore_n (pc := 1) (lv' := [(2, .int 0), (0, .ref (a 5)), (1, .int x1)]) dX3_manyOf_1 (Nat.le_of_ble_eq_true rfl) rfl ?_
  refine qx_iconst (pc := 2) 0 dX3_manyOf_2 (by decide) ?_
  refine qx_istore_n (pc := 3) (lv' := [(3, .int 0), (2, .int 0), (0, .ref (a 5)), (1, .int x1)]) dX3_manyOf_3 (Nat.le_of_ble_eq_true rfl) rfl ?_
  exact qx_sub [2, 3, 1, 0] rfl (qPl_manyOf_L4_ok qx_F _ _ _ h)
set_option maxHeartbeats 4000000 in
set_option maxRecDepth 100000 in
theorem qPl_manyOfAll_L4_ok {σ : QS} : ∀ (n : Nat) (x1 : Int32) (x2 : Int32) (r : Int32), qPl_manyOfAll_L4 σ n x1 x2 = some r → qx_E (qx_gC l D ci a z) 3 mX3_manyOfAll (some (.int r), σ) 4 [(0, .ref (a 5)), (1, .int x1), (2, .int x2)] [] σ := by
  intro n
  induction n with
  | zero =>
    intro x1 x2 r h
    exact (qx_none h).elim
  | succ n ih =>
    intro x1 x2 r h
    unfold qPl_manyOfAll_L4 at h
    refine qx_iload_n (pc := 4) 2 dX3_manyOfAll_4 rfl ?_
    refine qx_aload_n (pc := 5) 0 dX3_manyOfAll_5 rfl ?_
    refine qgC5_0 (pc := 6) qwf_X3_9 dX3_manyOfAll_6 ?_
    refine qgC1_0 (pc := 9) qwf_X3_36 dX3_manyOfAll_9 ?_
    refine qx_icmp_ge (pc := 12) 29 h dX3_manyOfAll_12 (by decide) (fun h => ?_) (fun h => ?_)
    · refine qx_iload_n (pc := 29) 1 dX3_manyOfAll_29 rfl ?_
      exact qx_iret h rfl dX3_manyOfAll_30
    · refine qx_iload_n (pc := 15) 1 dX3_manyOfAll_15 rfl ?_
      refine qx_aload_n (pc := 16) 0 dX3_manyOfAll_16 rfl ?_
      refine qx_iload_n (pc := 17) 2 dX3_manyOfAll_17 rfl ?_
      obtain ⟨r1, hr1, h⟩ := qx_bindE h
      refine qx_callVi (pc := 18) 5 r1 σ [.int x2] [.int x1] rfl rfl rfl qcm_X3_manyOf qcv_X3_manyOf qwm_X3_78 rfl (Nat.le_of_ble_eq_true rfl) (Nat.le_of_ble_eq_true rfl) (by decide) dX3_manyOfAll_18 (qPl_manyOf_ok hr1) ?_
      refine qx_iadd (pc := 21) dX3_manyOfAll_21 ?_
      refine qx_istore_n (pc := 22) (lv' := [(1, .int (x1 + r1)), (0, .ref (a 5)), (2, .int x2)]) dX3_manyOfAll_22 (Nat.le_of_ble_eq_true rfl) rfl ?_
      refine qx_iinc (pc := 23) (lv' := [(2, .int (x2 + 1)), (1, .int (x1 + r1)), (0, .ref (a 5))]) 2 (x2 + 1) dX3_manyOfAll_23 rfl rfl (Nat.le_of_ble_eq_true rfl) rfl ?_
      refine qx_goto (pc := 26) 4 dX3_manyOfAll_26 (by decide) ?_
      exact qx_sub [2, 1, 0] rfl (ih _ _ _ h)
set_option maxHeartbeats 4000000 in
set_option maxRecDepth 100000 in
theorem qPl_manyOfAll_ok {σ : QS} {r : Int32} (h : qPl_manyOfAll σ = some r) : qx_E (qx_gC l D ci a z) 3 mX3_manyOfAll (some (.int r), σ) 0 [(0, .ref (a 5))] [] σ := by
  unfold qPl_manyOfAll at h
  refine qx_iconst (pc := 0) 0 dX3_manyOfAll_0 (by decide) ?_
  refine qx_istore_n (pc := 1) (lv' := [(1, .int 0), (0, .ref (a 5))]) dX3_manyOfAll_1 (Nat.le_of_ble_eq_true rfl) rfl ?_
  refine qx_iconst (pc := 2) 0 dX3_manyOfAll_2 (by decide) ?_
  refine qx_istore_n (pc := 3) (lv' := [(2, .int 0), (1, .int 0), (0, .ref (a 5))]) dX3_manyOfAll_3 (Nat.le_of_ble_eq_true rfl) rfl ?_
  exact qx_sub [2, 1, 0] rfl (qPl_manyOfAll_L4_ok qx_F _ _ _ h)
set_option maxHeartbeats 4000000 in
set_option maxRecDepth 100000 in
theorem qPl_clashesBefore_L15_ok {σ : QS} {x1 : Int32} {x2 : Int32} {x3 : Int32} {x5 : Int32} {k6 : Int32 → Int32 → Option (Int32)} (hk6 : ∀ (x4 : Int32) (x5 : Int32) (r : Int32), k6 x4 x5 = some r → qx_E (qx_gC l D ci a z) 2 mX3_clashesBefore (some (.int r), σ) 6 [(0, .ref (a 5)), (1, .int x1), (2, .int x2), (3, .int x3), (4, .int x4), (5, .int x5)] [] σ) : ∀ (n : Nat) (x4 : Int32) (x6 : Int32) (r : Int32), qPl_clashesBefore_L15 σ x1 x2 x3 x5 k6 n x4 x6 = some r → qx_E (qx_gC l D ci a z) 2 mX3_clashesBefore (some (.int r), σ) 15 [(0, .ref (a 5)), (1, .int x1), (2, .int x2), (3, .int x3), (4, .int x4), (5, .int x5), (6, .int x6)] [] σ := by
  intro n
  induction n with
  | zero =>
    intro x4 x6 r h
    exact (qx_none h).elim
  | succ n ih =>
    intro x4 x6 r h
    unfold qPl_clashesBefore_L15 at h
    refine qx_iload (pc := 15) 6 dX3_clashesBefore_15 rfl ?_
    refine qx_bipush (pc := 17) 8 dX3_clashesBefore_17 (by decide) ?_
    refine qx_icmp_ge (pc := 19) 44 h dX3_clashesBefore_19 (by decide) (fun h => ?_) (fun h => ?_)
    · refine qx_iinc (pc := 44) (lv' := [(5, .int (x5 + 1)), (0, .ref (a 5)), (1, .int x1), (2, .int x2), (3, .int x3), (4, .int x4), (6, .int x6)]) 5 (x5 + 1) dX3_clashesBefore_44 rfl rfl (Nat.le_of_ble_eq_true rfl) rfl ?_
      refine qx_goto (pc := 47) 6 dX3_clashesBefore_47 (by decide) ?_
      exact qx_sub [1, 2, 3, 4, 5, 0] rfl (hk6 _ _ _ h)
    · refine qx_aload_n (pc := 22) 0 dX3_clashesBefore_22 rfl ?_
      refine qx_iload_n (pc := 23) 1 dX3_clashesBefore_23 rfl ?_
      refine qx_iload_n (pc := 24) 2 dX3_clashesBefore_24 rfl ?_
      refine qx_iload (pc := 25) 5 dX3_clashesBefore_25 rfl ?_
      refine qx_iload (pc := 27) 6 dX3_clashesBefore_27 rfl ?_
      obtain ⟨r1, hr1, h⟩ := qx_bindE h
      refine qx_callVi (pc := 29) 5 r1 σ [.int x1, .int x2, .int x5, .int x6] [] rfl rfl rfl qcm_X3_doClash qcv_X3_doClash qwm_X3_86 rfl (Nat.le_of_ble_eq_true rfl) (Nat.le_of_ble_eq_true rfl) (by decide) dX3_clashesBefore_29 (qPl_doClash_ok hr1) ?_
      refine qx_if_eq (pc := 32) 38 h dX3_clashesBefore_32 (by decide) (fun h => ?_) (fun h => ?_)
      · refine qx_iinc (pc := 38) (lv' := [(6, .int (x6 + 1)), (0, .ref (a 5)), (1, .int x1), (2, .int x2), (3, .int x3), (4, .int x4), (5, .int x5)]) 6 (x6 + 1) dX3_clashesBefore_38 rfl rfl (Nat.le_of_ble_eq_true rfl) rfl ?_
        refine qx_goto (pc := 41) 15 dX3_clashesBefore_41 (by decide) ?_
        exact qx_sub [1, 2, 3, 4, 5, 6, 0] rfl (ih _ _ _ h)
      · refine qx_iinc (pc := 35) (lv' := [(4, .int (x4 + 1)), (0, .ref (a 5)), (1, .int x1), (2, .int x2), (3, .int x3), (5, .int x5), (6, .int x6)]) 4 (x4 + 1) dX3_clashesBefore_35 rfl rfl (Nat.le_of_ble_eq_true rfl) rfl ?_
        refine qx_iinc (pc := 38) (lv' := [(6, .int (x6 + 1)), (4, .int (x4 + 1)), (0, .ref (a 5)), (1, .int x1), (2, .int x2), (3, .int x3), (5, .int x5)]) 6 (x6 + 1) dX3_clashesBefore_38 rfl rfl (Nat.le_of_ble_eq_true rfl) rfl ?_
        refine qx_goto (pc := 41) 15 dX3_clashesBefore_41 (by decide) ?_
        exact qx_sub [2, 3, 4, 5, 1, 6, 0] rfl (ih _ _ _ h)
set_option maxHeartbeats 4000000 in
set_option maxRecDepth 100000 in
theorem qPl_clashesBefore_L6_ok {σ : QS} {x1 : Int32} {x2 : Int32} {x3 : Int32} : ∀ (n : Nat) (x4 : Int32) (x5 : Int32) (r : Int32), qPl_clashesBefore_L6 σ x1 x2 x3 n x4 x5 = some r → qx_E (qx_gC l D ci a z) 2 mX3_clashesBefore (some (.int r), σ) 6 [(0, .ref (a 5)), (1, .int x1), (2, .int x2), (3, .int x3), (4, .int x4), (5, .int x5)] [] σ := by
  intro n
  induction n with
  | zero =>
    intro x4 x5 r h
    exact (qx_none h).elim
  | succ n ih =>
    intro x4 x5 r h
    unfold qPl_clashesBefore_L6 at h
    refine qx_iload (pc := 6) 5 dX3_clashesBefore_6 rfl ?_
    refine qx_iload_n (pc := 8) 3 dX3_clashesBefore_8 rfl ?_
    refine qx_icmp_ge (pc := 9) 50 h dX3_clashesBefore_9 (by decide) (fun h => ?_) (fun h => ?_)
    · refine qx_iload (pc := 50) 4 dX3_clashesBefore_50 rfl ?_
      exact qx_iret h rfl dX3_clashesBefore_52
    · refine qx_iconst (pc := 12) 0 dX3_clashesBefore_12 (by decide) ?_
      refine qx_istore (pc := 13) (lv' := [(6, .int 0), (0, .ref (a 5)), (1, .int x1), (2, .int x2), (3, .int x3), (4, .int x4), (5, .int x5)]) dX3_clashesBefore_13 (Nat.le_of_ble_eq_true rfl) rfl ?_
      exact qx_sub [1, 2, 3, 4, 5, 6, 0] rfl (qPl_clashesBefore_L15_ok ih qx_F _ _ _ h)
set_option maxHeartbeats 4000000 in
set_option maxRecDepth 100000 in
theorem qPl_clashesBefore_ok {σ : QS} {x1 : Int32} {x2 : Int32} {x3 : Int32} {r : Int32} (h : qPl_clashesBefore σ x1 x2 x3 = some r) : qx_E (qx_gC l D ci a z) 2 mX3_clashesBefore (some (.int r), σ) 0 [(0, .ref (a 5)), (1, .int x1), (2, .int x2), (3, .int x3)] [] σ := by
  unfold qPl_clashesBefore at h
  refine qx_iconst (pc := 0) 0 dX3_clashesBefore_0 (by decide) ?_
  refine qx_istore (pc := 1) (lv' := [(4, .int 0), (0, .ref (a 5)), (1, .int x1), (2, .int x2), (3, .int x3)]) dX3_clashesBefore_1 (Nat.le_of_ble_eq_true rfl) rfl ?_
  refine qx_iconst (pc := 3) 0 dX3_clashesBefore_3 (by decide) ?_
  refine qx_istore (pc := 4) (lv' := [(5, .int 0), (4, .int 0), (0, .ref (a 5)), (1, .int x1), (2, .int x2), (3, .int x3)]) dX3_clashesBefore_4 (Nat.le_of_ble_eq_true rfl) rfl ?_
  exact qx_sub [2, 3, 4, 5, 1, 0] rfl (qPl_clashesBefore_L6_ok qx_F _ _ _ h)
set_option maxHeartbeats 4000000 in
set_option maxRecDepth 100000 in
theorem qPl_clashesOf_ok {σ : QS} {x1 : Int32} {x2 : Int32} {r : Int32} (h : qPl_clashesOf σ x1 x2 = some r) : qx_E (qx_gC l D ci a z) 3 mX3_clashesOf (some (.int r), σ) 0 [(0, .ref (a 5)), (1, .int x1), (2, .int x2)] [] σ := by
  unfold qPl_clashesOf at h
  refine qx_aload_n (pc := 0) 0 dX3_clashesOf_0 rfl ?_
  refine qx_iload_n (pc := 1) 1 dX3_clashesOf_1 rfl ?_
  refine qx_iload_n (pc := 2) 2 dX3_clashesOf_2 rfl ?_
  obtain ⟨r1, hr1, h⟩ := qx_bindE h
  refine qx_callVi (pc := 3) 5 r1 σ [.int x1, .int x2] [] rfl rfl rfl qcm_X3_isPlace qcv_X3_isPlace qwm_X3_75 rfl (Nat.le_of_ble_eq_true rfl) (Nat.le_of_ble_eq_true rfl) (by decide) dX3_clashesOf_3 (qPl_isPlace_ok hr1) ?_
  refine qx_if_eq (pc := 6) 25 h dX3_clashesOf_6 (by decide) (fun h => ?_) (fun h => ?_)
  · refine qx_iconst (pc := 25) 0 dX3_clashesOf_25 (by decide) ?_
    exact qx_iret h rfl dX3_clashesOf_26
  · refine qx_aload_n (pc := 9) 0 dX3_clashesOf_9 rfl ?_
    refine qx_iload_n (pc := 10) 1 dX3_clashesOf_10 rfl ?_
    refine qx_iload_n (pc := 11) 2 dX3_clashesOf_11 rfl ?_
    refine qx_aload_n (pc := 12) 0 dX3_clashesOf_12 rfl ?_
    refine qgC5_0 (pc := 13) qwf_X3_9 dX3_clashesOf_13 ?_
    refine qgC1_0 (pc := 16) qwf_X3_36 dX3_clashesOf_16 ?_
    obtain ⟨r2, hr2, h⟩ := qx_bindE h
    refine qx_callVi (pc := 19) 5 r2 σ [.int x1, .int x2, .int (σ.1 1 0)] [] rfl rfl rfl qcm_X3_clashesBefore qcv_X3_clashesBefore qwm_X3_82 rfl (Nat.le_of_ble_eq_true rfl) (Nat.le_of_ble_eq_true rfl) (by decide) dX3_clashesOf_19 (qPl_clashesBefore_ok hr2) ?_
    refine qx_goto (pc := 22) 26 dX3_clashesOf_22 (by decide) ?_
    exact qx_iret h rfl dX3_clashesOf_26
end
