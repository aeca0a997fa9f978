section
variable {l : Launch} {D : va_G} {ci : Nat → ClassId} {a z : Nat → Nat}
theorem dX8_addPoint_0 : decode cX8_addPoint 0 = .ok (.iconst 0, 1) := by decide +kernel
theorem dX8_addPoint_1 : decode cX8_addPoint 1 = .ok (.iload_n 1, 1) := by decide +kernel
theorem dX8_addPoint_2 : decode cX8_addPoint 2 = .ok (.invokestatic 71, 3) := by decide +kernel
theorem dX8_addPoint_5 : decode cX8_addPoint 5 = .ok (.ifCond .eq 50, 3) := by decide +kernel
theorem dX8_addPoint_8 : decode cX8_addPoint 8 = .ok (.iconst 1, 1) := by decide +kernel
theorem dX8_addPoint_9 : decode cX8_addPoint 9 = .ok (.iload_n 2, 1) := by decide +kernel
theorem dX8_addPoint_10 : decode cX8_addPoint 10 = .ok (.invokestatic 71, 3) := by decide +kernel
theorem dX8_addPoint_13 : decode cX8_addPoint 13 = .ok (.ifCond .eq 42, 3) := by decide +kernel
theorem dX8_addPoint_16 : decode cX8_addPoint 16 = .ok (.iconst 2, 1) := by decide +kernel
theorem dX8_addPoint_17 : decode cX8_addPoint 17 = .ok (.iload_n 3, 1) := by decide +kernel
theorem dX8_addPoint_18 : decode cX8_addPoint 18 = .ok (.invokestatic 71, 3) := by decide +kernel
theorem dX8_addPoint_21 : decode cX8_addPoint 21 = .ok (.ifCond .eq 34, 3) := by decide +kernel
theorem dX8_addPoint_24 : decode cX8_addPoint 24 = .ok (.iconst 3, 1) := by decide +kernel
theorem dX8_addPoint_25 : decode cX8_addPoint 25 = .ok (.iload 4, 2) := by decide +kernel
theorem dX8_addPoint_27 : decode cX8_addPoint 27 = .ok (.invokestatic 71, 3) := by decide +kernel
theorem dX8_addPoint_30 : decode cX8_addPoint 30 = .ok (.ifCond .eq 25, 3) := by decide +kernel
theorem dX8_addPoint_33 : decode cX8_addPoint 33 = .ok (.iconst 4, 1) := by decide +kernel
theorem dX8_addPoint_34 : decode cX8_addPoint 34 = .ok (.iload 5, 2) := by decide +kernel
theorem dX8_addPoint_36 : decode cX8_addPoint 36 = .ok (.invokestatic 71, 3) := by decide +kernel
theorem dX8_addPoint_39 : decode cX8_addPoint 39 = .ok (.ifCond .eq 16, 3) := by decide +kernel
theorem dX8_addPoint_42 : decode cX8_addPoint 42 = .ok (.iconst 5, 1) := by decide +kernel
theorem dX8_addPoint_43 : decode cX8_addPoint 43 = .ok (.iload 6, 2) := by decide +kernel
theorem dX8_addPoint_45 : decode cX8_addPoint 45 = .ok (.invokestatic 71, 3) := by decide +kernel
theorem dX8_addPoint_48 : decode cX8_addPoint 48 = .ok (.ifCond .eq 7, 3) := by decide +kernel
theorem dX8_addPoint_51 : decode cX8_addPoint 51 = .ok (.iconst 1, 1) := by decide +kernel
theorem dX8_addPoint_52 : decode cX8_addPoint 52 = .ok (.goto 4, 3) := by decide +kernel
theorem dX8_addPoint_55 : decode cX8_addPoint 55 = .ok (.iconst 0, 1) := by decide +kernel
theorem dX8_addPoint_56 : decode cX8_addPoint 56 = .ok (.istore 7, 2) := by decide +kernel
theorem dX8_addPoint_58 : decode cX8_addPoint 58 = .ok (.iload 7, 2) := by decide +kernel
theorem dX8_addPoint_60 : decode cX8_addPoint 60 = .ok (.ifCond .ne 6, 3) := by decide +kernel
theorem dX8_addPoint_63 : decode cX8_addPoint 63 = .ok (.bipush (-2), 2) := by decide +kernel
theorem dX8_addPoint_65 : decode cX8_addPoint 65 = .ok (.ireturn, 1) := by decide +kernel
theorem dX8_addPoint_66 : decode cX8_addPoint 66 = .ok (.aload_n 0, 1) := by decide +kernel
theorem dX8_addPoint_67 : decode cX8_addPoint 67 = .ok (.getfield 12, 3) := by decide +kernel
theorem dX8_addPoint_70 : decode cX8_addPoint 70 = .ok (.iload_n 1, 1) := by decide +kernel
theorem dX8_addPoint_71 : decode cX8_addPoint 71 = .ok (.iload_n 2, 1) := by decide +kernel
theorem dX8_addPoint_72 : decode cX8_addPoint 72 = .ok (.invokevirtual 75, 3) := by decide +kernel
theorem dX8_addPoint_75 : decode cX8_addPoint 75 = .ok (.ifCond .eq 6, 3) := by decide +kernel
theorem dX8_addPoint_78 : decode cX8_addPoint 78 = .ok (.bipush (-3), 2) := by decide +kernel
theorem dX8_addPoint_80 : decode cX8_addPoint 80 = .ok (.ireturn, 1) := by decide +kernel
theorem dX8_addPoint_81 : decode cX8_addPoint 81 = .ok (.aload_n 0, 1) := by decide +kernel
theorem dX8_addPoint_82 : decode cX8_addPoint 82 = .ok (.getfield 12, 3) := by decide +kernel
theorem dX8_addPoint_85 : decode cX8_addPoint 85 = .ok (.getfield 78, 3) := by decide +kernel
theorem dX8_addPoint_88 : decode cX8_addPoint 88 = .ok (.bipush 20, 2) := by decide +kernel
theorem dX8_addPoint_90 : decode cX8_addPoint 90 = .ok (.if_icmp .lt 6, 3) := by decide +kernel
theorem dX8_addPoint_93 : decode cX8_addPoint 93 = .ok (.bipush (-4), 2) := by decide +kernel
theorem dX8_addPoint_95 : decode cX8_addPoint 95 = .ok (.ireturn, 1) := by decide +kernel
theorem dX8_addPoint_96 : decode cX8_addPoint 96 = .ok (.aload_n 0, 1) := by decide +kernel
theorem dX8_addPoint_97 : decode cX8_addPoint 97 = .ok (.getfield 12, 3) := by decide +kernel
theorem dX8_addPoint_100 : decode cX8_addPoint 100 = .ok (.iload_n 1, 1) := by decide +kernel
theorem dX8_addPoint_101 : decode cX8_addPoint 101 = .ok (.iload_n 2, 1) := by decide +kernel
theorem dX8_addPoint_102 : decode cX8_addPoint 102 = .ok (.invokevirtual 82, 3) := by decide +kernel
theorem dX8_addPoint_105 : decode cX8_addPoint 105 = .ok (.istore 8, 2) := by decide +kernel
theorem dX8_addPoint_107 : decode cX8_addPoint 107 = .ok (.aload_n 0, 1) := by decide +kernel
theorem dX8_addPoint_108 : decode cX8_addPoint 108 = .ok (.getfield 12, 3) := by decide +kernel
theorem dX8_addPoint_111 : decode cX8_addPoint 111 = .ok (.iload 8, 2) := by decide +kernel
theorem dX8_addPoint_113 : decode cX8_addPoint 113 = .ok (.iconst 2, 1) := by decide +kernel
theorem dX8_addPoint_114 : decode cX8_addPoint 114 = .ok (.iload_n 3, 1) := by decide +kernel
theorem dX8_addPoint_115 : decode cX8_addPoint 115 = .ok (.invokevirtual 86, 3) := by decide +kernel
theorem dX8_addPoint_118 : decode cX8_addPoint 118 = .ok (.aload_n 0, 1) := by decide +kernel
theorem dX8_addPoint_119 : decode cX8_addPoint 119 = .ok (.getfield 12, 3) := by decide +kernel
theorem dX8_addPoint_122 : decode cX8_addPoint 122 = .ok (.iload 8, 2) := by decide +kernel
theorem dX8_addPoint_124 : decode cX8_addPoint 124 = .ok (.iconst 3, 1) := by decide +kernel
theorem dX8_addPoint_125 : decode cX8_addPoint 125 = .ok (.iload 4, 2) := by decide +kernel
theorem dX8_addPoint_127 : decode cX8_addPoint 127 = .ok (.invokevirtual 86, 3) := by decide +kernel
theorem dX8_addPoint_130 : decode cX8_addPoint 130 = .ok (.aload_n 0, 1) := by decide +kernel
theorem dX8_addPoint_131 : decode cX8_addPoint 131 = .ok (.getfield 12, 3) := by decide +kernel
theorem dX8_addPoint_134 : decode cX8_addPoint 134 = .ok (.iload 8, 2) := by decide +kernel
theorem dX8_addPoint_136 : decode cX8_addPoint 136 = .ok (.iconst 4, 1) := by decide +kernel
theorem dX8_addPoint_137 : decode cX8_addPoint 137 = .ok (.iload 5, 2) := by decide +kernel
theorem dX8_addPoint_139 : decode cX8_addPoint 139 = .ok (.invokevirtual 86, 3) := by decide +kernel
theorem dX8_addPoint_142 : decode cX8_addPoint 142 = .ok (.aload_n 0, 1) := by decide +kernel
theorem dX8_addPoint_143 : decode cX8_addPoint 143 = .ok (.getfield 12, 3) := by decide +kernel
theorem dX8_addPoint_146 : decode cX8_addPoint 146 = .ok (.iload 8, 2) := by decide +kernel
theorem dX8_addPoint_148 : decode cX8_addPoint 148 = .ok (.iconst 5, 1) := by decide +kernel
theorem dX8_addPoint_149 : decode cX8_addPoint 149 = .ok (.iload 6, 2) := by decide +kernel
theorem dX8_addPoint_151 : decode cX8_addPoint 151 = .ok (.invokevirtual 86, 3) := by decide +kernel
theorem dX8_addPoint_154 : decode cX8_addPoint 154 = .ok (.aload_n 0, 1) := by decide +kernel
theorem dX8_addPoint_155 : decode cX8_addPoint 155 = .ok (.getfield 37, 3) := by decide +kernel
theorem dX8_addPoint_158 : decode cX8_addPoint 158 = .ok (.iload 8, 2) := by decide +kernel
theorem dX8_addPoint_160 : decode cX8_addPoint 160 = .ok (.invokevirtual 90, 3) := by decide +kernel
theorem dX8_addPoint_163 : decode cX8_addPoint 163 = .ok (.aload_n 0, 1) := by decide +kernel
theorem dX8_addPoint_164 : decode cX8_addPoint 164 = .ok (.invokevirtual 94, 3) := by decide +kernel
theorem dX8_addPoint_167 : decode cX8_addPoint 167 = .ok (.pop, 1) := by decide +kernel
theorem dX8_addPoint_168 : decode cX8_addPoint 168 = .ok (.iload 8, 2) := by decide +kernel
theorem dX8_addPoint_170 : decode cX8_addPoint 170 = .ok (.ireturn, 1) := by decide +kernel
theorem dX8_removePoint_0 : decode cX8_removePoint 0 = .ok (.aload_n 0, 1) := by decide +kernel
theorem dX8_removePoint_1 : decode cX8_removePoint 1 = .ok (.getfield 12, 3) := by decide +kernel
theorem dX8_removePoint_4 : decode cX8_removePoint 4 = .ok (.iload_n 1, 1) := by decide +kernel
theorem dX8_removePoint_5 : decode cX8_removePoint 5 = .ok (.invokevirtual 98, 3) := by decide +kernel
theorem dX8_removePoint_8 : decode cX8_removePoint 8 = .ok (.ifCond .ne 6, 3) := by decide +kernel
theorem dX8_removePoint_11 : decode cX8_removePoint 11 = .ok (.bipush (-2), 2) := by decide +kernel
theorem dX8_removePoint_13 : decode cX8_removePoint 13 = .ok (.ireturn, 1) := by decide +kernel
theorem dX8_removePoint_14 : decode cX8_removePoint 14 = .ok (.aload_n 0, 1) := by decide +kernel
theorem dX8_removePoint_15 : decode cX8_removePoint 15 = .ok (.getfield 37, 3) := by decide +kernel
theorem dX8_removePoint_18 : decode cX8_removePoint 18 = .ok (.iload_n 1, 1) := by decide +kernel
theorem dX8_removePoint_19 : decode cX8_removePoint 19 = .ok (.invokevirtual 102, 3) := by decide +kernel
theorem dX8_removePoint_22 : decode cX8_removePoint 22 = .ok (.aload_n 0, 1) := by decide +kernel
theorem dX8_removePoint_23 : decode cX8_removePoint 23 = .ok (.getfield 12, 3) := by decide +kernel
theorem dX8_removePoint_26 : decode cX8_removePoint 26 = .ok (.iload_n 1, 1) := by decide +kernel
theorem dX8_removePoint_27 : decode cX8_removePoint 27 = .ok (.invokevirtual 105, 3) := by decide +kernel
theorem dX8_removePoint_30 : decode cX8_removePoint 30 = .ok (.aload_n 0, 1) := by decide +kernel
theorem dX8_removePoint_31 : decode cX8_removePoint 31 = .ok (.invokevirtual 94, 3) := by decide +kernel
theorem dX8_removePoint_34 : decode cX8_removePoint 34 = .ok (.pop, 1) := by decide +kernel
theorem dX8_removePoint_35 : decode cX8_removePoint 35 = .ok (.aload_n 0, 1) := by decide +kernel
theorem dX8_removePoint_36 : decode cX8_removePoint 36 = .ok (.getfield 12, 3) := by decide +kernel
theorem dX8_removePoint_39 : decode cX8_removePoint 39 = .ok (.getfield 78, 3) := by decide +kernel
theorem dX8_removePoint_42 : decode cX8_removePoint 42 = .ok (.ireturn, 1) := by decide +kernel
theorem dX8_setPoint_0 : decode cX8_setPoint 0 = .ok (.iload_n 2, 1) := by decide +kernel
theorem dX8_setPoint_1 : decode cX8_setPoint 1 = .ok (.iconst 2, 1) := by decide +kernel
theorem dX8_setPoint_2 : decode cX8_setPoint 2 = .ok (.if_icmp .lt 12, 3) := by decide +kernel
theorem dX8_setPoint_5 : decode cX8_setPoint 5 = .ok (.iload_n 2, 1) := by decide +kernel
theorem dX8_setPoint_6 : decode cX8_setPoint 6 = .ok (.iconst 5, 1) := by decide +kernel
theorem dX8_setPoint_7 : decode cX8_setPoint 7 = .ok (.if_icmp .gt 7, 3) := by decide +kernel
theorem dX8_setPoint_10 : decode cX8_setPoint 10 = .ok (.iconst 1, 1) := by decide +kernel
theorem dX8_setPoint_11 : decode cX8_setPoint 11 = .ok (.goto 4, 3) := by decide +kernel
theorem dX8_setPoint_14 : decode cX8_setPoint 14 = .ok (.iconst 0, 1) := by decide +kernel
theorem dX8_setPoint_15 : decode cX8_setPoint 15 = .ok (.istore 4, 2) := by decide +kernel
theorem dX8_setPoint_17 : decode cX8_setPoint 17 = .ok (.aload_n 0, 1) := by decide +kernel
theorem dX8_setPoint_18 : decode cX8_setPoint 18 = .ok (.getfield 12, 3) := by decide +kernel
theorem dX8_setPoint_21 : decode cX8_setPoint 21 = .ok (.iload_n 1, 1) := by decide +kernel
theorem dX8_setPoint_22 : decode cX8_setPoint 22 = .ok (.invokevirtual 98, 3) := by decide +kernel
theorem dX8_setPoint_25 : decode cX8_setPoint 25 = .ok (.ifCond .eq 16, 3) := by decide +kernel
theorem dX8_setPoint_28 : decode cX8_setPoint 28 = .ok (.iload 4, 2) := by decide +kernel
theorem dX8_setPoint_30 : decode cX8_setPoint 30 = .ok (.ifCond .eq 11, 3) := by decide +kernel
theorem dX8_setPoint_33 : decode cX8_setPoint 33 = .ok (.iload_n 2, 1) := by decide +kernel
theorem dX8_setPoint_34 : decode cX8_setPoint 34 = .ok (.iload_n 3, 1) := by decide +kernel
theorem dX8_setPoint_35 : decode cX8_setPoint 35 = .ok (.invokestatic 71, 3) := by decide +kernel
theorem dX8_setPoint_38 : decode cX8_setPoint 38 = .ok (.ifCond .ne 6, 3) := by decide +kernel
theorem dX8_setPoint_41 : decode cX8_setPoint 41 = .ok (.bipush (-2), 2) := by decide +kernel
theorem dX8_setPoint_43 : decode cX8_setPoint 43 = .ok (.ireturn, 1) := by decide +kernel
theorem dX8_setPoint_44 : decode cX8_setPoint 44 = .ok (.aload_n 0, 1) := by decide +kernel
theorem dX8_setPoint_45 : decode cX8_setPoint 45 = .ok (.getfield 12, 3) := by decide +kernel
theorem dX8_setPoint_48 : decode cX8_setPoint 48 = .ok (.iload_n 1, 1) := by decide +kernel
theorem dX8_setPoint_49 : decode cX8_setPoint 49 = .ok (.iload_n 2, 1) := by decide +kernel
theorem dX8_setPoint_50 : decode cX8_setPoint 50 = .ok (.invokevirtual 106, 3) := by decide +kernel
theorem dX8_setPoint_53 : decode cX8_setPoint 53 = .ok (.istore 5, 2) := by decide +kernel
theorem dX8_setPoint_55 : decode cX8_setPoint 55 = .ok (.aload_n 0, 1) := by decide +kernel
theorem dX8_setPoint_56 : decode cX8_setPoint 56 = .ok (.getfield 12, 3) := by decide +kernel
theorem dX8_setPoint_59 : decode cX8_setPoint 59 = .ok (.iload_n 1, 1) := by decide +kernel
theorem dX8_setPoint_60 : decode cX8_setPoint 60 = .ok (.iload_n 2, 1) := by decide +kernel
theorem dX8_setPoint_61 : decode cX8_setPoint 61 = .ok (.iload_n 3, 1) := by decide +kernel
theorem dX8_setPoint_62 : decode cX8_setPoint 62 = .ok (.invokevirtual 86, 3) := by decide +kernel
theorem dX8_setPoint_65 : decode cX8_setPoint 65 = .ok (.aload_n 0, 1) := by decide +kernel
theorem dX8_setPoint_66 : decode cX8_setPoint 66 = .ok (.invokevirtual 94, 3) := by decide +kernel
theorem dX8_setPoint_69 : decode cX8_setPoint 69 = .ok (.pop, 1) := by decide +kernel
theorem dX8_setPoint_70 : decode cX8_setPoint 70 = .ok (.aload_n 0, 1) := by decide +kernel
theorem dX8_setPoint_71 : decode cX8_setPoint 71 = .ok (.getfield 37, 3) := by decide +kernel
theorem dX8_setPoint_74 : decode cX8_setPoint 74 = .ok (.iload_n 1, 1) := by decide +kernel
theorem dX8_setPoint_75 : decode cX8_setPoint 75 = .ok (.invokevirtual 109, 3) := by decide +kernel
theorem dX8_setPoint_78 : decode cX8_setPoint 78 = .ok (.iload 5, 2) := by decide +kernel
theorem dX8_setPoint_80 : decode cX8_setPoint 80 = .ok (.ireturn, 1) := by decide +kernel
theorem dX8_point_0 : decode cX8_point 0 = .ok (.aload_n 0, 1) := by decide +kernel
theorem dX8_point_1 : decode cX8_point 1 = .ok (.getfield 12, 3) := by decide +kernel
theorem dX8_point_4 : decode cX8_point 4 = .ok (.iload_n 1, 1) := by decide +kernel
theorem dX8_point_5 : decode cX8_point 5 = .ok (.invokevirtual 98, 3) := by decide +kernel
theorem dX8_point_8 : decode cX8_point 8 = .ok (.ifCond .ne 6, 3) := by decide +kernel
theorem dX8_point_11 : decode cX8_point 11 = .ok (.bipush (-2), 2) := by decide +kernel
theorem dX8_point_13 : decode cX8_point 13 = .ok (.ireturn, 1) := by decide +kernel
theorem dX8_point_14 : decode cX8_point 14 = .ok (.iload_n 2, 1) := by decide +kernel
theorem dX8_point_15 : decode cX8_point 15 = .ok (.tableswitch 94 0 8 #[49, 49, 49, 49, 49, 49, 59, 76, 85], 49) := by decide +kernel
theorem dX8_point_64 : decode cX8_point 64 = .ok (.aload_n 0, 1) := by decide +kernel
theorem dX8_point_65 : decode cX8_point 65 = .ok (.getfield 12, 3) := by decide +kernel
theorem dX8_point_68 : decode cX8_point 68 = .ok (.iload_n 1, 1) := by decide +kernel
theorem dX8_point_69 : decode cX8_point 69 = .ok (.iload_n 2, 1) := by decide +kernel
theorem dX8_point_70 : decode cX8_point 70 = .ok (.invokevirtual 106, 3) := by decide +kernel
theorem dX8_point_73 : decode cX8_point 73 = .ok (.ireturn, 1) := by decide +kernel
theorem dX8_point_74 : decode cX8_point 74 = .ok (.aload_n 0, 1) := by decide +kernel
theorem dX8_point_75 : decode cX8_point 75 = .ok (.getfield 28, 3) := by decide +kernel
theorem dX8_point_78 : decode cX8_point 78 = .ok (.iload_n 1, 1) := by decide +kernel
theorem dX8_point_79 : decode cX8_point 79 = .ok (.invokevirtual 112, 3) := by decide +kernel
theorem dX8_point_82 : decode cX8_point 82 = .ok (.ifCond .eq 7, 3) := by decide +kernel
theorem dX8_point_85 : decode cX8_point 85 = .ok (.iconst 1, 1) := by decide +kernel
theorem dX8_point_86 : decode cX8_point 86 = .ok (.goto 4, 3) := by decide +kernel
theorem dX8_point_89 : decode cX8_point 89 = .ok (.iconst 0, 1) := by decide +kernel
theorem dX8_point_90 : decode cX8_point 90 = .ok (.ireturn, 1) := by decide +kernel
theorem dX8_point_91 : decode cX8_point 91 = .ok (.aload_n 0, 1) := by decide +kernel
theorem dX8_point_92 : decode cX8_point 92 = .ok (.getfield 37, 3) := by decide +kernel
theorem dX8_point_95 : decode cX8_point 95 = .ok (.iload_n 1, 1) := by decide +kernel
theorem dX8_point_96 : decode cX8_point 96 = .ok (.invokevirtual 115, 3) := by decide +kernel
theorem dX8_point_99 : decode cX8_point 99 = .ok (.ireturn, 1) := by decide +kernel
theorem dX8_point_100 : decode cX8_point 100 = .ok (.aload_n 0, 1) := by decide +kernel
theorem dX8_point_101 : decode cX8_point 101 = .ok (.getfield 28, 3) := by decide +kernel
theorem dX8_point_104 : decode cX8_point 104 = .ok (.iload_n 1, 1) := by decide +kernel
theorem dX8_point_105 : decode cX8_point 105 = .ok (.invokevirtual 119, 3) := by decide +kernel
theorem dX8_point_108 : decode cX8_point 108 = .ok (.ireturn, 1) := by decide +kernel
theorem dX8_point_109 : decode cX8_point 109 = .ok (.bipush (-2), 2) := by decide +kernel
theorem dX8_point_111 : decode cX8_point 111 = .ok (.ireturn, 1) := by decide +kernel
theorem dX8_setWindow_0 : decode cX8_setWindow 0 = .ok (.iload_n 1, 1) := by decide +kernel
theorem dX8_setWindow_1 : decode cX8_setWindow 1 = .ok (.i2l, 1) := by decide +kernel
theorem dX8_setWindow_2 : decode cX8_setWindow 2 = .ok (.iload_n 2, 1) := by decide +kernel
theorem dX8_setWindow_3 : decode cX8_setWindow 3 = .ok (.i2l, 1) := by decide +kernel
theorem dX8_setWindow_4 : decode cX8_setWindow 4 = .ok (.iload_n 3, 1) := by decide +kernel
theorem dX8_setWindow_5 : decode cX8_setWindow 5 = .ok (.iload 4, 2) := by decide +kernel
theorem dX8_setWindow_7 : decode cX8_setWindow 7 = .ok (.invokestatic 122, 3) := by decide +kernel
theorem dX8_setWindow_10 : decode cX8_setWindow 10 = .ok (.ifCond .ne 6, 3) := by decide +kernel
theorem dX8_setWindow_13 : decode cX8_setWindow 13 = .ok (.bipush (-2), 2) := by decide +kernel
theorem dX8_setWindow_15 : decode cX8_setWindow 15 = .ok (.ireturn, 1) := by decide +kernel
theorem dX8_setWindow_16 : decode cX8_setWindow 16 = .ok (.aload_n 0, 1) := by decide +kernel
theorem dX8_setWindow_17 : decode cX8_setWindow 17 = .ok (.getfield 19, 3) := by decide +kernel
theorem dX8_setWindow_20 : decode cX8_setWindow 20 = .ok (.iload_n 1, 1) := by decide +kernel
theorem dX8_setWindow_21 : decode cX8_setWindow 21 = .ok (.iload_n 2, 1) := by decide +kernel
theorem dX8_setWindow_22 : decode cX8_setWindow 22 = .ok (.iload_n 3, 1) := by decide +kernel
theorem dX8_setWindow_23 : decode cX8_setWindow 23 = .ok (.iload 4, 2) := by decide +kernel
theorem dX8_setWindow_25 : decode cX8_setWindow 25 = .ok (.invokevirtual 125, 3) := by decide +kernel
theorem dX8_setWindow_28 : decode cX8_setWindow 28 = .ok (.aload_n 0, 1) := by decide +kernel
theorem dX8_setWindow_29 : decode cX8_setWindow 29 = .ok (.invokevirtual 94, 3) := by decide +kernel
theorem dX8_setWindow_32 : decode cX8_setWindow 32 = .ok (.pop, 1) := by decide +kernel
theorem dX8_setWindow_33 : decode cX8_setWindow 33 = .ok (.aload_n 0, 1) := by decide +kernel
theorem dX8_setWindow_34 : decode cX8_setWindow 34 = .ok (.getfield 28, 3) := by decide +kernel
theorem dX8_setWindow_37 : decode cX8_setWindow 37 = .ok (.invokevirtual 128, 3) := by decide +kernel
theorem dX8_setWindow_40 : decode cX8_setWindow 40 = .ok (.ireturn, 1) := by decide +kernel
theorem dX8_pan_0 : decode cX8_pan 0 = .ok (.aload_n 0, 1) := by decide +kernel
theorem dX8_pan_1 : decode cX8_pan 1 = .ok (.getfield 19, 3) := by decide +kernel
theorem dX8_pan_4 : decode cX8_pan 4 = .ok (.getfield 131, 3) := by decide +kernel
theorem dX8_pan_7 : decode cX8_pan 7 = .ok (.i2l, 1) := by decide +kernel
theorem dX8_pan_8 : decode cX8_pan 8 = .ok (.iload_n 1, 1) := by decide +kernel
theorem dX8_pan_9 : decode cX8_pan 9 = .ok (.i2l, 1) := by decide +kernel
theorem dX8_pan_10 : decode cX8_pan 10 = .ok (.ladd, 1) := by decide +kernel
theorem dX8_pan_11 : decode cX8_pan 11 = .ok (.lstore_n 3, 1) := by decide +kernel
theorem dX8_pan_12 : decode cX8_pan 12 = .ok (.aload_n 0, 1) := by decide +kernel
theorem dX8_pan_13 : decode cX8_pan 13 = .ok (.getfield 19, 3) := by decide +kernel
theorem dX8_pan_16 : decode cX8_pan 16 = .ok (.getfield 134, 3) := by decide +kernel
theorem dX8_pan_19 : decode cX8_pan 19 = .ok (.i2l, 1) := by decide +kernel
theorem dX8_pan_20 : decode cX8_pan 20 = .ok (.iload_n 2, 1) := by decide +kernel
theorem dX8_pan_21 : decode cX8_pan 21 = .ok (.i2l, 1) := by decide +kernel
theorem dX8_pan_22 : decode cX8_pan 22 = .ok (.ladd, 1) := by decide +kernel
theorem dX8_pan_23 : decode cX8_pan 23 = .ok (.lstore 5, 2) := by decide +kernel
theorem dX8_pan_25 : decode cX8_pan 25 = .ok (.lload_n 3, 1) := by decide +kernel
theorem dX8_pan_26 : decode cX8_pan 26 = .ok (.lload 5, 2) := by decide +kernel
theorem dX8_pan_28 : decode cX8_pan 28 = .ok (.aload_n 0, 1) := by decide +kernel
theorem dX8_pan_29 : decode cX8_pan 29 = .ok (.getfield 19, 3) := by decide +kernel
theorem dX8_pan_32 : decode cX8_pan 32 = .ok (.getfield 137, 3) := by decide +kernel
theorem dX8_pan_35 : decode cX8_pan 35 = .ok (.aload_n 0, 1) := by decide +kernel
theorem dX8_pan_36 : decode cX8_pan 36 = .ok (.getfield 19, 3) := by decide +kernel
theorem dX8_pan_39 : decode cX8_pan 39 = .ok (.getfield 140, 3) := by decide +kernel
theorem dX8_pan_42 : decode cX8_pan 42 = .ok (.invokestatic 122, 3) := by decide +kernel
theorem dX8_pan_45 : decode cX8_pan 45 = .ok (.ifCond .ne 6, 3) := by decide +kernel
theorem dX8_pan_48 : decode cX8_pan 48 = .ok (.bipush (-2), 2) := by decide +kernel
theorem dX8_pan_50 : decode cX8_pan 50 = .ok (.ireturn, 1) := by decide +kernel
theorem dX8_pan_51 : decode cX8_pan 51 = .ok (.aload_n 0, 1) := by decide +kernel
theorem dX8_pan_52 : decode cX8_pan 52 = .ok (.getfield 19, 3) := by decide +kernel
theorem dX8_pan_55 : decode cX8_pan 55 = .ok (.lload_n 3, 1) := by decide +kernel
theorem dX8_pan_56 : decode cX8_pan 56 = .ok (.l2i, 1) := by decide +kernel
theorem dX8_pan_57 : decode cX8_pan 57 = .ok (.lload 5, 2) := by decide +kernel
theorem dX8_pan_59 : decode cX8_pan 59 = .ok (.l2i, 1) := by decide +kernel
theorem dX8_pan_60 : decode cX8_pan 60 = .ok (.aload_n 0, 1) := by decide +kernel
theorem dX8_pan_61 : decode cX8_pan 61 = .ok (.getfield 19, 3) := by decide +kernel
theorem dX8_pan_64 : decode cX8_pan 64 = .ok (.getfield 137, 3) := by decide +kernel
theorem dX8_pan_67 : decode cX8_pan 67 = .ok (.aload_n 0, 1) := by decide +kernel
theorem dX8_pan_68 : decode cX8_pan 68 = .ok (.getfield 19, 3) := by decide +kernel
theorem dX8_pan_71 : decode cX8_pan 71 = .ok (.getfield 140, 3) := by decide +kernel
theorem dX8_pan_74 : decode cX8_pan 74 = .ok (.invokevirtual 125, 3) := by decide +kernel
theorem dX8_pan_77 : decode cX8_pan 77 = .ok (.aload_n 0, 1) := by decide +kernel
theorem dX8_pan_78 : decode cX8_pan 78 = .ok (.invokevirtual 94, 3) := by decide +kernel
theorem dX8_pan_81 : decode cX8_pan 81 = .ok (.istore 7, 2) := by decide +kernel
theorem dX8_pan_83 : decode cX8_pan 83 = .ok (.aload_n 0, 1) := by decide +kernel
theorem dX8_pan_84 : decode cX8_pan 84 = .ok (.getfield 37, 3) := by decide +kernel
theorem dX8_pan_87 : decode cX8_pan 87 = .ok (.invokevirtual 143, 3) := by decide +kernel
theorem dX8_pan_90 : decode cX8_pan 90 = .ok (.pop, 1) := by decide +kernel
theorem dX8_pan_91 : decode cX8_pan 91 = .ok (.iload 7, 2) := by decide +kernel
theorem dX8_pan_93 : decode cX8_pan 93 = .ok (.ireturn, 1) := by decide +kernel
theorem dX8_isSide_0 : decode cX8_isSide 0 = .ok (.iload_n 0, 1) := by decide +kernel
theorem dX8_isSide_1 : decode cX8_isSide 1 = .ok (.ifCond .lt 13, 3) := by decide +kernel
theorem dX8_isSide_4 : decode cX8_isSide 4 = .ok (.iload_n 0, 1) := by decide +kernel
theorem dX8_isSide_5 : decode cX8_isSide 5 = .ok (.bipush 8, 2) := by decide +kernel
theorem dX8_isSide_7 : decode cX8_isSide 7 = .ok (.if_icmp .ge 7, 3) := by decide +kernel
theorem dX8_isSide_10 : decode cX8_isSide 10 = .ok (.iconst 1, 1) := by decide +kernel
theorem dX8_isSide_11 : decode cX8_isSide 11 = .ok (.goto 4, 3) := by decide +kernel
theorem dX8_isSide_14 : decode cX8_isSide 14 = .ok (.iconst 0, 1) := by decide +kernel
theorem dX8_isSide_15 : decode cX8_isSide 15 = .ok (.ireturn, 1) := by decide +kernel
theorem dX8_place_0 : decode cX8_place 0 = .ok (.aload_n 0, 1) := by decide +kernel
theorem dX8_place_1 : decode cX8_place 1 = .ok (.getfield 12, 3) := by decide +kernel
theorem dX8_place_4 : decode cX8_place 4 = .ok (.iload_n 1, 1) := by decide +kernel
theorem dX8_place_5 : decode cX8_place 5 = .ok (.invokevirtual 98, 3) := by decide +kernel
theorem dX8_place_8 : decode cX8_place 8 = .ok (.ifCond .eq 10, 3) := by decide +kernel
theorem dX8_place_11 : decode cX8_place 11 = .ok (.iload_n 2, 1) := by decide +kernel
theorem dX8_place_12 : decode cX8_place 12 = .ok (.invokestatic 155, 3) := by decide +kernel
theorem dX8_place_15 : decode cX8_place 15 = .ok (.ifCond .ne 6, 3) := by decide +kernel
theorem dX8_place_18 : decode cX8_place 18 = .ok (.bipush (-2), 2) := by decide +kernel
theorem dX8_place_20 : decode cX8_place 20 = .ok (.ireturn, 1) := by decide +kernel
theorem dX8_place_21 : decode cX8_place 21 = .ok (.iload_n 3, 1) := by decide +kernel
theorem dX8_place_22 : decode cX8_place 22 = .ok (.tableswitch 92 0 4 #[34, 52, 62, 72, 82], 34) := by decide +kernel
theorem dX8_place_56 : decode cX8_place 56 = .ok (.aload_n 0, 1) := by decide +kernel
theorem dX8_place_57 : decode cX8_place 57 = .ok (.getfield 28, 3) := by decide +kernel
theorem dX8_place_60 : decode cX8_place 60 = .ok (.iload_n 1, 1) := by decide +kernel
theorem dX8_place_61 : decode cX8_place 61 = .ok (.iload_n 2, 1) := by decide +kernel
theorem dX8_place_62 : decode cX8_place 62 = .ok (.invokevirtual 158, 3) := by decide +kernel
theorem dX8_place_65 : decode cX8_place 65 = .ok (.ifCond .eq 7, 3) := by decide +kernel
theorem dX8_place_68 : decode cX8_place 68 = .ok (.iconst 1, 1) := by decide +kernel
theorem dX8_place_69 : decode cX8_place 69 = .ok (.goto 4, 3) := by decide +kernel
theorem dX8_place_72 : decode cX8_place 72 = .ok (.iconst 0, 1) := by decide +kernel
theorem dX8_place_73 : decode cX8_place 73 = .ok (.ireturn, 1) := by decide +kernel
theorem dX8_place_74 : decode cX8_place 74 = .ok (.aload_n 0, 1) := by decide +kernel
theorem dX8_place_75 : decode cX8_place 75 = .ok (.getfield 28, 3) := by decide +kernel
theorem dX8_place_78 : decode cX8_place 78 = .ok (.iload_n 1, 1) := by decide +kernel
theorem dX8_place_79 : decode cX8_place 79 = .ok (.iload_n 2, 1) := by decide +kernel
theorem dX8_place_80 : decode cX8_place 80 = .ok (.invokevirtual 161, 3) := by decide +kernel
theorem dX8_place_83 : decode cX8_place 83 = .ok (.ireturn, 1) := by decide +kernel
theorem dX8_place_84 : decode cX8_place 84 = .ok (.aload_n 0, 1) := by decide +kernel
theorem dX8_place_85 : decode cX8_place 85 = .ok (.getfield 28, 3) := by decide +kernel
theorem dX8_place_88 : decode cX8_place 88 = .ok (.iload_n 1, 1) := by decide +kernel
theorem dX8_place_89 : decode cX8_place 89 = .ok (.iload_n 2, 1) := by decide +kernel
theorem dX8_place_90 : decode cX8_place 90 = .ok (.invokevirtual 164, 3) := by decide +kernel
theorem dX8_place_93 : decode cX8_place 93 = .ok (.ireturn, 1) := by decide +kernel
theorem dX8_place_94 : decode cX8_place 94 = .ok (.aload_n 0, 1) := by decide +kernel
theorem dX8_place_95 : decode cX8_place 95 = .ok (.getfield 28, 3) := by decide +kernel
theorem dX8_place_98 : decode cX8_place 98 = .ok (.iload_n 1, 1) := by decide +kernel
theorem dX8_place_99 : decode cX8_place 99 = .ok (.iload_n 2, 1) := by decide +kernel
theorem dX8_place_100 : decode cX8_place 100 = .ok (.invokevirtual 167, 3) := by decide +kernel
theorem dX8_place_103 : decode cX8_place 103 = .ok (.ireturn, 1) := by decide +kernel
theorem dX8_place_104 : decode cX8_place 104 = .ok (.aload_n 0, 1) := by decide +kernel
theorem dX8_place_105 : decode cX8_place 105 = .ok (.getfield 37, 3) := by decide +kernel
theorem dX8_place_108 : decode cX8_place 108 = .ok (.iload_n 1, 1) := by decide +kernel
theorem dX8_place_109 : decode cX8_place 109 = .ok (.iload_n 2, 1) := by decide +kernel
theorem dX8_place_110 : decode cX8_place 110 = .ok (.invokevirtual 170, 3) := by decide +kernel
theorem dX8_place_113 : decode cX8_place 113 = .ok (.ireturn, 1) := by decide +kernel
theorem dX8_place_114 : decode cX8_place 114 = .ok (.bipush (-2), 2) := by decide +kernel
theorem dX8_place_116 : decode cX8_place 116 = .ok (.ireturn, 1) := by decide +kernel
theorem dX8_clash_0 : decode cX8_clash 0 = .ok (.aload_n 0, 1) := by decide +kernel
theorem dX8_clash_1 : decode cX8_clash 1 = .ok (.getfield 12, 3) := by decide +kernel
theorem dX8_clash_4 : decode cX8_clash 4 = .ok (.iload_n 1, 1) := by decide +kernel
theorem dX8_clash_5 : decode cX8_clash 5 = .ok (.invokevirtual 98, 3) := by decide +kernel
theorem dX8_clash_8 : decode cX8_clash 8 = .ok (.ifCond .eq 33, 3) := by decide +kernel
theorem dX8_clash_11 : decode cX8_clash 11 = .ok (.iload_n 2, 1) := by decide +kernel
theorem dX8_clash_12 : decode cX8_clash 12 = .ok (.invokestatic 155, 3) := by decide +kernel
theorem dX8_clash_15 : decode cX8_clash 15 = .ok (.ifCond .eq 26, 3) := by decide +kernel
theorem dX8_clash_18 : decode cX8_clash 18 = .ok (.aload_n 0, 1) := by decide +kernel
theorem dX8_clash_19 : decode cX8_clash 19 = .ok (.getfield 12, 3) := by decide +kernel
theorem dX8_clash_22 : decode cX8_clash 22 = .ok (.iload_n 3, 1) := by decide +kernel
theorem dX8_clash_23 : decode cX8_clash 23 = .ok (.invokevirtual 98, 3) := by decide +kernel
theorem dX8_clash_26 : decode cX8_clash 26 = .ok (.ifCond .eq 15, 3) := by decide +kernel
theorem dX8_clash_29 : decode cX8_clash 29 = .ok (.iload 4, 2) := by decide +kernel
theorem dX8_clash_31 : decode cX8_clash 31 = .ok (.invokestatic 155, 3) := by decide +kernel
theorem dX8_clash_34 : decode cX8_clash 34 = .ok (.ifCond .eq 7, 3) := by decide +kernel
theorem dX8_clash_37 : decode cX8_clash 37 = .ok (.iconst 1, 1) := by decide +kernel
theorem dX8_clash_38 : decode cX8_clash 38 = .ok (.goto 4, 3) := by decide +kernel
theorem dX8_clash_41 : decode cX8_clash 41 = .ok (.iconst 0, 1) := by decide +kernel
theorem dX8_clash_42 : decode cX8_clash 42 = .ok (.istore 5, 2) := by decide +kernel
theorem dX8_clash_44 : decode cX8_clash 44 = .ok (.iload 5, 2) := by decide +kernel
theorem dX8_clash_46 : decode cX8_clash 46 = .ok (.ifCond .eq 8, 3) := by decide +kernel
theorem dX8_clash_49 : decode cX8_clash 49 = .ok (.iload_n 1, 1) := by decide +kernel
theorem dX8_clash_50 : decode cX8_clash 50 = .ok (.iload_n 3, 1) := by decide +kernel
theorem dX8_clash_51 : decode cX8_clash 51 = .ok (.if_icmp .ne 6, 3) := by decide +kernel
theorem dX8_clash_54 : decode cX8_clash 54 = .ok (.bipush (-2), 2) := by decide +kernel
theorem dX8_clash_56 : decode cX8_clash 56 = .ok (.ireturn, 1) := by decide +kernel
theorem dX8_clash_57 : decode cX8_clash 57 = .ok (.aload_n 0, 1) := by decide +kernel
theorem dX8_clash_58 : decode cX8_clash 58 = .ok (.getfield 28, 3) := by decide +kernel
theorem dX8_clash_61 : decode cX8_clash 61 = .ok (.iload_n 1, 1) := by decide +kernel
theorem dX8_clash_62 : decode cX8_clash 62 = .ok (.iload_n 2, 1) := by decide +kernel
theorem dX8_clash_63 : decode cX8_clash 63 = .ok (.invokevirtual 158, 3) := by decide +kernel
theorem dX8_clash_66 : decode cX8_clash 66 = .ok (.ifCond .eq 16, 3) := by decide +kernel
theorem dX8_clash_69 : decode cX8_clash 69 = .ok (.aload_n 0, 1) := by decide +kernel
theorem dX8_clash_70 : decode cX8_clash 70 = .ok (.getfield 28, 3) := by decide +kernel
theorem dX8_clash_73 : decode cX8_clash 73 = .ok (.iload_n 3, 1) := by decide +kernel
theorem dX8_clash_74 : decode cX8_clash 74 = .ok (.iload 4, 2) := by decide +kernel
theorem dX8_clash_76 : decode cX8_clash 76 = .ok (.invokevirtual 158, 3) := by decide +kernel
theorem dX8_clash_79 : decode cX8_clash 79 = .ok (.ifCond .ne 6, 3) := by decide +kernel
theorem dX8_clash_82 : decode cX8_clash 82 = .ok (.bipush (-3), 2) := by decide +kernel
theorem dX8_clash_84 : decode cX8_clash 84 = .ok (.ireturn, 1) := by decide +kernel
theorem dX8_clash_85 : decode cX8_clash 85 = .ok (.aload_n 0, 1) := by decide +kernel
theorem dX8_clash_86 : decode cX8_clash 86 = .ok (.getfield 28, 3) := by decide +kernel
theorem dX8_clash_89 : decode cX8_clash 89 = .ok (.iload_n 1, 1) := by decide +kernel
theorem dX8_clash_90 : decode cX8_clash 90 = .ok (.iload_n 2, 1) := by decide +kernel
theorem dX8_clash_91 : decode cX8_clash 91 = .ok (.iload_n 3, 1) := by decide +kernel
theorem dX8_clash_92 : decode cX8_clash 92 = .ok (.iload 4, 2) := by decide +kernel
theorem dX8_clash_94 : decode cX8_clash 94 = .ok (.invokevirtual 173, 3) := by decide +kernel
theorem dX8_clash_97 : decode cX8_clash 97 = .ok (.ifCond .eq 7, 3) := by decide +kernel
theorem dX8_clash_100 : decode cX8_clash 100 = .ok (.iconst 1, 1) := by decide +kernel
theorem dX8_clash_101 : decode cX8_clash 101 = .ok (.goto 4, 3) := by decide +kernel
theorem dX8_clash_104 : decode cX8_clash 104 = .ok (.iconst 0, 1) := by decide +kernel
theorem dX8_clash_105 : decode cX8_clash 105 = .ok (.ireturn, 1) := by decide +kernel
theorem dX8_labelAt_0 : decode cX8_labelAt 0 = .ok (.iconst 0, 1) := by decide +kernel
theorem dX8_labelAt_1 : decode cX8_labelAt 1 = .ok (.iload_n 1, 1) := by decide +kernel
theorem dX8_labelAt_2 : decode cX8_labelAt 2 = .ok (.invokestatic 71, 3) := by decide +kernel
theorem dX8_labelAt_5 : decode cX8_labelAt 5 = .ok (.ifCond .eq 11, 3) := by decide +kernel
theorem dX8_labelAt_8 : decode cX8_labelAt 8 = .ok (.iconst 1, 1) := by decide +kernel
theorem dX8_labelAt_9 : decode cX8_labelAt 9 = .ok (.iload_n 2, 1) := by decide +kernel
theorem dX8_labelAt_10 : decode cX8_labelAt 10 = .ok (.invokestatic 71, 3) := by decide +kernel
theorem dX8_labelAt_13 : decode cX8_labelAt 13 = .ok (.ifCond .ne 6, 3) := by decide +kernel
theorem dX8_labelAt_16 : decode cX8_labelAt 16 = .ok (.bipush (-2), 2) := by decide +kernel
theorem dX8_labelAt_18 : decode cX8_labelAt 18 = .ok (.ireturn, 1) := by decide +kernel
theorem dX8_labelAt_19 : decode cX8_labelAt 19 = .ok (.aload_n 0, 1) := by decide +kernel
theorem dX8_labelAt_20 : decode cX8_labelAt 20 = .ok (.getfield 37, 3) := by decide +kernel
theorem dX8_labelAt_23 : decode cX8_labelAt 23 = .ok (.iload_n 1, 1) := by decide +kernel
theorem dX8_labelAt_24 : decode cX8_labelAt 24 = .ok (.iload_n 2, 1) := by decide +kernel
theorem dX8_labelAt_25 : decode cX8_labelAt 25 = .ok (.invokevirtual 177, 3) := by decide +kernel
theorem dX8_labelAt_28 : decode cX8_labelAt 28 = .ok (.ireturn, 1) := by decide +kernel
theorem dX8_fill_0 : decode cX8_fill 0 = .ok (.aload_n 0, 1) := by decide +kernel
theorem dX8_fill_1 : decode cX8_fill 1 = .ok (.getfield 37, 3) := by decide +kernel
theorem dX8_fill_4 : decode cX8_fill 4 = .ok (.invokevirtual 143, 3) := by decide +kernel
theorem dX8_fill_7 : decode cX8_fill 7 = .ok (.ireturn, 1) := by decide +kernel
theorem dX8_improve_0 : decode cX8_improve 0 = .ok (.aload_n 0, 1) := by decide +kernel
theorem dX8_improve_1 : decode cX8_improve 1 = .ok (.getfield 37, 3) := by decide +kernel
theorem dX8_improve_4 : decode cX8_improve 4 = .ok (.invokevirtual 180, 3) := by decide +kernel
theorem dX8_improve_7 : decode cX8_improve 7 = .ok (.ireturn, 1) := by decide +kernel
theorem dX8_push_0 : decode cX8_push 0 = .ok (.aload_n 0, 1) := by decide +kernel
theorem dX8_push_1 : decode cX8_push 1 = .ok (.getfield 37, 3) := by decide +kernel
theorem dX8_push_4 : decode cX8_push 4 = .ok (.invokevirtual 183, 3) := by decide +kernel
theorem dX8_push_7 : decode cX8_push 7 = .ok (.ireturn, 1) := by decide +kernel
theorem dX8_show_0 : decode cX8_show 0 = .ok (.aload_n 0, 1) := by decide +kernel
theorem dX8_show_1 : decode cX8_show 1 = .ok (.getfield 12, 3) := by decide +kernel
theorem dX8_show_4 : decode cX8_show 4 = .ok (.iload_n 1, 1) := by decide +kernel
theorem dX8_show_5 : decode cX8_show 5 = .ok (.invokevirtual 98, 3) := by decide +kernel
theorem dX8_show_8 : decode cX8_show 8 = .ok (.ifCond .eq 15, 3) := by decide +kernel
theorem dX8_show_11 : decode cX8_show 11 = .ok (.iload_n 2, 1) := by decide +kernel
theorem dX8_show_12 : decode cX8_show 12 = .ok (.iconst (-1), 1) := by decide +kernel
theorem dX8_show_13 : decode cX8_show 13 = .ok (.if_icmp .eq 13, 3) := by decide +kernel
theorem dX8_show_16 : decode cX8_show 16 = .ok (.iload_n 2, 1) := by decide +kernel
theorem dX8_show_17 : decode cX8_show 17 = .ok (.invokestatic 155, 3) := by decide +kernel
theorem dX8_show_20 : decode cX8_show 20 = .ok (.ifCond .ne 6, 3) := by decide +kernel
theorem dX8_show_23 : decode cX8_show 23 = .ok (.bipush (-2), 2) := by decide +kernel
theorem dX8_show_25 : decode cX8_show 25 = .ok (.ireturn, 1) := by decide +kernel
theorem dX8_show_26 : decode cX8_show 26 = .ok (.aload_n 0, 1) := by decide +kernel
theorem dX8_show_27 : decode cX8_show 27 = .ok (.getfield 37, 3) := by decide +kernel
theorem dX8_show_30 : decode cX8_show 30 = .ok (.iload_n 1, 1) := by decide +kernel
theorem dX8_show_31 : decode cX8_show 31 = .ok (.invokevirtual 115, 3) := by decide +kernel
theorem dX8_show_34 : decode cX8_show 34 = .ok (.istore_n 3, 1) := by decide +kernel
theorem dX8_show_35 : decode cX8_show 35 = .ok (.iload_n 2, 1) := by decide +kernel
theorem dX8_show_36 : decode cX8_show 36 = .ok (.iconst (-1), 1) := by decide +kernel
theorem dX8_show_37 : decode cX8_show 37 = .ok (.if_icmp .ne 13, 3) := by decide +kernel
theorem dX8_show_40 : decode cX8_show 40 = .ok (.aload_n 0, 1) := by decide +kernel
theorem dX8_show_41 : decode cX8_show 41 = .ok (.getfield 37, 3) := by decide +kernel
theorem dX8_show_44 : decode cX8_show 44 = .ok (.iload_n 1, 1) := by decide +kernel
theorem dX8_show_45 : decode cX8_show 45 = .ok (.invokevirtual 90, 3) := by decide +kernel
theorem dX8_show_48 : decode cX8_show 48 = .ok (.iload_n 3, 1) := by decide +kernel
theorem dX8_show_49 : decode cX8_show 49 = .ok (.ireturn, 1) := by decide +kernel
theorem dX8_show_50 : decode cX8_show 50 = .ok (.aload_n 0, 1) := by decide +kernel
theorem dX8_show_51 : decode cX8_show 51 = .ok (.getfield 37, 3) := by decide +kernel
theorem dX8_show_54 : decode cX8_show 54 = .ok (.iload_n 1, 1) := by decide +kernel
theorem dX8_show_55 : decode cX8_show 55 = .ok (.iload_n 2, 1) := by decide +kernel
theorem dX8_show_56 : decode cX8_show 56 = .ok (.invokevirtual 186, 3) := by decide +kernel
theorem dX8_show_59 : decode cX8_show 59 = .ok (.ifCond .ne 6, 3) := by decide +kernel
theorem dX8_show_62 : decode cX8_show 62 = .ok (.bipush (-3), 2) := by decide +kernel
theorem dX8_show_64 : decode cX8_show 64 = .ok (.ireturn, 1) := by decide +kernel
theorem dX8_show_65 : decode cX8_show 65 = .ok (.aload_n 0, 1) := by decide +kernel
theorem dX8_show_66 : decode cX8_show 66 = .ok (.getfield 37, 3) := by decide +kernel
theorem dX8_show_69 : decode cX8_show 69 = .ok (.iload_n 1, 1) := by decide +kernel
theorem dX8_show_70 : decode cX8_show 70 = .ok (.iload_n 2, 1) := by decide +kernel
theorem dX8_show_71 : decode cX8_show 71 = .ok (.invokevirtual 189, 3) := by decide +kernel
theorem dX8_show_74 : decode cX8_show 74 = .ok (.iload_n 3, 1) := by decide +kernel
theorem dX8_show_75 : decode cX8_show 75 = .ok (.ireturn, 1) := by decide +kernel
theorem dX8_hideAll_0 : decode cX8_hideAll 0 = .ok (.aload_n 0, 1) := by decide +kernel
theorem dX8_hideAll_1 : decode cX8_hideAll 1 = .ok (.getfield 37, 3) := by decide +kernel
theorem dX8_hideAll_4 : decode cX8_hideAll 4 = .ok (.invokevirtual 192, 3) := by decide +kernel
theorem dX8_hideAll_7 : decode cX8_hideAll 7 = .ok (.ireturn, 1) := by decide +kernel
theorem dX8_greatest_0 : decode cX8_greatest 0 = .ok (.aload_n 0, 1) := by decide +kernel
theorem dX8_greatest_1 : decode cX8_greatest 1 = .ok (.getfield 44, 3) := by decide +kernel
theorem dX8_greatest_4 : decode cX8_greatest 4 = .ok (.invokevirtual 195, 3) := by decide +kernel
theorem dX8_greatest_7 : decode cX8_greatest 7 = .ok (.ireturn, 1) := by decide +kernel
theorem dX8_leaders_0 : decode cX8_leaders 0 = .ok (.aload_n 0, 1) := by decide +kernel
theorem dX8_leaders_1 : decode cX8_leaders 1 = .ok (.getfield 53, 3) := by decide +kernel
theorem dX8_leaders_4 : decode cX8_leaders 4 = .ok (.invokevirtual 198, 3) := by decide +kernel
theorem dX8_leaders_7 : decode cX8_leaders 7 = .ok (.ireturn, 1) := by decide +kernel
theorem dX8_leader_0 : decode cX8_leader 0 = .ok (.iload_n 1, 1) := by decide +kernel
theorem dX8_leader_1 : decode cX8_leader 1 = .ok (.ifCond .lt 12, 3) := by decide +kernel
theorem dX8_leader_4 : decode cX8_leader 4 = .ok (.iload_n 2, 1) := by decide +kernel
theorem dX8_leader_5 : decode cX8_leader 5 = .ok (.ifCond .lt 8, 3) := by decide +kernel
theorem dX8_leader_8 : decode cX8_leader 8 = .ok (.iload_n 2, 1) := by decide +kernel
theorem dX8_leader_9 : decode cX8_leader 9 = .ok (.iconst 4, 1) := by decide +kernel
theorem dX8_leader_10 : decode cX8_leader 10 = .ok (.if_icmp .lt 6, 3) := by decide +kernel
theorem dX8_leader_13 : decode cX8_leader 13 = .ok (.bipush (-2), 2) := by decide +kernel
theorem dX8_leader_15 : decode cX8_leader 15 = .ok (.ireturn, 1) := by decide +kernel
theorem dX8_leader_16 : decode cX8_leader 16 = .ok (.iload_n 1, 1) := by decide +kernel
theorem dX8_leader_17 : decode cX8_leader 17 = .ok (.aload_n 0, 1) := by decide +kernel
theorem dX8_leader_18 : decode cX8_leader 18 = .ok (.getfield 53, 3) := by decide +kernel
theorem dX8_leader_21 : decode cX8_leader 21 = .ok (.getfield 201, 3) := by decide +kernel
theorem dX8_leader_24 : decode cX8_leader 24 = .ok (.if_icmp .ge 15, 3) := by decide +kernel
theorem dX8_leader_27 : decode cX8_leader 27 = .ok (.aload_n 0, 1) := by decide +kernel
theorem dX8_leader_28 : decode cX8_leader 28 = .ok (.getfield 53, 3) := by decide +kernel
theorem dX8_leader_31 : decode cX8_leader 31 = .ok (.iload_n 1, 1) := by decide +kernel
theorem dX8_leader_32 : decode cX8_leader 32 = .ok (.iload_n 2, 1) := by decide +kernel
theorem dX8_leader_33 : decode cX8_leader 33 = .ok (.invokevirtual 202, 3) := by decide +kernel
theorem dX8_leader_36 : decode cX8_leader 36 = .ok (.goto 4, 3) := by decide +kernel
theorem dX8_leader_39 : decode cX8_leader 39 = .ok (.iconst (-1), 1) := by decide +kernel
theorem dX8_leader_40 : decode cX8_leader 40 = .ok (.ireturn, 1) := by decide +kernel
theorem dX8_type_0 : decode cX8_type 0 = .ok (.iload_n 1, 1) := by decide +kernel
theorem dX8_type_1 : decode cX8_type 1 = .ok (.ifCond .lt 9, 3) := by decide +kernel
theorem dX8_type_4 : decode cX8_type 4 = .ok (.iload_n 1, 1) := by decide +kernel
theorem dX8_type_5 : decode cX8_type 5 = .ok (.bipush 127, 2) := by decide +kernel
theorem dX8_type_7 : decode cX8_type 7 = .ok (.if_icmp .le 6, 3) := by decide +kernel
theorem dX8_type_10 : decode cX8_type 10 = .ok (.bipush (-2), 2) := by decide +kernel
theorem dX8_type_12 : decode cX8_type 12 = .ok (.ireturn, 1) := by decide +kernel
theorem dX8_type_13 : decode cX8_type 13 = .ok (.aload_n 0, 1) := by decide +kernel
theorem dX8_type_14 : decode cX8_type 14 = .ok (.getfield 60, 3) := by decide +kernel
theorem dX8_type_17 : decode cX8_type 17 = .ok (.getfield 203, 3) := by decide +kernel
theorem dX8_type_20 : decode cX8_type 20 = .ok (.bipush 80, 2) := by decide +kernel
theorem dX8_type_22 : decode cX8_type 22 = .ok (.if_icmp .lt 6, 3) := by decide +kernel
theorem dX8_type_25 : decode cX8_type 25 = .ok (.bipush (-4), 2) := by decide +kernel
theorem dX8_type_27 : decode cX8_type 27 = .ok (.ireturn, 1) := by decide +kernel
theorem dX8_type_28 : decode cX8_type 28 = .ok (.aload_n 0, 1) := by decide +kernel
theorem dX8_type_29 : decode cX8_type 29 = .ok (.getfield 60, 3) := by decide +kernel
theorem dX8_type_32 : decode cX8_type 32 = .ok (.iload_n 1, 1) := by decide +kernel
theorem dX8_type_33 : decode cX8_type 33 = .ok (.invokevirtual 206, 3) := by decide +kernel
theorem dX8_type_36 : decode cX8_type 36 = .ok (.aload_n 0, 1) := by decide +kernel
theorem dX8_type_37 : decode cX8_type 37 = .ok (.getfield 60, 3) := by decide +kernel
theorem dX8_type_40 : decode cX8_type 40 = .ok (.getfield 203, 3) := by decide +kernel
theorem dX8_type_43 : decode cX8_type 43 = .ok (.ireturn, 1) := by decide +kernel
theorem dX8_clear_0 : decode cX8_clear 0 = .ok (.aload_n 0, 1) := by decide +kernel
theorem dX8_clear_1 : decode cX8_clear 1 = .ok (.getfield 60, 3) := by decide +kernel
theorem dX8_clear_4 : decode cX8_clear 4 = .ok (.getfield 203, 3) := by decide +kernel
theorem dX8_clear_7 : decode cX8_clear 7 = .ok (.istore_n 1, 1) := by decide +kernel
theorem dX8_clear_8 : decode cX8_clear 8 = .ok (.aload_n 0, 1) := by decide +kernel
theorem dX8_clear_9 : decode cX8_clear 9 = .ok (.getfield 60, 3) := by decide +kernel
theorem dX8_clear_12 : decode cX8_clear 12 = .ok (.iconst 0, 1) := by decide +kernel
theorem dX8_clear_13 : decode cX8_clear 13 = .ok (.putfield 203, 3) := by decide +kernel
theorem dX8_clear_16 : decode cX8_clear 16 = .ok (.iload_n 1, 1) := by decide +kernel
theorem dX8_clear_17 : decode cX8_clear 17 = .ok (.ireturn, 1) := by decide +kernel
theorem dX8_run_0 : decode cX8_run 0 = .ok (.aload_n 0, 1) := by decide +kernel
theorem dX8_run_1 : decode cX8_run 1 = .ok (.getfield 67, 3) := by decide +kernel
theorem dX8_run_4 : decode cX8_run 4 = .ok (.aload_n 0, 1) := by decide +kernel
theorem dX8_run_5 : decode cX8_run 5 = .ok (.getfield 60, 3) := by decide +kernel
theorem dX8_run_8 : decode cX8_run 8 = .ok (.invokevirtual 208, 3) := by decide +kernel
theorem dX8_run_11 : decode cX8_run 11 = .ok (.istore_n 1, 1) := by decide +kernel
theorem dX8_run_12 : decode cX8_run 12 = .ok (.iload_n 1, 1) := by decide +kernel
theorem dX8_run_13 : decode cX8_run 13 = .ok (.iconst (-1), 1) := by decide +kernel
theorem dX8_run_14 : decode cX8_run 14 = .ok (.if_icmp .eq 9, 3) := by decide +kernel
theorem dX8_run_17 : decode cX8_run 17 = .ok (.sipush (-2000), 3) := by decide +kernel
theorem dX8_run_20 : decode cX8_run 20 = .ok (.iload_n 1, 1) := by decide +kernel
theorem dX8_run_21 : decode cX8_run 21 = .ok (.isub, 1) := by decide +kernel
theorem dX8_run_22 : decode cX8_run 22 = .ok (.ireturn, 1) := by decide +kernel
theorem dX8_run_23 : decode cX8_run 23 = .ok (.aload_n 0, 1) := by decide +kernel
theorem dX8_run_24 : decode cX8_run 24 = .ok (.getfield 60, 3) := by decide +kernel
theorem dX8_run_27 : decode cX8_run 27 = .ok (.iconst 0, 1) := by decide +kernel
theorem dX8_run_28 : decode cX8_run 28 = .ok (.putfield 203, 3) := by decide +kernel
theorem dX8_run_31 : decode cX8_run 31 = .ok (.aload_n 0, 1) := by decide +kernel
theorem dX8_run_32 : decode cX8_run 32 = .ok (.getfield 67, 3) := by decide +kernel
theorem dX8_run_35 : decode cX8_run 35 = .ok (.getfield 212, 3) := by decide +kernel
theorem dX8_run_38 : decode cX8_run 38 = .ok (.astore_n 2, 1) := by decide +kernel
theorem dX8_run_39 : decode cX8_run 39 = .ok (.aload_n 0, 1) := by decide +kernel
theorem dX8_run_40 : decode cX8_run 40 = .ok (.getfield 67, 3) := by decide +kernel
theorem dX8_run_43 : decode cX8_run 43 = .ok (.getfield 216, 3) := by decide +kernel
theorem dX8_run_46 : decode cX8_run 46 = .ok (.tableswitch 101 0 4 #[34, 57, 74, 85, 93], 34) := by decide +kernel
theorem dX8_run_80 : decode cX8_run 80 = .ok (.aload_n 0, 1) := by decide +kernel
theorem dX8_run_81 : decode cX8_run 81 = .ok (.aload_n 2, 1) := by decide +kernel
theorem dX8_run_82 : decode cX8_run 82 = .ok (.iconst 0, 1) := by decide +kernel
theorem dX8_run_83 : decode cX8_run 83 = .ok (.iaload, 1) := by decide +kernel
theorem dX8_run_84 : decode cX8_run 84 = .ok (.aload_n 2, 1) := by decide +kernel
theorem dX8_run_85 : decode cX8_run 85 = .ok (.iconst 1, 1) := by decide +kernel
theorem dX8_run_86 : decode cX8_run 86 = .ok (.iaload, 1) := by decide +kernel
theorem dX8_run_87 : decode cX8_run 87 = .ok (.aload_n 2, 1) := by decide +kernel
theorem dX8_run_88 : decode cX8_run 88 = .ok (.iconst 2, 1) := by decide +kernel
theorem dX8_run_89 : decode cX8_run 89 = .ok (.iaload, 1) := by decide +kernel
theorem dX8_run_90 : decode cX8_run 90 = .ok (.aload_n 2, 1) := by decide +kernel
theorem dX8_run_91 : decode cX8_run 91 = .ok (.iconst 3, 1) := by decide +kernel
theorem dX8_run_92 : decode cX8_run 92 = .ok (.iaload, 1) := by decide +kernel
theorem dX8_run_93 : decode cX8_run 93 = .ok (.aload_n 2, 1) := by decide +kernel
theorem dX8_run_94 : decode cX8_run 94 = .ok (.iconst 4, 1) := by decide +kernel
theorem dX8_run_95 : decode cX8_run 95 = .ok (.iaload, 1) := by decide +kernel
theorem dX8_run_96 : decode cX8_run 96 = .ok (.sipush 255, 3) := by decide +kernel
theorem dX8_run_99 : decode cX8_run 99 = .ok (.invokevirtual 219, 3) := by decide +kernel
theorem dX8_run_102 : decode cX8_run 102 = .ok (.ireturn, 1) := by decide +kernel
theorem dX8_run_103 : decode cX8_run 103 = .ok (.aload_n 0, 1) := by decide +kernel
theorem dX8_run_104 : decode cX8_run 104 = .ok (.aload_n 2, 1) := by decide +kernel
theorem dX8_run_105 : decode cX8_run 105 = .ok (.iconst 0, 1) := by decide +kernel
theorem dX8_run_106 : decode cX8_run 106 = .ok (.iaload, 1) := by decide +kernel
theorem dX8_run_107 : decode cX8_run 107 = .ok (.aload_n 2, 1) := by decide +kernel
theorem dX8_run_108 : decode cX8_run 108 = .ok (.iconst 1, 1) := by decide +kernel
theorem dX8_run_109 : decode cX8_run 109 = .ok (.iaload, 1) := by decide +kernel
theorem dX8_run_110 : decode cX8_run 110 = .ok (.aload_n 2, 1) := by decide +kernel
theorem dX8_run_111 : decode cX8_run 111 = .ok (.iconst 2, 1) := by decide +kernel
theorem dX8_run_112 : decode cX8_run 112 = .ok (.iaload, 1) := by decide +kernel
theorem dX8_run_113 : decode cX8_run 113 = .ok (.aload_n 2, 1) := by decide +kernel
theorem dX8_run_114 : decode cX8_run 114 = .ok (.iconst 3, 1) := by decide +kernel
theorem dX8_run_115 : decode cX8_run 115 = .ok (.iaload, 1) := by decide +kernel
theorem dX8_run_116 : decode cX8_run 116 = .ok (.invokevirtual 223, 3) := by decide +kernel
theorem dX8_run_119 : decode cX8_run 119 = .ok (.ireturn, 1) := by decide +kernel
theorem dX8_run_120 : decode cX8_run 120 = .ok (.aload_n 0, 1) := by decide +kernel
theorem dX8_run_121 : decode cX8_run 121 = .ok (.aload_n 2, 1) := by decide +kernel
theorem dX8_run_122 : decode cX8_run 122 = .ok (.iconst 0, 1) := by decide +kernel
theorem dX8_run_123 : decode cX8_run 123 = .ok (.iaload, 1) := by decide +kernel
theorem dX8_run_124 : decode cX8_run 124 = .ok (.aload_n 2, 1) := by decide +kernel
theorem dX8_run_125 : decode cX8_run 125 = .ok (.iconst 1, 1) := by decide +kernel
theorem dX8_run_126 : decode cX8_run 126 = .ok (.iaload, 1) := by decide +kernel
theorem dX8_run_127 : decode cX8_run 127 = .ok (.invokevirtual 227, 3) := by decide +kernel
theorem dX8_run_130 : decode cX8_run 130 = .ok (.ireturn, 1) := by decide +kernel
theorem dX8_run_131 : decode cX8_run 131 = .ok (.aload_n 0, 1) := by decide +kernel
theorem dX8_run_132 : decode cX8_run 132 = .ok (.getfield 37, 3) := by decide +kernel
theorem dX8_run_135 : decode cX8_run 135 = .ok (.invokevirtual 143, 3) := by decide +kernel
theorem dX8_run_138 : decode cX8_run 138 = .ok (.ireturn, 1) := by decide +kernel
theorem dX8_run_139 : decode cX8_run 139 = .ok (.aload_n 0, 1) := by decide +kernel
theorem dX8_run_140 : decode cX8_run 140 = .ok (.getfield 37, 3) := by decide +kernel
theorem dX8_run_143 : decode cX8_run 143 = .ok (.invokevirtual 180, 3) := by decide +kernel
theorem dX8_run_146 : decode cX8_run 146 = .ok (.ireturn, 1) := by decide +kernel
theorem dX8_run_147 : decode cX8_run 147 = .ok (.aload_n 0, 1) := by decide +kernel
theorem dX8_run_148 : decode cX8_run 148 = .ok (.getfield 37, 3) := by decide +kernel
theorem dX8_run_151 : decode cX8_run 151 = .ok (.invokevirtual 192, 3) := by decide +kernel
theorem dX8_run_154 : decode cX8_run 154 = .ok (.ireturn, 1) := by decide +kernel
set_option maxHeartbeats 4000000 in
set_option maxRecDepth 100000 in
theorem qLP_addPoint_J56_ok {σ : QS} {x1 : Int32} {x2 : Int32} {x3 : Int32} {x4 : Int32} {x5 : Int32} {x6 : Int32} {s0 : Int32} {r : Int32 × QS} (h : qLP_addPoint_J56 σ x1 x2 x3 x4 x5 x6 s0 = some r) : qx_E (qx_gC l D ci a z) 6 mX8_addPoint (some (.int r.1), r.2) 56 [(0, .ref (a 0)), (1, .int x1), (2, .int x2), (3, .int x3), (4, .int x4), (5, .int x5), (6, .int x6)] [.int s0] σ := by
  unfold qLP_addPoint_J56 at h
  refine qx_istore (pc := 56) (lv' := [(7, .int s0), (0, .ref (a 0)), (1, .int x1), (2, .int x2), (3, .int x3), (4, .int x4), (5, .int x5), (6, .int x6)]) dX8_addPoint_56 (Nat.le_of_ble_eq_true rfl) rfl ?_
  refine qx_iload (pc := 58) 0 dX8_addPoint_58 rfl ?_
  refine qx_if_ne (pc := 60) 66 h dX8_addPoint_60 (by decide) (fun h => ?_) (fun h => ?_)
  · refine qx_aload_n (pc := 66) 1 dX8_addPoint_66 rfl ?_
    refine qgC0_0 (pc := 67) qwf_X8_12 dX8_addPoint_67 ?_
    refine qx_iload_n (pc := 70) 2 dX8_addPoint_70 rfl ?_
    refine qx_iload_n (pc := 71) 3 dX8_addPoint_71 rfl ?_
    obtain ⟨r1, hr1, h⟩ := qx_bindE h
    refine qx_callVi (pc := 72) 1 r1 σ [.int x1, .int x2] [] rfl rfl rfl qcm_X4_isAt qcv_X4_isAt qwm_X8_75 rfl (Nat.le_of_ble_eq_true rfl) (Nat.le_of_ble_eq_true rfl) (by decide) dX8_addPoint_72 (qPt_isAt_ok hr1) ?_
    refine qx_if_eq (pc := 75) 81 h dX8_addPoint_75 (by decide) (fun h => ?_) (fun h => ?_)
    · refine qx_aload_n (pc := 81) 1 dX8_addPoint_81 rfl ?_
      refine qgC0_0 (pc := 82) qwf_X8_12 dX8_addPoint_82 ?_
      refine qgC1_0 (pc := 85) qwf_X8_78 dX8_addPoint_85 ?_
      refine qx_bipush (pc := 88) 20 dX8_addPoint_88 (by decide) ?_
      refine qx_icmp_lt (pc := 90) 96 h dX8_addPoint_90 (by decide) (fun h => ?_) (fun h => ?_)
      · refine qx_aload_n (pc := 96) 1 dX8_addPoint_96 rfl ?_
        refine qgC0_0 (pc := 97) qwf_X8_12 dX8_addPoint_97 ?_
        refine qx_iload_n (pc := 100) 2 dX8_addPoint_100 rfl ?_
        refine qx_iload_n (pc := 101) 3 dX8_addPoint_101 rfl ?_
        obtain ⟨r2, hr2, h⟩ := qx_bindE h
        refine qx_callVi (pc := 102) 1 r2.1 r2.2 [.int x1, .int x2] [] rfl rfl rfl qcm_X4_append qcv_X4_append qwm_X8_82 rfl (Nat.le_of_ble_eq_true rfl) (Nat.le_of_ble_eq_true rfl) (by decide) dX8_addPoint_102 (qPt_append_ok hr2) ?_
        refine qx_istore (pc := 105) (lv' := [(8, .int (r2.1)), (7, .int s0), (0, .ref (a 0)), (1, .int x1), (2, .int x2), (3, .int x3), (4, .int x4), (5, .int x5), (6, .int x6)]) dX8_addPoint_105 (Nat.le_of_ble_eq_true rfl) rfl ?_
        refine qx_aload_n (pc := 107) 2 dX8_addPoint_107 rfl ?_
        refine qgC0_0 (pc := 108) qwf_X8_12 dX8_addPoint_108 ?_
        refine qx_iload (pc := 111) 0 dX8_addPoint_111 rfl ?_
        refine qx_iconst (pc := 113) 2 dX8_addPoint_113 (by decide) ?_
        refine qx_iload_n (pc := 114) 5 dX8_addPoint_114 rfl ?_
        obtain ⟨r3, hr3, h⟩ := qx_bindE h
        refine qx_callVv (pc := 115) 1 r3 [.int (r2.1), .int 2, .int x3] [] rfl rfl rfl qcm_X4_put qcv_X4_put qwm_X8_86 rfl (Nat.le_of_ble_eq_true rfl) (Nat.le_of_ble_eq_true rfl) (by decide) dX8_addPoint_115 (qPt_put_ok hr3) ?_
        refine qx_aload_n (pc := 118) 2 dX8_addPoint_118 rfl ?_
        refine qgC0_0 (pc := 119) qwf_X8_12 dX8_addPoint_119 ?_
        refine qx_iload (pc := 122) 0 dX8_addPoint_122 rfl ?_
        refine qx_iconst (pc := 124) 3 dX8_addPoint_124 (by decide) ?_
        refine qx_iload (pc := 125) 6 dX8_addPoint_125 rfl ?_
        obtain ⟨r4, hr4, h⟩ := qx_bindE h
        refine qx_callVv (pc := 127) 1 r4 [.int (r2.1), .int 3, .int x4] [] rfl rfl rfl qcm_X4_put qcv_X4_put qwm_X8_86 rfl (Nat.le_of_ble_eq_true rfl) (Nat.le_of_ble_eq_true rfl) (by decide) dX8_addPoint_127 (qPt_put_ok hr4) ?_
        refine qx_aload_n (pc := 130) 2 dX8_addPoint_130 rfl ?_
        refine qgC0_0 (pc := 131) qwf_X8_12 dX8_addPoint_131 ?_
        refine qx_iload (pc := 134) 0 dX8_addPoint_134 rfl ?_
        refine qx_iconst (pc := 136) 4 dX8_addPoint_136 (by decide) ?_
        refine qx_iload (pc := 137) 7 dX8_addPoint_137 rfl ?_
        obtain ⟨r5, hr5, h⟩ := qx_bindE h
        refine qx_callVv (pc := 139) 1 r5 [.int (r2.1), .int 4, .int x5] [] rfl rfl rfl qcm_X4_put qcv_X4_put qwm_X8_86 rfl (Nat.le_of_ble_eq_true rfl) (Nat.le_of_ble_eq_true rfl) (by decide) dX8_addPoint_139 (qPt_put_ok hr5) ?_
        refine qx_aload_n (pc := 142) 2 dX8_addPoint_142 rfl ?_
        refine qgC0_0 (pc := 143) qwf_X8_12 dX8_addPoint_143 ?_
        refine qx_iload (pc := 146) 0 dX8_addPoint_146 rfl ?_
        refine qx_iconst (pc := 148) 5 dX8_addPoint_148 (by decide) ?_
        refine qx_iload (pc := 149) 8 dX8_addPoint_149 rfl ?_
        obtain ⟨r6, hr6, h⟩ := qx_bindE h
        refine qx_callVv (pc := 151) 1 r6 [.int (r2.1), .int 5, .int x6] [] rfl rfl rfl qcm_X4_put qcv_X4_put qwm_X8_86 rfl (Nat.le_of_ble_eq_true rfl) (Nat.le_of_ble_eq_true rfl) (by decide) dX8_addPoint_151 (qPt_put_ok hr6) ?_
        refine qx_aload_n (pc := 154) 2 dX8_addPoint_154 rfl ?_
        refine qgC0_3 (pc := 155) qwf_X8_37 dX8_addPoint_155 ?_
        refine qx_iload (pc := 158) 0 dX8_addPoint_158 rfl ?_
        obtain ⟨r7, hr7, h⟩ := qx_bindE h
        refine qx_callVv (pc := 160) 11 r7 [.int (r2.1)] [] rfl rfl rfl qcm_X1_hide qcv_X1_hide qwm_X8_90 rfl (Nat.le_of_ble_eq_true rfl) (Nat.le_of_ble_eq_true rfl) (by decide) dX8_addPoint_160 (qLb_hide_ok hr7) ?_
        refine qx_aload_n (pc := 163) 2 dX8_addPoint_163 rfl ?_
        obtain ⟨r8, hr8, h⟩ := qx_bindE h
        refine qx_callVi (pc := 164) 0 r8.1 r8.2 [] [] rfl rfl rfl qcm_X8_renew qcv_X8_renew qwm_X8_94 rfl (Nat.le_of_ble_eq_true rfl) (Nat.le_of_ble_eq_true rfl) (by decide) dX8_addPoint_164 (qLP_renew_ok hr8) ?_
        refine qx_pop (pc := 167) dX8_addPoint_167 rfl ?_
        refine qx_iload (pc := 168) 0 dX8_addPoint_168 rfl ?_
        exact qx_iretS h rfl dX8_addPoint_170
      · refine qx_bipush (pc := 93) (-4) dX8_addPoint_93 (by decide) ?_
        exact qx_iretS h rfl dX8_addPoint_95
    · refine qx_bipush (pc := 78) (-3) dX8_addPoint_78 (by decide) ?_
      exact qx_iretS h rfl dX8_addPoint_80
  · refine qx_bipush (pc := 63) (-2) dX8_addPoint_63 (by decide) ?_
    exact qx_iretS h rfl dX8_addPoint_65
set_option maxHeartbeats 4000000 in
set_option maxRecDepth 100000 in
theorem qLP_addPoint_ok {σ : QS} {x1 : Int32} {x2 : Int32} {x3 : Int32} {x4 : Int32} {x5 : Int32} {x6 : Int32} {r : Int32 × QS} (h : qLP_addPoint σ x1 x2 x3 x4 x5 x6 = some r) : qx_E (qx_gC l D ci a z) 6 mX8_addPoint (some (.int r.1), r.2) 0 [(0, .ref (a 0)), (1, .int x1), (2, .int x2), (3, .int x3), (4, .int x4), (5, .int x5), (6, .int x6)] [] σ := by
  unfold qLP_addPoint at h
  refine qx_iconst (pc := 0) 0 dX8_addPoint_0 (by decide) ?_
  refine qx_iload_n (pc := 1) 1 dX8_addPoint_1 rfl ?_
  obtain ⟨r9, hr9, h⟩ := qx_bindE h
  refine qx_callSi (pc := 2) r9 σ [.int 0, .int x1] [] rfl qcm_X4_allows qcs_X4_allows qwm_X8_71 rfl (Nat.le_of_ble_eq_true rfl) (Nat.le_of_ble_eq_true rfl) (by decide) dX8_addPoint_2 (qPt_allows_ok hr9) ?_
  refine qx_if_eq (pc := 5) 55 h dX8_addPoint_5 (by decide) (fun h => ?_) (fun h => ?_)
  · refine qx_iconst (pc := 55) 0 dX8_addPoint_55 (by decide) ?_
    exact (qLP_addPoint_J56_ok h)
  · refine qx_iconst (pc := 8) 1 dX8_addPoint_8 (by decide) ?_
    refine qx_iload_n (pc := 9) 2 dX8_addPoint_9 rfl ?_
    obtain ⟨r10, hr10, h⟩ := qx_bindE h
    refine qx_callSi (pc := 10) r10 σ [.int 1, .int x2] [] rfl qcm_X4_allows qcs_X4_allows qwm_X8_71 rfl (Nat.le_of_ble_eq_true rfl) (Nat.le_of_ble_eq_true rfl) (by decide) dX8_addPoint_10 (qPt_allows_ok hr10) ?_
    refine qx_if_eq (pc := 13) 55 h dX8_addPoint_13 (by decide) (fun h => ?_) (fun h => ?_)
    · refine qx_iconst (pc := 55) 0 dX8_addPoint_55 (by decide) ?_
      exact (qLP_addPoint_J56_ok h)
    · refine qx_iconst (pc := 16) 2 dX8_addPoint_16 (by decide) ?_
      refine qx_iload_n (pc := 17) 3 dX8_addPoint_17 rfl ?_
      obtain ⟨r11, hr11, h⟩ := qx_bindE h
      refine qx_callSi (pc := 18) r11 σ [.int 2, .int x3] [] rfl qcm_X4_allows qcs_X4_allows qwm_X8_71 rfl (Nat.le_of_ble_eq_true rfl) (Nat.le_of_ble_eq_true rfl) (by decide) dX8_addPoint_18 (qPt_allows_ok hr11) ?_
      refine qx_if_eq (pc := 21) 55 h dX8_addPoint_21 (by decide) (fun h => ?_) (fun h => ?_)
      · refine qx_iconst (pc := 55) 0 dX8_addPoint_55 (by decide) ?_
        exact (qLP_addPoint_J56_ok h)
      · refine qx_iconst (pc := 24) 3 dX8_addPoint_24 (by decide) ?_
        refine qx_iload (pc := 25) 4 dX8_addPoint_25 rfl ?_
        obtain ⟨r12, hr12, h⟩ := qx_bindE h
        refine qx_callSi (pc := 27) r12 σ [.int 3, .int x4] [] rfl qcm_X4_allows qcs_X4_allows qwm_X8_71 rfl (Nat.le_of_ble_eq_true rfl) (Nat.le_of_ble_eq_true rfl) (by decide) dX8_addPoint_27 (qPt_allows_ok hr12) ?_
        refine qx_if_eq (pc := 30) 55 h dX8_addPoint_30 (by decide) (fun h => ?_) (fun h => ?_)
        · refine qx_iconst (pc := 55) 0 dX8_addPoint_55 (by decide) ?_
          exact (qLP_addPoint_J56_ok h)
        · refine qx_iconst (pc := 33) 4 dX8_addPoint_33 (by decide) ?_
          refine qx_iload (pc := 34) 5 dX8_addPoint_34 rfl ?_
          obtain ⟨r13, hr13, h⟩ := qx_bindE h
          refine qx_callSi (pc := 36) r13 σ [.int 4, .int x5] [] rfl qcm_X4_allows qcs_X4_allows qwm_X8_71 rfl (Nat.le_of_ble_eq_true rfl) (Nat.le_of_ble_eq_true rfl) (by decide) dX8_addPoint_36 (qPt_allows_ok hr13) ?_
          refine qx_if_eq (pc := 39) 55 h dX8_addPoint_39 (by decide) (fun h => ?_) (fun h => ?_)
          · refine qx_iconst (pc := 55) 0 dX8_addPoint_55 (by decide) ?_
            exact (qLP_addPoint_J56_ok h)
          · refine qx_iconst (pc := 42) 5 dX8_addPoint_42 (by decide) ?_
            refine qx_iload (pc := 43) 6 dX8_addPoint_43 rfl ?_
            obtain ⟨r14, hr14, h⟩ := qx_bindE h
            refine qx_callSi (pc := 45) r14 σ [.int 5, .int x6] [] rfl qcm_X4_allows qcs_X4_allows qwm_X8_71 rfl (Nat.le_of_ble_eq_true rfl) (Nat.le_of_ble_eq_true rfl) (by decide) dX8_addPoint_45 (qPt_allows_ok hr14) ?_
            refine qx_if_eq (pc := 48) 55 h dX8_addPoint_48 (by decide) (fun h => ?_) (fun h => ?_)
            · refine qx_iconst (pc := 55) 0 dX8_addPoint_55 (by decide) ?_
              exact (qLP_addPoint_J56_ok h)
            · refine qx_iconst (pc := 51) 1 dX8_addPoint_51 (by decide) ?_
              refine qx_goto (pc := 52) 56 dX8_addPoint_52 (by decide) ?_
              exact (qLP_addPoint_J56_ok h)
set_option maxHeartbeats 4000000 in
set_option maxRecDepth 100000 in
theorem qLP_removePoint_ok {σ : QS} {x1 : Int32} {r : Int32 × QS} (h : qLP_removePoint σ x1 = some r) : qx_E (qx_gC l D ci a z) 6 mX8_removePoint (some (.int r.1), r.2) 0 [(0, .ref (a 0)), (1, .int x1)] [] σ := by
  unfold qLP_removePoint at h
  refine qx_aload_n (pc := 0) 0 dX8_removePoint_0 rfl ?_
  refine qgC0_0 (pc := 1) qwf_X8_12 dX8_removePoint_1 ?_
  refine qx_iload_n (pc := 4) 1 dX8_removePoint_4 rfl ?_
  obtain ⟨r1, hr1, h⟩ := qx_bindE h
  refine qx_callVi (pc := 5) 1 r1 σ [.int x1] [] rfl rfl rfl qcm_X4_has qcv_X4_has qwm_X8_98 rfl (Nat.le_of_ble_eq_true rfl) (Nat.le_of_ble_eq_true rfl) (by decide) dX8_removePoint_5 (qPt_has_ok hr1) ?_
  refine qx_if_ne (pc := 8) 14 h dX8_removePoint_8 (by decide) (fun h => ?_) (fun h => ?_)
  · refine qx_aload_n (pc := 14) 0 dX8_removePoint_14 rfl ?_
    refine qgC0_3 (pc := 15) qwf_X8_37 dX8_removePoint_15 ?_
    refine qx_iload_n (pc := 18) 1 dX8_removePoint_18 rfl ?_
    obtain ⟨r2, hr2, h⟩ := qx_bindE h
    refine qx_callVv (pc := 19) 11 r2 [.int x1] [] rfl rfl rfl qcm_X1_closeGap qcv_X1_closeGap qwm_X8_102 rfl (Nat.le_of_ble_eq_true rfl) (Nat.le_of_ble_eq_true rfl) (by decide) dX8_removePoint_19 (qLb_closeGap_ok hr2) ?_
    refine qx_aload_n (pc := 22) 0 dX8_removePoint_22 rfl ?_
    refine qgC0_0 (pc := 23) qwf_X8_12 dX8_removePoint_23 ?_
    refine qx_iload_n (pc := 26) 1 dX8_removePoint_26 rfl ?_
    obtain ⟨r3, hr3, h⟩ := qx_bindE h
    refine qx_callVv (pc := 27) 1 r3 [.int x1] [] rfl rfl rfl qcm_X4_closeGap qcv_X4_closeGap qwm_X8_105 rfl (Nat.le_of_ble_eq_true rfl) (Nat.le_of_ble_eq_true rfl) (by decide) dX8_removePoint_27 (qPt_closeGap_ok hr3) ?_
    refine qx_aload_n (pc := 30) 0 dX8_removePoint_30 rfl ?_
    obtain ⟨r4, hr4, h⟩ := qx_bindE h
    refine qx_callVi (pc := 31) 0 r4.1 r4.2 [] [] rfl rfl rfl qcm_X8_renew qcv_X8_renew qwm_X8_94 rfl (Nat.le_of_ble_eq_true rfl) (Nat.le_of_ble_eq_true rfl) (by decide) dX8_removePoint_31 (qLP_renew_ok hr4) ?_
    refine qx_pop (pc := 34) dX8_removePoint_34 rfl ?_
    refine qx_aload_n (pc := 35) 0 dX8_removePoint_35 rfl ?_
    refine qgC0_0 (pc := 36) qwf_X8_12 dX8_removePoint_36 ?_
    refine qgC1_0 (pc := 39) qwf_X8_78 dX8_removePoint_39 ?_
    exact qx_iretS h rfl dX8_removePoint_42
  · refine qx_bipush (pc := 11) (-2) dX8_removePoint_11 (by decide) ?_
    exact qx_iretS h rfl dX8_removePoint_13
set_option maxHeartbeats 4000000 in
set_option maxRecDepth 100000 in
theorem qLP_setPoint_J15_ok {σ : QS} {x1 : Int32} {x2 : Int32} {x3 : Int32} {s0 : Int32} {r : Int32 × QS} (h : qLP_setPoint_J15 σ x1 x2 x3 s0 = some r) : qx_E (qx_gC l D ci a z) 6 mX8_setPoint (some (.int r.1), r.2) 15 [(0, .ref (a 0)), (1, .int x1), (2, .int x2), (3, .int x3)] [.int s0] σ := by
  unfold qLP_setPoint_J15 at h
  refine qx_istore (pc := 15) (lv' := [(4, .int s0), (0, .ref (a 0)), (1, .int x1), (2, .int x2), (3, .int x3)]) dX8_setPoint_15 (Nat.le_of_ble_eq_true rfl) rfl ?_
  refine qx_aload_n (pc := 17) 1 dX8_setPoint_17 rfl ?_
  refine qgC0_0 (pc := 18) qwf_X8_12 dX8_setPoint_18 ?_
  refine qx_iload_n (pc := 21) 2 dX8_setPoint_21 rfl ?_
  obtain ⟨r1, hr1, h⟩ := qx_bindE h
  refine qx_callVi (pc := 22) 1 r1 σ [.int x1] [] rfl rfl rfl qcm_X4_has qcv_X4_has qwm_X8_98 rfl (Nat.le_of_ble_eq_true rfl) (Nat.le_of_ble_eq_true rfl) (by decide) dX8_setPoint_22 (qPt_has_ok hr1) ?_
  refine qx_if_eq (pc := 25) 41 h dX8_setPoint_25 (by decide) (fun h => ?_) (fun h => ?_)
  · refine qx_bipush (pc := 41) (-2) dX8_setPoint_41 (by decide) ?_
    exact qx_iretS h rfl dX8_setPoint_43
  · refine qx_iload (pc := 28) 0 dX8_setPoint_28 rfl ?_
    refine qx_if_eq (pc := 30) 41 h dX8_setPoint_30 (by decide) (fun h => ?_) (fun h => ?_)
    · refine qx_bipush (pc := 41) (-2) dX8_setPoint_41 (by decide) ?_
      exact qx_iretS h rfl dX8_setPoint_43
    · refine qx_iload_n (pc := 33) 3 dX8_setPoint_33 rfl ?_
      refine qx_iload_n (pc := 34) 4 dX8_setPoint_34 rfl ?_
      obtain ⟨r2, hr2, h⟩ := qx_bindE h
      refine qx_callSi (pc := 35) r2 σ [.int x2, .int x3] [] rfl qcm_X4_allows qcs_X4_allows qwm_X8_71 rfl (Nat.le_of_ble_eq_true rfl) (Nat.le_of_ble_eq_true rfl) (by decide) dX8_setPoint_35 (qPt_allows_ok hr2) ?_
      refine qx_if_ne (pc := 38) 44 h dX8_setPoint_38 (by decide) (fun h => ?_) (fun h => ?_)
      · refine qx_aload_n (pc := 44) 1 dX8_setPoint_44 rfl ?_
        refine qgC0_0 (pc := 45) qwf_X8_12 dX8_setPoint_45 ?_
        refine qx_iload_n (pc := 48) 2 dX8_setPoint_48 rfl ?_
        refine qx_iload_n (pc := 49) 3 dX8_setPoint_49 rfl ?_
        obtain ⟨r3, hr3, h⟩ := qx_bindE h
        refine qx_callVi (pc := 50) 1 r3 σ [.int x1, .int x2] [] rfl rfl rfl qcm_X4_get qcv_X4_get qwm_X8_106 rfl (Nat.le_of_ble_eq_true rfl) (Nat.le_of_ble_eq_true rfl) (by decide) dX8_setPoint_50 (qPt_get_ok hr3) ?_
        refine qx_istore (pc := 53) (lv' := [(5, .int r3), (4, .int s0), (0, .ref (a 0)), (1, .int x1), (2, .int x2), (3, .int x3)]) dX8_setPoint_53 (Nat.le_of_ble_eq_true rfl) rfl ?_
        refine qx_aload_n (pc := 55) 2 dX8_setPoint_55 rfl ?_
        refine qgC0_0 (pc := 56) qwf_X8_12 dX8_setPoint_56 ?_
        refine qx_iload_n (pc := 59) 3 dX8_setPoint_59 rfl ?_
        refine qx_iload_n (pc := 60) 4 dX8_setPoint_60 rfl ?_
        refine qx_iload_n (pc := 61) 5 dX8_setPoint_61 rfl ?_
        obtain ⟨r4, hr4, h⟩ := qx_bindE h
        refine qx_callVv (pc := 62) 1 r4 [.int x1, .int x2, .int x3] [] rfl rfl rfl qcm_X4_put qcv_X4_put qwm_X8_86 rfl (Nat.le_of_ble_eq_true rfl) (Nat.le_of_ble_eq_true rfl) (by decide) dX8_setPoint_62 (qPt_put_ok hr4) ?_
        refine qx_aload_n (pc := 65) 2 dX8_setPoint_65 rfl ?_
        obtain ⟨r5, hr5, h⟩ := qx_bindE h
        refine qx_callVi (pc := 66) 0 r5.1 r5.2 [] [] rfl rfl rfl qcm_X8_renew qcv_X8_renew qwm_X8_94 rfl (Nat.le_of_ble_eq_true rfl) (Nat.le_of_ble_eq_true rfl) (by decide) dX8_setPoint_66 (qLP_renew_ok hr5) ?_
        refine qx_pop (pc := 69) dX8_setPoint_69 rfl ?_
        refine qx_aload_n (pc := 70) 2 dX8_setPoint_70 rfl ?_
        refine qgC0_3 (pc := 71) qwf_X8_37 dX8_setPoint_71 ?_
        refine qx_iload_n (pc := 74) 3 dX8_setPoint_74 rfl ?_
        obtain ⟨r6, hr6, h⟩ := qx_bindE h
        refine qx_callVv (pc := 75) 11 r6 [.int x1] [] rfl rfl rfl qcm_X1_hideIfClashing qcv_X1_hideIfClashing qwm_X8_109 rfl (Nat.le_of_ble_eq_true rfl) (Nat.le_of_ble_eq_true rfl) (by decide) dX8_setPoint_75 (qLb_hideIfClashing_ok hr6) ?_
        refine qx_iload (pc := 78) 0 dX8_setPoint_78 rfl ?_
        exact qx_iretS h rfl dX8_setPoint_80
      · refine qx_bipush (pc := 41) (-2) dX8_setPoint_41 (by decide) ?_
        exact qx_iretS h rfl dX8_setPoint_43
set_option maxHeartbeats 4000000 in
set_option maxRecDepth 100000 in
theorem qLP_setPoint_ok {σ : QS} {x1 : Int32} {x2 : Int32} {x3 : Int32} {r : Int32 × QS} (h : qLP_setPoint σ x1 x2 x3 = some r) : qx_E (qx_gC l D ci a z) 6 mX8_setPoint (some (.int r.1), r.2) 0 [(0, .ref (a 0)), (1, .int x1), (2, .int x2), (3, .int x3)] [] σ := by
  unfold qLP_setPoint at h
  refine qx_iload_n (pc := 0) 2 dX8_setPoint_0 rfl ?_
  refine qx_iconst (pc := 1) 2 dX8_setPoint_1 (by decide) ?_
  refine qx_icmp_lt (pc := 2) 14 h dX8_setPoint_2 (by decide) (fun h => ?_) (fun h => ?_)
  · refine qx_iconst (pc := 14) 0 dX8_setPoint_14 (by decide) ?_
    exact (qLP_setPoint_J15_ok h)
  · refine qx_iload_n (pc := 5) 2 dX8_setPoint_5 rfl ?_
    refine qx_iconst (pc := 6) 5 dX8_setPoint_6 (by decide) ?_
    refine qx_icmp_gt (pc := 7) 14 h dX8_setPoint_7 (by decide) (fun h => ?_) (fun h => ?_)
    · refine qx_iconst (pc := 14) 0 dX8_setPoint_14 (by decide) ?_
      exact (qLP_setPoint_J15_ok h)
    · refine qx_iconst (pc := 10) 1 dX8_setPoint_10 (by decide) ?_
      refine qx_goto (pc := 11) 15 dX8_setPoint_11 (by decide) ?_
      exact (qLP_setPoint_J15_ok h)
set_option maxHeartbeats 4000000 in
set_option maxRecDepth 100000 in
theorem qLP_point_ok {σ : QS} {x1 : Int32} {x2 : Int32} {r : Int32} (h : qLP_point σ x1 x2 = some r) : qx_E (qx_gC l D ci a z) 3 mX8_point (some (.int r), σ) 0 [(0, .ref (a 0)), (1, .int x1), (2, .int x2)] [] σ := by
  unfold qLP_point at h
  refine qx_aload_n (pc := 0) 0 dX8_point_0 rfl ?_
  refine qgC0_0 (pc := 1) qwf_X8_12 dX8_point_1 ?_
  refine qx_iload_n (pc := 4) 1 dX8_point_4 rfl ?_
  obtain ⟨r1, hr1, h⟩ := qx_bindE h
  refine qx_callVi (pc := 5) 1 r1 σ [.int x1] [] rfl rfl rfl qcm_X4_has qcv_X4_has qwm_X8_98 rfl (Nat.le_of_ble_eq_true rfl) (Nat.le_of_ble_eq_true rfl) (by decide) dX8_point_5 (qPt_has_ok hr1) ?_
  refine qx_if_ne (pc := 8) 14 h dX8_point_8 (by decide) (fun h => ?_) (fun h => ?_)
  · refine qx_iload_n (pc := 14) 2 dX8_point_14 rfl ?_
    rcases qx_ite h with ⟨hc0, h⟩ | ⟨hc0, h⟩
    · refine qx_tsIn (pc := 15) 64 0 hc0 dX8_point_15 (by decide) (by decide) rfl (by decide) ?_
      refine qx_aload_n (pc := 64) 0 dX8_point_64 rfl ?_
      refine qgC0_0 (pc := 65) qwf_X8_12 dX8_point_65 ?_
      refine qx_iload_n (pc := 68) 1 dX8_point_68 rfl ?_
      refine qx_iload_n (pc := 69) 2 dX8_point_69 rfl ?_
      obtain ⟨r2, hr2, h⟩ := qx_bindE h
      refine qx_callVi (pc := 70) 1 r2 σ [.int x1, .int x2] [] rfl rfl rfl qcm_X4_get qcv_X4_get qwm_X8_106 rfl (Nat.le_of_ble_eq_true rfl) (Nat.le_of_ble_eq_true rfl) (by decide) dX8_point_70 (qPt_get_ok hr2) ?_
      exact qx_iret h rfl dX8_point_73
    rcases qx_ite h with ⟨hc1, h⟩ | ⟨hc1, h⟩
    · refine qx_tsIn (pc := 15) 64 1 hc1 dX8_point_15 (by decide) (by decide) rfl (by decide) ?_
      refine qx_aload_n (pc := 64) 0 dX8_point_64 rfl ?_
      refine qgC0_0 (pc := 65) qwf_X8_12 dX8_point_65 ?_
      refine qx_iload_n (pc := 68) 1 dX8_point_68 rfl ?_
      refine qx_iload_n (pc := 69) 2 dX8_point_69 rfl ?_
      obtain ⟨r3, hr3, h⟩ := qx_bindE h
      refine qx_callVi (pc := 70) 1 r3 σ [.int x1, .int x2] [] rfl rfl rfl qcm_X4_get qcv_X4_get qwm_X8_106 rfl (Nat.le_of_ble_eq_true rfl) (Nat.le_of_ble_eq_true rfl) (by decide) dX8_point_70 (qPt_get_ok hr3) ?_
      exact qx_iret h rfl dX8_point_73
    rcases qx_ite h with ⟨hc2, h⟩ | ⟨hc2, h⟩
    · refine qx_tsIn (pc := 15) 64 2 hc2 dX8_point_15 (by decide) (by decide) rfl (by decide) ?_
      refine qx_aload_n (pc := 64) 0 dX8_point_64 rfl ?_
      refine qgC0_0 (pc := 65) qwf_X8_12 dX8_point_65 ?_
      refine qx_iload_n (pc := 68) 1 dX8_point_68 rfl ?_
      refine qx_iload_n (pc := 69) 2 dX8_point_69 rfl ?_
      obtain ⟨r4, hr4, h⟩ := qx_bindE h
      refine qx_callVi (pc := 70) 1 r4 σ [.int x1, .int x2] [] rfl rfl rfl qcm_X4_get qcv_X4_get qwm_X8_106 rfl (Nat.le_of_ble_eq_true rfl) (Nat.le_of_ble_eq_true rfl) (by decide) dX8_point_70 (qPt_get_ok hr4) ?_
      exact qx_iret h rfl dX8_point_73
    rcases qx_ite h with ⟨hc3, h⟩ | ⟨hc3, h⟩
    · refine qx_tsIn (pc := 15) 64 3 hc3 dX8_point_15 (by decide) (by decide) rfl (by decide) ?_
      refine qx_aload_n (pc := 64) 0 dX8_point_64 rfl ?_
      refine qgC0_0 (pc := 65) qwf_X8_12 dX8_point_65 ?_
      refine qx_iload_n (pc := 68) 1 dX8_point_68 rfl ?_
      refine qx_iload_n (pc := 69) 2 dX8_point_69 rfl ?_
      obtain ⟨r5, hr5, h⟩ := qx_bindE h
      refine qx_callVi (pc := 70) 1 r5 σ [.int x1, .int x2] [] rfl rfl rfl qcm_X4_get qcv_X4_get qwm_X8_106 rfl (Nat.le_of_ble_eq_true rfl) (Nat.le_of_ble_eq_true rfl) (by decide) dX8_point_70 (qPt_get_ok hr5) ?_
      exact qx_iret h rfl dX8_point_73
    rcases qx_ite h with ⟨hc4, h⟩ | ⟨hc4, h⟩
    · refine qx_tsIn (pc := 15) 64 4 hc4 dX8_point_15 (by decide) (by decide) rfl (by decide) ?_
      refine qx_aload_n (pc := 64) 0 dX8_point_64 rfl ?_
      refine qgC0_0 (pc := 65) qwf_X8_12 dX8_point_65 ?_
      refine qx_iload_n (pc := 68) 1 dX8_point_68 rfl ?_
      refine qx_iload_n (pc := 69) 2 dX8_point_69 rfl ?_
      obtain ⟨r6, hr6, h⟩ := qx_bindE h
      refine qx_callVi (pc := 70) 1 r6 σ [.int x1, .int x2] [] rfl rfl rfl qcm_X4_get qcv_X4_get qwm_X8_106 rfl (Nat.le_of_ble_eq_true rfl) (Nat.le_of_ble_eq_true rfl) (by decide) dX8_point_70 (qPt_get_ok hr6) ?_
      exact qx_iret h rfl dX8_point_73
    rcases qx_ite h with ⟨hc5, h⟩ | ⟨hc5, h⟩
    · refine qx_tsIn (pc := 15) 64 5 hc5 dX8_point_15 (by decide) (by decide) rfl (by decide) ?_
      refine qx_aload_n (pc := 64) 0 dX8_point_64 rfl ?_
      refine qgC0_0 (pc := 65) qwf_X8_12 dX8_point_65 ?_
      refine qx_iload_n (pc := 68) 1 dX8_point_68 rfl ?_
      refine qx_iload_n (pc := 69) 2 dX8_point_69 rfl ?_
      obtain ⟨r7, hr7, h⟩ := qx_bindE h
      refine qx_callVi (pc := 70) 1 r7 σ [.int x1, .int x2] [] rfl rfl rfl qcm_X4_get qcv_X4_get qwm_X8_106 rfl (Nat.le_of_ble_eq_true rfl) (Nat.le_of_ble_eq_true rfl) (by decide) dX8_point_70 (qPt_get_ok hr7) ?_
      exact qx_iret h rfl dX8_point_73
    rcases qx_ite h with ⟨hc6, h⟩ | ⟨hc6, h⟩
    · refine qx_tsIn (pc := 15) 74 6 hc6 dX8_point_15 (by decide) (by decide) rfl (by decide) ?_
      refine qx_aload_n (pc := 74) 0 dX8_point_74 rfl ?_
      refine qgC0_2 (pc := 75) qwf_X8_28 dX8_point_75 ?_
      refine qx_iload_n (pc := 78) 1 dX8_point_78 rfl ?_
      obtain ⟨r8, hr8, h⟩ := qx_bindE h
      refine qx_callVi (pc := 79) 5 r8 σ [.int x1] [] rfl rfl rfl qcm_X3_isVisible qcv_X3_isVisible qwm_X8_112 rfl (Nat.le_of_ble_eq_true rfl) (Nat.le_of_ble_eq_true rfl) (by decide) dX8_point_79 (qPl_isVisible_ok hr8) ?_
      refine qx_if_eq (pc := 82) 89 h dX8_point_82 (by decide) (fun h => ?_) (fun h => ?_)
      · refine qx_iconst (pc := 89) 0 dX8_point_89 (by decide) ?_
        exact qx_iret h rfl dX8_point_90
      · refine qx_iconst (pc := 85) 1 dX8_point_85 (by decide) ?_
        refine qx_goto (pc := 86) 90 dX8_point_86 (by decide) ?_
        exact qx_iret h rfl dX8_point_90
    rcases qx_ite h with ⟨hc7, h⟩ | ⟨hc7, h⟩
    · refine qx_tsIn (pc := 15) 91 7 hc7 dX8_point_15 (by decide) (by decide) rfl (by decide) ?_
      refine qx_aload_n (pc := 91) 0 dX8_point_91 rfl ?_
      refine qgC0_3 (pc := 92) qwf_X8_37 dX8_point_92 ?_
      refine qx_iload_n (pc := 95) 1 dX8_point_95 rfl ?_
      obtain ⟨r9, hr9, h⟩ := qx_bindE h
      refine qx_callVi (pc := 96) 11 r9 σ [.int x1] [] rfl rfl rfl qcm_X1_sideOf qcv_X1_sideOf qwm_X8_115 rfl (Nat.le_of_ble_eq_true rfl) (Nat.le_of_ble_eq_true rfl) (by decide) dX8_point_96 (qLb_sideOf_ok hr9) ?_
      exact qx_iret h rfl dX8_point_99
    rcases qx_ite h with ⟨hc8, h⟩ | ⟨hc8, h⟩
    · refine qx_tsIn (pc := 15) 100 8 hc8 dX8_point_15 (by decide) (by decide) rfl (by decide) ?_
      refine qx_aload_n (pc := 100) 0 dX8_point_100 rfl ?_
      refine qgC0_2 (pc := 101) qwf_X8_28 dX8_point_101 ?_
      refine qx_iload_n (pc := 104) 1 dX8_point_104 rfl ?_
      obtain ⟨r10, hr10, h⟩ := qx_bindE h
      refine qx_callVi (pc := 105) 5 r10 σ [.int x1] [] rfl rfl rfl qcm_X3_manyOf qcv_X3_manyOf qwm_X8_119 rfl (Nat.le_of_ble_eq_true rfl) (Nat.le_of_ble_eq_true rfl) (by decide) dX8_point_105 (qPl_manyOf_ok hr10) ?_
      exact qx_iret h rfl dX8_point_108
    have ht0 := lv_neT (a := 0) hc0 rfl
    have ht1 := lv_neT (a := 1) hc1 rfl
    have ht2 := lv_neT (a := 2) hc2 rfl
    have ht3 := lv_neT (a := 3) hc3 rfl
    have ht4 := lv_neT (a := 4) hc4 rfl
    have ht5 := lv_neT (a := 5) hc5 rfl
    have ht6 := lv_neT (a := 6) hc6 rfl
    have ht7 := lv_neT (a := 7) hc7 rfl
    have ht8 := lv_neT (a := 8) hc8 rfl
    refine qx_tsOut (pc := 15) 109 dX8_point_15 (by omega) (by decide) ?_
    refine qx_bipush (pc := 109) (-2) dX8_point_109 (by decide) ?_
    exact qx_iret h rfl dX8_point_111
  · refine qx_bipush (pc := 11) (-2) dX8_point_11 (by decide) ?_
    exact qx_iret h rfl dX8_point_13
set_option maxHeartbeats 4000000 in
set_option maxRecDepth 100000 in
theorem qLP_setWindow_ok {σ : QS} {x1 : Int32} {x2 : Int32} {x3 : Int32} {x4 : Int32} {r : Int32 × QS} (h : qLP_setWindow σ x1 x2 x3 x4 = some r) : qx_E (qx_gC l D ci a z) 6 mX8_setWindow (some (.int r.1), r.2) 0 [(0, .ref (a 0)), (1, .int x1), (2, .int x2), (3, .int x3), (4, .int x4)] [] σ := by
  unfold qLP_setWindow at h
  refine qx_iload_n (pc := 0) 1 dX8_setWindow_0 rfl ?_
  refine qx_i2l (pc := 1) dX8_setWindow_1 ?_
  refine qx_iload_n (pc := 2) 2 dX8_setWindow_2 rfl ?_
  refine qx_i2l (pc := 3) dX8_setWindow_3 ?_
  refine qx_iload_n (pc := 4) 3 dX8_setWindow_4 rfl ?_
  refine qx_iload (pc := 5) 4 dX8_setWindow_5 rfl ?_
  obtain ⟨r1, hr1, h⟩ := qx_bindE h
  refine qx_callSi (pc := 7) r1 σ [.long (x1.toInt64), .long (x2.toInt64), .int x3, .int x4] [] rfl qcm_X7_allows qcs_X7_allows qwm_X8_122 rfl (Nat.le_of_ble_eq_true rfl) (Nat.le_of_ble_eq_true rfl) (by decide) dX8_setWindow_7 (qWi_allows_ok hr1) ?_
  refine qx_if_ne (pc := 10) 16 h dX8_setWindow_10 (by decide) (fun h => ?_) (fun h => ?_)
  · refine qx_aload_n (pc := 16) 0 dX8_setWindow_16 rfl ?_
    refine qgC0_1 (pc := 17) qwf_X8_19 dX8_setWindow_17 ?_
    refine qx_iload_n (pc := 20) 1 dX8_setWindow_20 rfl ?_
    refine qx_iload_n (pc := 21) 2 dX8_setWindow_21 rfl ?_
    refine qx_iload_n (pc := 22) 3 dX8_setWindow_22 rfl ?_
    refine qx_iload (pc := 23) 4 dX8_setWindow_23 rfl ?_
    obtain ⟨r2, hr2, h⟩ := qx_bindE h
    refine qx_callVv (pc := 25) 4 r2 [.int x1, .int x2, .int x3, .int x4] [] rfl rfl rfl qcm_X7_put qcv_X7_put qwm_X8_125 rfl (Nat.le_of_ble_eq_true rfl) (Nat.le_of_ble_eq_true rfl) (by decide) dX8_setWindow_25 (qWi_put_ok hr2) ?_
    refine qx_aload_n (pc := 28) 0 dX8_setWindow_28 rfl ?_
    obtain ⟨r3, hr3, h⟩ := qx_bindE h
    refine qx_callVi (pc := 29) 0 r3.1 r3.2 [] [] rfl rfl rfl qcm_X8_renew qcv_X8_renew qwm_X8_94 rfl (Nat.le_of_ble_eq_true rfl) (Nat.le_of_ble_eq_true rfl) (by decide) dX8_setWindow_29 (qLP_renew_ok hr3) ?_
    refine qx_pop (pc := 32) dX8_setWindow_32 rfl ?_
    refine qx_aload_n (pc := 33) 0 dX8_setWindow_33 rfl ?_
    refine qgC0_2 (pc := 34) qwf_X8_28 dX8_setWindow_34 ?_
    obtain ⟨r4, hr4, h⟩ := qx_bindE h
    refine qx_callVi (pc := 37) 5 r4 (r3.2) [] [] rfl rfl rfl qcm_X3_visiblePoints qcv_X3_visiblePoints qwm_X8_128 rfl (Nat.le_of_ble_eq_true rfl) (Nat.le_of_ble_eq_true rfl) (by decide) dX8_setWindow_37 (qPl_visiblePoints_ok hr4) ?_
    exact qx_iretS h rfl dX8_setWindow_40
  · refine qx_bipush (pc := 13) (-2) dX8_setWindow_13 (by decide) ?_
    exact qx_iretS h rfl dX8_setWindow_15
set_option maxHeartbeats 4000000 in
set_option maxRecDepth 100000 in
theorem qLP_pan_ok {σ : QS} {x1 : Int32} {x2 : Int32} {r : Int32 × QS} (h : qLP_pan σ x1 x2 = some r) : qx_E (qx_gC l D ci a z) 6 mX8_pan (some (.int r.1), r.2) 0 [(0, .ref (a 0)), (1, .int x1), (2, .int x2)] [] σ := by
  unfold qLP_pan at h
  refine qx_aload_n (pc := 0) 0 dX8_pan_0 rfl ?_
  refine qgC0_1 (pc := 1) qwf_X8_19 dX8_pan_1 ?_
  refine qgC4_0 (pc := 4) qwf_X8_131 dX8_pan_4 ?_
  refine qx_i2l (pc := 7) dX8_pan_7 ?_
  refine qx_iload_n (pc := 8) 1 dX8_pan_8 rfl ?_
  refine qx_i2l (pc := 9) dX8_pan_9 ?_
  refine qx_ladd (pc := 10) dX8_pan_10 ?_
  refine qx_lstore_n (pc := 11) (lv' := [(3, .long (((σ.1 4 0).toInt64) + (x1.toInt64))), (0, .ref (a 0)), (1, .int x1), (2, .int x2)]) dX8_pan_11 (Nat.le_of_ble_eq_true rfl) rfl ?_
  refine qx_aload_n (pc := 12) 1 dX8_pan_12 rfl ?_
  refine qgC0_1 (pc := 13) qwf_X8_19 dX8_pan_13 ?_
  refine qgC4_1 (pc := 16) qwf_X8_134 dX8_pan_16 ?_
  refine qx_i2l (pc := 19) dX8_pan_19 ?_
  refine qx_iload_n (pc := 20) 3 dX8_pan_20 rfl ?_
  refine qx_i2l (pc := 21) dX8_pan_21 ?_
  refine qx_ladd (pc := 22) dX8_pan_22 ?_
  refine qx_lstore (pc := 23) (lv' := [(5, .long (((σ.1 4 1).toInt64) + (x2.toInt64))), (3, .long (((σ.1 4 0).toInt64) + (x1.toInt64))), (0, .ref (a 0)), (1, .int x1), (2, .int x2)]) dX8_pan_23 (Nat.le_of_ble_eq_true rfl) rfl ?_
  refine qx_lload_n (pc := 25) 1 dX8_pan_25 rfl ?_
  refine qx_lload (pc := 26) 0 dX8_pan_26 rfl ?_
  refine qx_aload_n (pc := 28) 2 dX8_pan_28 rfl ?_
  refine qgC0_1 (pc := 29) qwf_X8_19 dX8_pan_29 ?_
  refine qgC4_2 (pc := 32) qwf_X8_137 dX8_pan_32 ?_
  refine qx_aload_n (pc := 35) 2 dX8_pan_35 rfl ?_
  refine qgC0_1 (pc := 36) qwf_X8_19 dX8_pan_36 ?_
  refine qgC4_3 (pc := 39) qwf_X8_140 dX8_pan_39 ?_
  obtain ⟨r1, hr1, h⟩ := qx_bindE h
  refine qx_callSi (pc := 42) r1 σ [.long (((σ.1 4 0).toInt64) + (x1.toInt64)), .long (((σ.1 4 1).toInt64) + (x2.toInt64)), .int (σ.1 4 2), .int (σ.1 4 3)] [] rfl qcm_X7_allows qcs_X7_allows qwm_X8_122 rfl (Nat.le_of_ble_eq_true rfl) (Nat.le_of_ble_eq_true rfl) (by decide) dX8_pan_42 (qWi_allows_ok hr1) ?_
  refine qx_if_ne (pc := 45) 51 h dX8_pan_45 (by decide) (fun h => ?_) (fun h => ?_)
  · refine qx_aload_n (pc := 51) 2 dX8_pan_51 rfl ?_
    refine qgC0_1 (pc := 52) qwf_X8_19 dX8_pan_52 ?_
    refine qx_lload_n (pc := 55) 1 dX8_pan_55 rfl ?_
    refine qx_l2i (pc := 56) dX8_pan_56 ?_
    refine qx_lload (pc := 57) 0 dX8_pan_57 rfl ?_
    refine qx_l2i (pc := 59) dX8_pan_59 ?_
    refine qx_aload_n (pc := 60) 2 dX8_pan_60 rfl ?_
    refine qgC0_1 (pc := 61) qwf_X8_19 dX8_pan_61 ?_
    refine qgC4_2 (pc := 64) qwf_X8_137 dX8_pan_64 ?_
    refine qx_aload_n (pc := 67) 2 dX8_pan_67 rfl ?_
    refine qgC0_1 (pc := 68) qwf_X8_19 dX8_pan_68 ?_
    refine qgC4_3 (pc := 71) qwf_X8_140 dX8_pan_71 ?_
    obtain ⟨r2, hr2, h⟩ := qx_bindE h
    refine qx_callVv (pc := 74) 4 r2 [.int ((((σ.1 4 0).toInt64) + (x1.toInt64)).toInt32), .int ((((σ.1 4 1).toInt64) + (x2.toInt64)).toInt32), .int (σ.1 4 2), .int (σ.1 4 3)] [] rfl rfl rfl qcm_X7_put qcv_X7_put qwm_X8_125 rfl (Nat.le_of_ble_eq_true rfl) (Nat.le_of_ble_eq_true rfl) (by decide) dX8_pan_74 (qWi_put_ok hr2) ?_
    refine qx_aload_n (pc := 77) 2 dX8_pan_77 rfl ?_
    obtain ⟨r3, hr3, h⟩ := qx_bindE h
    refine qx_callVi (pc := 78) 0 r3.1 r3.2 [] [] rfl rfl rfl qcm_X8_renew qcv_X8_renew qwm_X8_94 rfl (Nat.le_of_ble_eq_true rfl) (Nat.le_of_ble_eq_true rfl) (by decide) dX8_pan_78 (qLP_renew_ok hr3) ?_
    refine qx_istore (pc := 81) (lv' := [(7, .int (r3.1)), (5, .long (((σ.1 4 1).toInt64) + (x2.toInt64))), (3, .long (((σ.1 4 0).toInt64) + (x1.toInt64))), (0, .ref (a 0)), (1, .int x1), (2, .int x2)]) dX8_pan_81 (Nat.le_of_ble_eq_true rfl) rfl ?_
    refine qx_aload_n (pc := 83) 3 dX8_pan_83 rfl ?_
    refine qgC0_3 (pc := 84) qwf_X8_37 dX8_pan_84 ?_
    obtain ⟨r4, hr4, h⟩ := qx_bindE h
    refine qx_callVi (pc := 87) 11 r4.1 r4.2 [] [] rfl rfl rfl qcm_X1_addFree qcv_X1_addFree qwm_X8_143 rfl (Nat.le_of_ble_eq_true rfl) (Nat.le_of_ble_eq_true rfl) (by decide) dX8_pan_87 (qLb_addFree_ok hr4) ?_
    refine qx_pop (pc := 90) dX8_pan_90 rfl ?_
    refine qx_iload (pc := 91) 0 dX8_pan_91 rfl ?_
    exact qx_iretS h rfl dX8_pan_93
  · refine qx_bipush (pc := 48) (-2) dX8_pan_48 (by decide) ?_
    exact qx_iretS h rfl dX8_pan_50
set_option maxHeartbeats 4000000 in
set_option maxRecDepth 100000 in
theorem qLP_isSide_ok {σ : QS} {x0 : Int32} {r : Int32} (h : qLP_isSide σ x0 = some r) : qx_E (qx_gC l D ci a z) 1 mX8_isSide (some (.int r), σ) 0 [(0, .int x0)] [] σ := by
  unfold qLP_isSide at h
  refine qx_iload_n (pc := 0) 0 dX8_isSide_0 rfl ?_
  refine qx_if_lt (pc := 1) 14 h dX8_isSide_1 (by decide) (fun h => ?_) (fun h => ?_)
  · refine qx_iconst (pc := 14) 0 dX8_isSide_14 (by decide) ?_
    exact qx_nret h rfl rfl dX8_isSide_15
  · refine qx_iload_n (pc := 4) 0 dX8_isSide_4 rfl ?_
    refine qx_bipush (pc := 5) 8 dX8_isSide_5 (by decide) ?_
    refine qx_icmp_ge (pc := 7) 14 h dX8_isSide_7 (by decide) (fun h => ?_) (fun h => ?_)
    · refine qx_iconst (pc := 14) 0 dX8_isSide_14 (by decide) ?_
      exact qx_nret h rfl rfl dX8_isSide_15
    · refine qx_iconst (pc := 10) 1 dX8_isSide_10 (by decide) ?_
      refine qx_goto (pc := 11) 15 dX8_isSide_11 (by decide) ?_
      exact qx_nret h rfl rfl dX8_isSide_15
set_option maxHeartbeats 4000000 in
set_option maxRecDepth 100000 in
theorem qLP_place_ok {σ : QS} {x1 : Int32} {x2 : Int32} {x3 : Int32} {r : Int32} (h : qLP_place σ x1 x2 x3 = some r) : qx_E (qx_gC l D ci a z) 4 mX8_place (some (.int r), σ) 0 [(0, .ref (a 0)), (1, .int x1), (2, .int x2), (3, .int x3)] [] σ := by
  unfold qLP_place at h
  refine qx_aload_n (pc := 0) 0 dX8_place_0 rfl ?_
  refine qgC0_0 (pc := 1) qwf_X8_12 dX8_place_1 ?_
  refine qx_iload_n (pc := 4) 1 dX8_place_4 rfl ?_
  obtain ⟨r1, hr1, h⟩ := qx_bindE h
  refine qx_callVi (pc := 5) 1 r1 σ [.int x1] [] rfl rfl rfl qcm_X4_has qcv_X4_has qwm_X8_98 rfl (Nat.le_of_ble_eq_true rfl) (Nat.le_of_ble_eq_true rfl) (by decide) dX8_place_5 (qPt_has_ok hr1) ?_
  refine qx_if_eq (pc := 8) 18 h dX8_place_8 (by decide) (fun h => ?_) (fun h => ?_)
  · refine qx_bipush (pc := 18) (-2) dX8_place_18 (by decide) ?_
    exact qx_iret h rfl dX8_place_20
  · refine qx_iload_n (pc := 11) 2 dX8_place_11 rfl ?_
    obtain ⟨r2, hr2, h⟩ := qx_bindE h
    refine qx_callSi (pc := 12) r2 σ [.int x2] [] rfl qcm_X8_isSide qcs_X8_isSide qwm_X8_155 rfl (Nat.le_of_ble_eq_true rfl) (Nat.le_of_ble_eq_true rfl) (by decide) dX8_place_12 (qLP_isSide_ok hr2) ?_
    refine qx_if_ne (pc := 15) 21 h dX8_place_15 (by decide) (fun h => ?_) (fun h => ?_)
    · refine qx_iload_n (pc := 21) 3 dX8_place_21 rfl ?_
      rcases qx_ite h with ⟨hc0, h⟩ | ⟨hc0, h⟩
      · refine qx_tsIn (pc := 22) 56 0 hc0 dX8_place_22 (by decide) (by decide) rfl (by decide) ?_
        refine qx_aload_n (pc := 56) 0 dX8_place_56 rfl ?_
        refine qgC0_2 (pc := 57) qwf_X8_28 dX8_place_57 ?_
        refine qx_iload_n (pc := 60) 1 dX8_place_60 rfl ?_
        refine qx_iload_n (pc := 61) 2 dX8_place_61 rfl ?_
        obtain ⟨r3, hr3, h⟩ := qx_bindE h
        refine qx_callVi (pc := 62) 5 r3 σ [.int x1, .int x2] [] rfl rfl rfl qcm_X3_isPlace qcv_X3_isPlace qwm_X8_158 rfl (Nat.le_of_ble_eq_true rfl) (Nat.le_of_ble_eq_true rfl) (by decide) dX8_place_62 (qPl_isPlace_ok hr3) ?_
        refine qx_if_eq (pc := 65) 72 h dX8_place_65 (by decide) (fun h => ?_) (fun h => ?_)
        · refine qx_iconst (pc := 72) 0 dX8_place_72 (by decide) ?_
          exact qx_iret h rfl dX8_place_73
        · refine qx_iconst (pc := 68) 1 dX8_place_68 (by decide) ?_
          refine qx_goto (pc := 69) 73 dX8_place_69 (by decide) ?_
          exact qx_iret h rfl dX8_place_73
      rcases qx_ite h with ⟨hc1, h⟩ | ⟨hc1, h⟩
      · refine qx_tsIn (pc := 22) 74 1 hc1 dX8_place_22 (by decide) (by decide) rfl (by decide) ?_
        refine qx_aload_n (pc := 74) 0 dX8_place_74 rfl ?_
        refine qgC0_2 (pc := 75) qwf_X8_28 dX8_place_75 ?_
        refine qx_iload_n (pc := 78) 1 dX8_place_78 rfl ?_
        refine qx_iload_n (pc := 79) 2 dX8_place_79 rfl ?_
        obtain ⟨r4, hr4, h⟩ := qx_bindE h
        refine qx_callVi (pc := 80) 5 r4 σ [.int x1, .int x2] [] rfl rfl rfl qcm_X3_leftOf qcv_X3_leftOf qwm_X8_161 rfl (Nat.le_of_ble_eq_true rfl) (Nat.le_of_ble_eq_true rfl) (by decide) dX8_place_80 (qPl_leftOf_ok hr4) ?_
        exact qx_iret h rfl dX8_place_83
      rcases qx_ite h with ⟨hc2, h⟩ | ⟨hc2, h⟩
      · refine qx_tsIn (pc := 22) 84 2 hc2 dX8_place_22 (by decide) (by decide) rfl (by decide) ?_
        refine qx_aload_n (pc := 84) 0 dX8_place_84 rfl ?_
        refine qgC0_2 (pc := 85) qwf_X8_28 dX8_place_85 ?_
        refine qx_iload_n (pc := 88) 1 dX8_place_88 rfl ?_
        refine qx_iload_n (pc := 89) 2 dX8_place_89 rfl ?_
        obtain ⟨r5, hr5, h⟩ := qx_bindE h
        refine qx_callVi (pc := 90) 5 r5 σ [.int x1, .int x2] [] rfl rfl rfl qcm_X3_bottomOf qcv_X3_bottomOf qwm_X8_164 rfl (Nat.le_of_ble_eq_true rfl) (Nat.le_of_ble_eq_true rfl) (by decide) dX8_place_90 (qPl_bottomOf_ok hr5) ?_
        exact qx_iret h rfl dX8_place_93
      rcases qx_ite h with ⟨hc3, h⟩ | ⟨hc3, h⟩
      · refine qx_tsIn (pc := 22) 94 3 hc3 dX8_place_22 (by decide) (by decide) rfl (by decide) ?_
        refine qx_aload_n (pc := 94) 0 dX8_place_94 rfl ?_
        refine qgC0_2 (pc := 95) qwf_X8_28 dX8_place_95 ?_
        refine qx_iload_n (pc := 98) 1 dX8_place_98 rfl ?_
        refine qx_iload_n (pc := 99) 2 dX8_place_99 rfl ?_
        obtain ⟨r6, hr6, h⟩ := qx_bindE h
        refine qx_callVi (pc := 100) 5 r6 σ [.int x1, .int x2] [] rfl rfl rfl qcm_X3_clashesOf qcv_X3_clashesOf qwm_X8_167 rfl (Nat.le_of_ble_eq_true rfl) (Nat.le_of_ble_eq_true rfl) (by decide) dX8_place_100 (qPl_clashesOf_ok hr6) ?_
        exact qx_iret h rfl dX8_place_103
      rcases qx_ite h with ⟨hc4, h⟩ | ⟨hc4, h⟩
      · refine qx_tsIn (pc := 22) 104 4 hc4 dX8_place_22 (by decide) (by decide) rfl (by decide) ?_
        refine qx_aload_n (pc := 104) 0 dX8_place_104 rfl ?_
        refine qgC0_3 (pc := 105) qwf_X8_37 dX8_place_105 ?_
        refine qx_iload_n (pc := 108) 1 dX8_place_108 rfl ?_
        refine qx_iload_n (pc := 109) 2 dX8_place_109 rfl ?_
        obtain ⟨r7, hr7, h⟩ := qx_bindE h
        refine qx_callVi (pc := 110) 11 r7 σ [.int x1, .int x2] [] rfl rfl rfl qcm_X1_clashing qcv_X1_clashing qwm_X8_170 rfl (Nat.le_of_ble_eq_true rfl) (Nat.le_of_ble_eq_true rfl) (by decide) dX8_place_110 (qLb_clashing_ok hr7) ?_
        exact qx_iret h rfl dX8_place_113
      have ht0 := lv_neT (a := 0) hc0 rfl
      have ht1 := lv_neT (a := 1) hc1 rfl
      have ht2 := lv_neT (a := 2) hc2 rfl
      have ht3 := lv_neT (a := 3) hc3 rfl
      have ht4 := lv_neT (a := 4) hc4 rfl
      refine qx_tsOut (pc := 22) 114 dX8_place_22 (by omega) (by decide) ?_
      refine qx_bipush (pc := 114) (-2) dX8_place_114 (by decide) ?_
      exact qx_iret h rfl dX8_place_116
    · refine qx_bipush (pc := 18) (-2) dX8_place_18 (by decide) ?_
      exact qx_iret h rfl dX8_place_20
set_option maxHeartbeats 4000000 in
set_option maxRecDepth 100000 in
theorem qLP_clash_J42_ok {σ : QS} {x1 : Int32} {x2 : Int32} {x3 : Int32} {x4 : Int32} {s0 : Int32} {r : Int32} (h : qLP_clash_J42 σ x1 x2 x3 x4 s0 = some r) : qx_E (qx_gC l D ci a z) 2 mX8_clash (some (.int r), σ) 42 [(0, .ref (a 0)), (1, .int x1), (2, .int x2), (3, .int x3), (4, .int x4)] [.int s0] σ := by
  unfold qLP_clash_J42 at h
  refine qx_istore (pc := 42) (lv' := [(5, .int s0), (0, .ref (a 0)), (1, .int x1), (2, .int x2), (3, .int x3), (4, .int x4)]) dX8_clash_42 (Nat.le_of_ble_eq_true rfl) rfl ?_
  refine qx_iload (pc := 44) 0 dX8_clash_44 rfl ?_
  refine qx_if_eq (pc := 46) 54 h dX8_clash_46 (by decide) (fun h => ?_) (fun h => ?_)
  · refine qx_bipush (pc := 54) (-2) dX8_clash_54 (by decide) ?_
    exact qx_iret h rfl dX8_clash_56
  · refine qx_iload_n (pc := 49) 2 dX8_clash_49 rfl ?_
    refine qx_iload_n (pc := 50) 4 dX8_clash_50 rfl ?_
    refine qx_icmp_ne (pc := 51) 57 h dX8_clash_51 (by decide) (fun h => ?_) (fun h => ?_)
    · refine qx_aload_n (pc := 57) 1 dX8_clash_57 rfl ?_
      refine qgC0_2 (pc := 58) qwf_X8_28 dX8_clash_58 ?_
      refine qx_iload_n (pc := 61) 2 dX8_clash_61 rfl ?_
      refine qx_iload_n (pc := 62) 3 dX8_clash_62 rfl ?_
      obtain ⟨r1, hr1, h⟩ := qx_bindE h
      refine qx_callVi (pc := 63) 5 r1 σ [.int x1, .int x2] [] rfl rfl rfl qcm_X3_isPlace qcv_X3_isPlace qwm_X8_158 rfl (Nat.le_of_ble_eq_true rfl) (Nat.le_of_ble_eq_true rfl) (by decide) dX8_clash_63 (qPl_isPlace_ok hr1) ?_
      refine qx_if_eq (pc := 66) 82 h dX8_clash_66 (by decide) (fun h => ?_) (fun h => ?_)
      · refine qx_bipush (pc := 82) (-3) dX8_clash_82 (by decide) ?_
        exact qx_iret h rfl dX8_clash_84
      · refine qx_aload_n (pc := 69) 1 dX8_clash_69 rfl ?_
        refine qgC0_2 (pc := 70) qwf_X8_28 dX8_clash_70 ?_
        refine qx_iload_n (pc := 73) 4 dX8_clash_73 rfl ?_
        refine qx_iload (pc := 74) 5 dX8_clash_74 rfl ?_
        obtain ⟨r2, hr2, h⟩ := qx_bindE h
        refine qx_callVi (pc := 76) 5 r2 σ [.int x3, .int x4] [] rfl rfl rfl qcm_X3_isPlace qcv_X3_isPlace qwm_X8_158 rfl (Nat.le_of_ble_eq_true rfl) (Nat.le_of_ble_eq_true rfl) (by decide) dX8_clash_76 (qPl_isPlace_ok hr2) ?_
        refine qx_if_ne (pc := 79) 85 h dX8_clash_79 (by decide) (fun h => ?_) (fun h => ?_)
        · refine qx_aload_n (pc := 85) 1 dX8_clash_85 rfl ?_
          refine qgC0_2 (pc := 86) qwf_X8_28 dX8_clash_86 ?_
          refine qx_iload_n (pc := 89) 2 dX8_clash_89 rfl ?_
          refine qx_iload_n (pc := 90) 3 dX8_clash_90 rfl ?_
          refine qx_iload_n (pc := 91) 4 dX8_clash_91 rfl ?_
          refine qx_iload (pc := 92) 5 dX8_clash_92 rfl ?_
          obtain ⟨r3, hr3, h⟩ := qx_bindE h
          refine qx_callVi (pc := 94) 5 r3 σ [.int x1, .int x2, .int x3, .int x4] [] rfl rfl rfl qcm_X3_doClash qcv_X3_doClash qwm_X8_173 rfl (Nat.le_of_ble_eq_true rfl) (Nat.le_of_ble_eq_true rfl) (by decide) dX8_clash_94 (qPl_doClash_ok hr3) ?_
          refine qx_if_eq (pc := 97) 104 h dX8_clash_97 (by decide) (fun h => ?_) (fun h => ?_)
          · refine qx_iconst (pc := 104) 0 dX8_clash_104 (by decide) ?_
            exact qx_iret h rfl dX8_clash_105
          · refine qx_iconst (pc := 100) 1 dX8_clash_100 (by decide) ?_
            refine qx_goto (pc := 101) 105 dX8_clash_101 (by decide) ?_
            exact qx_iret h rfl dX8_clash_105
        · refine qx_bipush (pc := 82) (-3) dX8_clash_82 (by decide) ?_
          exact qx_iret h rfl dX8_clash_84
    · refine qx_bipush (pc := 54) (-2) dX8_clash_54 (by decide) ?_
      exact qx_iret h rfl dX8_clash_56
set_option maxHeartbeats 4000000 in
set_option maxRecDepth 100000 in
theorem qLP_clash_ok {σ : QS} {x1 : Int32} {x2 : Int32} {x3 : Int32} {x4 : Int32} {r : Int32} (h : qLP_clash σ x1 x2 x3 x4 = some r) : qx_E (qx_gC l D ci a z) 2 mX8_clash (some (.int r), σ) 0 [(0, .ref (a 0)), (1, .int x1), (2, .int x2), (3, .int x3), (4, .int x4)] [] σ := by
  unfold qLP_clash at h
  refine qx_aload_n (pc := 0) 0 dX8_clash_0 rfl ?_
  refine qgC0_0 (pc := 1) qwf_X8_12 dX8_clash_1 ?_
  refine qx_iload_n (pc := 4) 1 dX8_clash_4 rfl ?_
  obtain ⟨r4, hr4, h⟩ := qx_bindE h
  refine qx_callVi (pc := 5) 1 r4 σ [.int x1] [] rfl rfl rfl qcm_X4_has qcv_X4_has qwm_X8_98 rfl (Nat.le_of_ble_eq_true rfl) (Nat.le_of_ble_eq_true rfl) (by decide) dX8_clash_5 (qPt_has_ok hr4) ?_
  refine qx_if_eq (pc := 8) 41 h dX8_clash_8 (by decide) (fun h => ?_) (fun h => ?_)
  · refine qx_iconst (pc := 41) 0 dX8_clash_41 (by decide) ?_
    exact (qLP_clash_J42_ok h)
  · refine qx_iload_n (pc := 11) 2 dX8_clash_11 rfl ?_
    obtain ⟨r5, hr5, h⟩ := qx_bindE h
    refine qx_callSi (pc := 12) r5 σ [.int x2] [] rfl qcm_X8_isSide qcs_X8_isSide qwm_X8_155 rfl (Nat.le_of_ble_eq_true rfl) (Nat.le_of_ble_eq_true rfl) (by decide) dX8_clash_12 (qLP_isSide_ok hr5) ?_
    refine qx_if_eq (pc := 15) 41 h dX8_clash_15 (by decide) (fun h => ?_) (fun h => ?_)
    · refine qx_iconst (pc := 41) 0 dX8_clash_41 (by decide) ?_
      exact (qLP_clash_J42_ok h)
    · refine qx_aload_n (pc := 18) 0 dX8_clash_18 rfl ?_
      refine qgC0_0 (pc := 19) qwf_X8_12 dX8_clash_19 ?_
      refine qx_iload_n (pc := 22) 3 dX8_clash_22 rfl ?_
      obtain ⟨r6, hr6, h⟩ := qx_bindE h
      refine qx_callVi (pc := 23) 1 r6 σ [.int x3] [] rfl rfl rfl qcm_X4_has qcv_X4_has qwm_X8_98 rfl (Nat.le_of_ble_eq_true rfl) (Nat.le_of_ble_eq_true rfl) (by decide) dX8_clash_23 (qPt_has_ok hr6) ?_
      refine qx_if_eq (pc := 26) 41 h dX8_clash_26 (by decide) (fun h => ?_) (fun h => ?_)
      · refine qx_iconst (pc := 41) 0 dX8_clash_41 (by decide) ?_
        exact (qLP_clash_J42_ok h)
      · refine qx_iload (pc := 29) 4 dX8_clash_29 rfl ?_
        obtain ⟨r7, hr7, h⟩ := qx_bindE h
        refine qx_callSi (pc := 31) r7 σ [.int x4] [] rfl qcm_X8_isSide qcs_X8_isSide qwm_X8_155 rfl (Nat.le_of_ble_eq_true rfl) (Nat.le_of_ble_eq_true rfl) (by decide) dX8_clash_31 (qLP_isSide_ok hr7) ?_
        refine qx_if_eq (pc := 34) 41 h dX8_clash_34 (by decide) (fun h => ?_) (fun h => ?_)
        · refine qx_iconst (pc := 41) 0 dX8_clash_41 (by decide) ?_
          exact (qLP_clash_J42_ok h)
        · refine qx_iconst (pc := 37) 1 dX8_clash_37 (by decide) ?_
          refine qx_goto (pc := 38) 42 dX8_clash_38 (by decide) ?_
          exact (qLP_clash_J42_ok h)
set_option maxHeartbeats 4000000 in
set_option maxRecDepth 100000 in
theorem qLP_labelAt_ok {σ : QS} {x1 : Int32} {x2 : Int32} {r : Int32} (h : qLP_labelAt σ x1 x2 = some r) : qx_E (qx_gC l D ci a z) 3 mX8_labelAt (some (.int r), σ) 0 [(0, .ref (a 0)), (1, .int x1), (2, .int x2)] [] σ := by
  unfold qLP_labelAt at h
  refine qx_iconst (pc := 0) 0 dX8_labelAt_0 (by decide) ?_
  refine qx_iload_n (pc := 1) 1 dX8_labelAt_1 rfl ?_
  obtain ⟨r1, hr1, h⟩ := qx_bindE h
  refine qx_callSi (pc := 2) r1 σ [.int 0, .int x1] [] rfl qcm_X4_allows qcs_X4_allows qwm_X8_71 rfl (Nat.le_of_ble_eq_true rfl) (Nat.le_of_ble_eq_true rfl) (by decide) dX8_labelAt_2 (qPt_allows_ok hr1) ?_
  refine qx_if_eq (pc := 5) 16 h dX8_labelAt_5 (by decide) (fun h => ?_) (fun h => ?_)
  · refine qx_bipush (pc := 16) (-2) dX8_labelAt_16 (by decide) ?_
    exact qx_iret h rfl dX8_labelAt_18
  · refine qx_iconst (pc := 8) 1 dX8_labelAt_8 (by decide) ?_
    refine qx_iload_n (pc := 9) 2 dX8_labelAt_9 rfl ?_
    obtain ⟨r2, hr2, h⟩ := qx_bindE h
    refine qx_callSi (pc := 10) r2 σ [.int 1, .int x2] [] rfl qcm_X4_allows qcs_X4_allows qwm_X8_71 rfl (Nat.le_of_ble_eq_true rfl) (Nat.le_of_ble_eq_true rfl) (by decide) dX8_labelAt_10 (qPt_allows_ok hr2) ?_
    refine qx_if_ne (pc := 13) 19 h dX8_labelAt_13 (by decide) (fun h => ?_) (fun h => ?_)
    · refine qx_aload_n (pc := 19) 0 dX8_labelAt_19 rfl ?_
      refine qgC0_3 (pc := 20) qwf_X8_37 dX8_labelAt_20 ?_
      refine qx_iload_n (pc := 23) 1 dX8_labelAt_23 rfl ?_
      refine qx_iload_n (pc := 24) 2 dX8_labelAt_24 rfl ?_
      obtain ⟨r3, hr3, h⟩ := qx_bindE h
      refine qx_callVi (pc := 25) 11 r3 σ [.int x1, .int x2] [] rfl rfl rfl qcm_X1_ownerOf qcv_X1_ownerOf qwm_X8_177 rfl (Nat.le_of_ble_eq_true rfl) (Nat.le_of_ble_eq_true rfl) (by decide) dX8_labelAt_25 (qLb_ownerOf_ok hr3) ?_
      exact qx_iret h rfl dX8_labelAt_28
    · refine qx_bipush (pc := 16) (-2) dX8_labelAt_16 (by decide) ?_
      exact qx_iret h rfl dX8_labelAt_18
set_option maxHeartbeats 4000000 in
set_option maxRecDepth 100000 in
theorem qLP_fill_ok {σ : QS} {r : Int32 × QS} (h : qLP_fill σ = some r) : qx_E (qx_gC l D ci a z) 6 mX8_fill (some (.int r.1), r.2) 0 [(0, .ref (a 0))] [] σ := by
  unfold qLP_fill at h
  refine qx_aload_n (pc := 0) 0 dX8_fill_0 rfl ?_
  refine qgC0_3 (pc := 1) qwf_X8_37 dX8_fill_1 ?_
  obtain ⟨r1, hr1, h⟩ := qx_bindE h
  refine qx_callVi (pc := 4) 11 r1.1 r1.2 [] [] rfl rfl rfl qcm_X1_addFree qcv_X1_addFree qwm_X8_143 rfl (Nat.le_of_ble_eq_true rfl) (Nat.le_of_ble_eq_true rfl) (by decide) dX8_fill_4 (qLb_addFree_ok hr1) ?_
  exact qx_iretS h rfl dX8_fill_7
set_option maxHeartbeats 4000000 in
set_option maxRecDepth 100000 in
theorem qLP_improve_ok {σ : QS} {r : Int32 × QS} (h : qLP_improve σ = some r) : qx_E (qx_gC l D ci a z) 7 mX8_improve (some (.int r.1), r.2) 0 [(0, .ref (a 0))] [] σ := by
  unfold qLP_improve at h
  refine qx_aload_n (pc := 0) 0 dX8_improve_0 rfl ?_
  refine qgC0_3 (pc := 1) qwf_X8_37 dX8_improve_1 ?_
  obtain ⟨r1, hr1, h⟩ := qx_bindE h
  refine qx_callVi (pc := 4) 11 r1.1 r1.2 [] [] rfl rfl rfl qcm_X1_makeRoom qcv_X1_makeRoom qwm_X8_180 rfl (Nat.le_of_ble_eq_true rfl) (Nat.le_of_ble_eq_true rfl) (by decide) dX8_improve_4 (qLb_makeRoom_ok hr1) ?_
  exact qx_iretS h rfl dX8_improve_7
set_option maxHeartbeats 4000000 in
set_option maxRecDepth 100000 in
theorem qLP_push_ok {σ : QS} {r : Int32 × QS} (h : qLP_push σ = some r) : qx_E (qx_gC l D ci a z) 7 mX8_push (some (.int r.1), r.2) 0 [(0, .ref (a 0))] [] σ := by
  unfold qLP_push at h
  refine qx_aload_n (pc := 0) 0 dX8_push_0 rfl ?_
  refine qgC0_3 (pc := 1) qwf_X8_37 dX8_push_1 ?_
  obtain ⟨r1, hr1, h⟩ := qx_bindE h
  refine qx_callVi (pc := 4) 11 r1.1 r1.2 [] [] rfl rfl rfl qcm_X1_pushAway qcv_X1_pushAway qwm_X8_183 rfl (Nat.le_of_ble_eq_true rfl) (Nat.le_of_ble_eq_true rfl) (by decide) dX8_push_4 (qLb_pushAway_ok hr1) ?_
  exact qx_iretS h rfl dX8_push_7
set_option maxHeartbeats 4000000 in
set_option maxRecDepth 100000 in
theorem qLP_show_J26_ok {σ : QS} {x1 : Int32} {x2 : Int32} {r : Int32 × QS} (h : qLP_show_J26 σ x1 x2 = some r) : qx_E (qx_gC l D ci a z) 4 mX8_show (some (.int r.1), r.2) 26 [(0, .ref (a 0)), (1, .int x1), (2, .int x2)] [] σ := by
  unfold qLP_show_J26 at h
  refine qx_aload_n (pc := 26) 0 dX8_show_26 rfl ?_
  refine qgC0_3 (pc := 27) qwf_X8_37 dX8_show_27 ?_
  refine qx_iload_n (pc := 30) 1 dX8_show_30 rfl ?_
  obtain ⟨r1, hr1, h⟩ := qx_bindE h
  refine qx_callVi (pc := 31) 11 r1 σ [.int x1] [] rfl rfl rfl qcm_X1_sideOf qcv_X1_sideOf qwm_X8_115 rfl (Nat.le_of_ble_eq_true rfl) (Nat.le_of_ble_eq_true rfl) (by decide) dX8_show_31 (qLb_sideOf_ok hr1) ?_
  refine qx_istore_n (pc := 34) (lv' := [(3, .int r1), (0, .ref (a 0)), (1, .int x1), (2, .int x2)]) dX8_show_34 (Nat.le_of_ble_eq_true rfl) rfl ?_
  refine qx_iload_n (pc := 35) 3 dX8_show_35 rfl ?_
  refine qx_iconst (pc := 36) (-1) dX8_show_36 (by decide) ?_
  refine qx_icmp_ne (pc := 37) 50 h dX8_show_37 (by decide) (fun h => ?_) (fun h => ?_)
  · refine qx_aload_n (pc := 50) 1 dX8_show_50 rfl ?_
    refine qgC0_3 (pc := 51) qwf_X8_37 dX8_show_51 ?_
    refine qx_iload_n (pc := 54) 2 dX8_show_54 rfl ?_
    refine qx_iload_n (pc := 55) 3 dX8_show_55 rfl ?_
    obtain ⟨r2, hr2, h⟩ := qx_bindE h
    refine qx_callVi (pc := 56) 11 r2 σ [.int x1, .int x2] [] rfl rfl rfl qcm_X1_isFree qcv_X1_isFree qwm_X8_186 rfl (Nat.le_of_ble_eq_true rfl) (Nat.le_of_ble_eq_true rfl) (by decide) dX8_show_56 (qLb_isFree_ok hr2) ?_
    refine qx_if_ne (pc := 59) 65 h dX8_show_59 (by decide) (fun h => ?_) (fun h => ?_)
    · refine qx_aload_n (pc := 65) 1 dX8_show_65 rfl ?_
      refine qgC0_3 (pc := 66) qwf_X8_37 dX8_show_66 ?_
      refine qx_iload_n (pc := 69) 2 dX8_show_69 rfl ?_
      refine qx_iload_n (pc := 70) 3 dX8_show_70 rfl ?_
      obtain ⟨r3, hr3, h⟩ := qx_bindE h
      refine qx_callVv (pc := 71) 11 r3 [.int x1, .int x2] [] rfl rfl rfl qcm_X1_put qcv_X1_put qwm_X8_189 rfl (Nat.le_of_ble_eq_true rfl) (Nat.le_of_ble_eq_true rfl) (by decide) dX8_show_71 (qLb_put_ok hr3) ?_
      refine qx_iload_n (pc := 74) 0 dX8_show_74 rfl ?_
      exact qx_iretS h rfl dX8_show_75
    · refine qx_bipush (pc := 62) (-3) dX8_show_62 (by decide) ?_
      exact qx_iretS h rfl dX8_show_64
  · refine qx_aload_n (pc := 40) 1 dX8_show_40 rfl ?_
    refine qgC0_3 (pc := 41) qwf_X8_37 dX8_show_41 ?_
    refine qx_iload_n (pc := 44) 2 dX8_show_44 rfl ?_
    obtain ⟨r4, hr4, h⟩ := qx_bindE h
    refine qx_callVv (pc := 45) 11 r4 [.int x1] [] rfl rfl rfl qcm_X1_hide qcv_X1_hide qwm_X8_90 rfl (Nat.le_of_ble_eq_true rfl) (Nat.le_of_ble_eq_true rfl) (by decide) dX8_show_45 (qLb_hide_ok hr4) ?_
    refine qx_iload_n (pc := 48) 0 dX8_show_48 rfl ?_
    exact qx_iretS h rfl dX8_show_49
set_option maxHeartbeats 4000000 in
set_option maxRecDepth 100000 in
theorem qLP_show_ok {σ : QS} {x1 : Int32} {x2 : Int32} {r : Int32 × QS} (h : qLP_show σ x1 x2 = some r) : qx_E (qx_gC l D ci a z) 4 mX8_show (some (.int r.1), r.2) 0 [(0, .ref (a 0)), (1, .int x1), (2, .int x2)] [] σ := by
  unfold qLP_show at h
  refine qx_aload_n (pc := 0) 0 dX8_show_0 rfl ?_
  refine qgC0_0 (pc := 1) qwf_X8_12 dX8_show_1 ?_
  refine qx_iload_n (pc := 4) 1 dX8_show_4 rfl ?_
  obtain ⟨r5, hr5, h⟩ := qx_bindE h
  refine qx_callVi (pc := 5) 1 r5 σ [.int x1] [] rfl rfl rfl qcm_X4_has qcv_X4_has qwm_X8_98 rfl (Nat.le_of_ble_eq_true rfl) (Nat.le_of_ble_eq_true rfl) (by decide) dX8_show_5 (qPt_has_ok hr5) ?_
  refine qx_if_eq (pc := 8) 23 h dX8_show_8 (by decide) (fun h => ?_) (fun h => ?_)
  · refine qx_bipush (pc := 23) (-2) dX8_show_23 (by decide) ?_
    exact qx_iretS h rfl dX8_show_25
  · refine qx_iload_n (pc := 11) 2 dX8_show_11 rfl ?_
    refine qx_iconst (pc := 12) (-1) dX8_show_12 (by decide) ?_
    refine qx_icmp_eq (pc := 13) 26 h dX8_show_13 (by decide) (fun h => ?_) (fun h => ?_)
    · exact (qLP_show_J26_ok h)
    · refine qx_iload_n (pc := 16) 2 dX8_show_16 rfl ?_
      obtain ⟨r6, hr6, h⟩ := qx_bindE h
      refine qx_callSi (pc := 17) r6 σ [.int x2] [] rfl qcm_X8_isSide qcs_X8_isSide qwm_X8_155 rfl (Nat.le_of_ble_eq_true rfl) (Nat.le_of_ble_eq_true rfl) (by decide) dX8_show_17 (qLP_isSide_ok hr6) ?_
      refine qx_if_ne (pc := 20) 26 h dX8_show_20 (by decide) (fun h => ?_) (fun h => ?_)
      · exact (qLP_show_J26_ok h)
      · refine qx_bipush (pc := 23) (-2) dX8_show_23 (by decide) ?_
        exact qx_iretS h rfl dX8_show_25
set_option maxHeartbeats 4000000 in
set_option maxRecDepth 100000 in
theorem qLP_hideAll_ok {σ : QS} {r : Int32 × QS} (h : qLP_hideAll σ = some r) : qx_E (qx_gC l D ci a z) 4 mX8_hideAll (some (.int r.1), r.2) 0 [(0, .ref (a 0))] [] σ := by
  unfold qLP_hideAll at h
  refine qx_aload_n (pc := 0) 0 dX8_hideAll_0 rfl ?_
  refine qgC0_3 (pc := 1) qwf_X8_37 dX8_hideAll_1 ?_
  obtain ⟨r1, hr1, h⟩ := qx_bindE h
  refine qx_callVi (pc := 4) 11 r1.1 r1.2 [] [] rfl rfl rfl qcm_X1_hideEach qcv_X1_hideEach qwm_X8_192 rfl (Nat.le_of_ble_eq_true rfl) (Nat.le_of_ble_eq_true rfl) (by decide) dX8_hideAll_4 (qLb_hideEach_ok hr1) ?_
  exact qx_iretS h rfl dX8_hideAll_7
set_option maxHeartbeats 4000000 in
set_option maxRecDepth 100000 in
theorem qLP_greatest_ok {σ : QS} {r : Int32 × QS} (h : qLP_greatest σ = some r) : qx_E (qx_gC l D ci a z) 14 mX8_greatest (some (.int r.1), r.2) 0 [(0, .ref (a 0))] [] σ := by
  unfold qLP_greatest at h
  refine qx_aload_n (pc := 0) 0 dX8_greatest_0 rfl ?_
  refine qgC0_4 (pc := 1) qwf_X8_44 dX8_greatest_1 ?_
  obtain ⟨r1, hr1, h⟩ := qx_bindE h
  refine qx_callVi (pc := 4) 13 r1.1 r1.2 [] [] rfl rfl rfl qcm_X5_greatestSum qcv_X5_greatestSum qwm_X8_195 rfl (Nat.le_of_ble_eq_true rfl) (Nat.le_of_ble_eq_true rfl) (by decide) dX8_greatest_4 (qSe_greatestSum_ok hr1) ?_
  exact qx_iretS h rfl dX8_greatest_7
set_option maxHeartbeats 4000000 in
set_option maxRecDepth 100000 in
theorem qLP_leaders_ok {σ : QS} {r : Int32 × QS} (h : qLP_leaders σ = some r) : qx_E (qx_gC l D ci a z) 6 mX8_leaders (some (.int r.1), r.2) 0 [(0, .ref (a 0))] [] σ := by
  unfold qLP_leaders at h
  refine qx_aload_n (pc := 0) 0 dX8_leaders_0 rfl ?_
  refine qgC0_5 (pc := 1) qwf_X8_53 dX8_leaders_1 ?_
  obtain ⟨r1, hr1, h⟩ := qx_bindE h
  refine qx_callVi (pc := 4) 16 r1.1 r1.2 [] [] rfl rfl rfl qcm_X2_lay qcv_X2_lay qwm_X8_198 rfl (Nat.le_of_ble_eq_true rfl) (Nat.le_of_ble_eq_true rfl) (by decide) dX8_leaders_4 (qLn_lay_ok hr1) ?_
  exact qx_iretS h rfl dX8_leaders_7
set_option maxHeartbeats 4000000 in
set_option maxRecDepth 100000 in
theorem qLP_leader_ok {σ : QS} {x1 : Int32} {x2 : Int32} {r : Int32} (h : qLP_leader σ x1 x2 = some r) : qx_E (qx_gC l D ci a z) 2 mX8_leader (some (.int r), σ) 0 [(0, .ref (a 0)), (1, .int x1), (2, .int x2)] [] σ := by
  unfold qLP_leader at h
  refine qx_iload_n (pc := 0) 1 dX8_leader_0 rfl ?_
  refine qx_if_lt (pc := 1) 13 h dX8_leader_1 (by decide) (fun h => ?_) (fun h => ?_)
  · refine qx_bipush (pc := 13) (-2) dX8_leader_13 (by decide) ?_
    exact qx_iret h rfl dX8_leader_15
  · refine qx_iload_n (pc := 4) 2 dX8_leader_4 rfl ?_
    refine qx_if_lt (pc := 5) 13 h dX8_leader_5 (by decide) (fun h => ?_) (fun h => ?_)
    · refine qx_bipush (pc := 13) (-2) dX8_leader_13 (by decide) ?_
      exact qx_iret h rfl dX8_leader_15
    · refine qx_iload_n (pc := 8) 2 dX8_leader_8 rfl ?_
      refine qx_iconst (pc := 9) 4 dX8_leader_9 (by decide) ?_
      refine qx_icmp_lt (pc := 10) 16 h dX8_leader_10 (by decide) (fun h => ?_) (fun h => ?_)
      · refine qx_iload_n (pc := 16) 1 dX8_leader_16 rfl ?_
        refine qx_aload_n (pc := 17) 0 dX8_leader_17 rfl ?_
        refine qgC0_5 (pc := 18) qwf_X8_53 dX8_leader_18 ?_
        refine qgC16_0 (pc := 21) qwf_X8_201 dX8_leader_21 ?_
        refine qx_icmp_ge (pc := 24) 39 h dX8_leader_24 (by decide) (fun h => ?_) (fun h => ?_)
        · refine qx_iconst (pc := 39) (-1) dX8_leader_39 (by decide) ?_
          exact qx_iret h rfl dX8_leader_40
        · refine qx_aload_n (pc := 27) 0 dX8_leader_27 rfl ?_
          refine qgC0_5 (pc := 28) qwf_X8_53 dX8_leader_28 ?_
          refine qx_iload_n (pc := 31) 1 dX8_leader_31 rfl ?_
          refine qx_iload_n (pc := 32) 2 dX8_leader_32 rfl ?_
          obtain ⟨r1, hr1, h⟩ := qx_bindE h
          refine qx_callVi (pc := 33) 16 r1 σ [.int x1, .int x2] [] rfl rfl rfl qcm_X2_get qcv_X2_get qwm_X8_202 rfl (Nat.le_of_ble_eq_true rfl) (Nat.le_of_ble_eq_true rfl) (by decide) dX8_leader_33 (qLn_get_ok hr1) ?_
          refine qx_goto (pc := 36) 40 dX8_leader_36 (by decide) ?_
          exact qx_iret h rfl dX8_leader_40
      · refine qx_bipush (pc := 13) (-2) dX8_leader_13 (by decide) ?_
        exact qx_iret h rfl dX8_leader_15
set_option maxHeartbeats 4000000 in
set_option maxRecDepth 100000 in
theorem qLP_type_ok {σ : QS} {x1 : Int32} {r : Int32 × QS} (h : qLP_type σ x1 = some r) : qx_E (qx_gC l D ci a z) 2 mX8_type (some (.int r.1), r.2) 0 [(0, .ref (a 0)), (1, .int x1)] [] σ := by
  unfold qLP_type at h
  refine qx_iload_n (pc := 0) 1 dX8_type_0 rfl ?_
  refine qx_if_lt (pc := 1) 10 h dX8_type_1 (by decide) (fun h => ?_) (fun h => ?_)
  · refine qx_bipush (pc := 10) (-2) dX8_type_10 (by decide) ?_
    exact qx_iretS h rfl dX8_type_12
  · refine qx_iload_n (pc := 4) 1 dX8_type_4 rfl ?_
    refine qx_bipush (pc := 5) 127 dX8_type_5 (by decide) ?_
    refine qx_icmp_le (pc := 7) 13 h dX8_type_7 (by decide) (fun h => ?_) (fun h => ?_)
    · refine qx_aload_n (pc := 13) 0 dX8_type_13 rfl ?_
      refine qgC0_6 (pc := 14) qwf_X8_60 dX8_type_14 ?_
      refine qgC19_0 (pc := 17) qwf_X8_203 dX8_type_17 ?_
      refine qx_bipush (pc := 20) 80 dX8_type_20 (by decide) ?_
      refine qx_icmp_lt (pc := 22) 28 h dX8_type_22 (by decide) (fun h => ?_) (fun h => ?_)
      · refine qx_aload_n (pc := 28) 0 dX8_type_28 rfl ?_
        refine qgC0_6 (pc := 29) qwf_X8_60 dX8_type_29 ?_
        refine qx_iload_n (pc := 32) 1 dX8_type_32 rfl ?_
        obtain ⟨r1, hr1, h⟩ := qx_bindE h
        refine qx_callVv (pc := 33) 19 r1 [.int x1] [] rfl rfl rfl qcm_X6_append qcv_X6_append qwm_X8_206 rfl (Nat.le_of_ble_eq_true rfl) (Nat.le_of_ble_eq_true rfl) (by decide) dX8_type_33 (qTx_append_ok hr1) ?_
        refine qx_aload_n (pc := 36) 0 dX8_type_36 rfl ?_
        refine qgC0_6 (pc := 37) qwf_X8_60 dX8_type_37 ?_
        refine qgC19_0 (pc := 40) qwf_X8_203 dX8_type_40 ?_
        exact qx_iretS h rfl dX8_type_43
      · refine qx_bipush (pc := 25) (-4) dX8_type_25 (by decide) ?_
        exact qx_iretS h rfl dX8_type_27
    · refine qx_bipush (pc := 10) (-2) dX8_type_10 (by decide) ?_
      exact qx_iretS h rfl dX8_type_12
set_option maxHeartbeats 4000000 in
set_option maxRecDepth 100000 in
theorem qLP_clear_ok {σ : QS} {r : Int32 × QS} (h : qLP_clear σ = some r) : qx_E (qx_gC l D ci a z) 1 mX8_clear (some (.int r.1), r.2) 0 [(0, .ref (a 0))] [] σ := by
  unfold qLP_clear at h
  refine qx_aload_n (pc := 0) 0 dX8_clear_0 rfl ?_
  refine qgC0_6 (pc := 1) qwf_X8_60 dX8_clear_1 ?_
  refine qgC19_0 (pc := 4) qwf_X8_203 dX8_clear_4 ?_
  refine qx_istore_n (pc := 7) (lv' := [(1, .int (σ.1 19 0)), (0, .ref (a 0))]) dX8_clear_7 (Nat.le_of_ble_eq_true rfl) rfl ?_
  refine qx_aload_n (pc := 8) 1 dX8_clear_8 rfl ?_
  refine qgC0_6 (pc := 9) qwf_X8_60 dX8_clear_9 ?_
  refine qx_iconst (pc := 12) 0 dX8_clear_12 (by decide) ?_
  refine qpC19_0 (pc := 13) qwf_X8_203 dX8_clear_13 ?_
  refine qx_iload_n (pc := 16) 0 dX8_clear_16 rfl ?_
  exact qx_iretS h rfl dX8_clear_17
set_option maxHeartbeats 4000000 in
set_option maxRecDepth 100000 in
theorem qLP_run_ok {σ : QS} {r : Int32 × QS} (h : qLP_run σ = some r) : qx_E (qx_gC l D ci a z) 9 mX8_run (some (.int r.1), r.2) 0 [(0, .ref (a 0))] [] σ := by
  unfold qLP_run at h
  refine qx_aload_n (pc := 0) 0 dX8_run_0 rfl ?_
  refine qgC0_7 (pc := 1) qwf_X8_67 dX8_run_1 ?_
  refine qx_aload_n (pc := 4) 0 dX8_run_4 rfl ?_
  refine qgC0_6 (pc := 5) qwf_X8_60 dX8_run_5 ?_
  obtain ⟨r1, hr1, h⟩ := qx_bindE h
  refine qx_callVi (pc := 8) 21 r1.1 r1.2 [.ref (a 19)] [] rfl rfl rfl qcm_X0_read qcv_X0_read qwm_X8_208 rfl (Nat.le_of_ble_eq_true rfl) (Nat.le_of_ble_eq_true rfl) (by decide) dX8_run_8 (qCm_read_ok hr1) ?_
  refine qx_istore_n (pc := 11) (lv' := [(1, .int (r1.1)), (0, .ref (a 0))]) dX8_run_11 (Nat.le_of_ble_eq_true rfl) rfl ?_
  refine qx_iload_n (pc := 12) 0 dX8_run_12 rfl ?_
  refine qx_iconst (pc := 13) (-1) dX8_run_13 (by decide) ?_
  refine qx_icmp_eq (pc := 14) 23 h dX8_run_14 (by decide) (fun h => ?_) (fun h => ?_)
  · refine qx_aload_n (pc := 23) 1 dX8_run_23 rfl ?_
    refine qgC0_6 (pc := 24) qwf_X8_60 dX8_run_24 ?_
    refine qx_iconst (pc := 27) 0 dX8_run_27 (by decide) ?_
    refine qpC19_0 (pc := 28) qwf_X8_203 dX8_run_28 ?_
    refine qx_aload_n (pc := 31) 1 dX8_run_31 rfl ?_
    refine qgC0_7 (pc := 32) qwf_X8_67 dX8_run_32 ?_
    refine qgC21_1 (pc := 35) qwf_X8_212 dX8_run_35 ?_
    refine qx_astore_n (pc := 38) (lv' := [(2, .ref (a 22)), (1, .int (r1.1)), (0, .ref (a 0))]) dX8_run_38 (Nat.le_of_ble_eq_true rfl) rfl ?_
    refine qx_aload_n (pc := 39) 2 dX8_run_39 rfl ?_
    refine qgC0_7 (pc := 40) qwf_X8_67 dX8_run_40 ?_
    refine qgC21_0 (pc := 43) qwf_X8_216 dX8_run_43 ?_
    rcases qx_ite h with ⟨hc0, h⟩ | ⟨hc0, h⟩
    · refine qx_tsIn (pc := 46) 80 0 hc0 dX8_run_46 (by decide) (by decide) rfl (by decide) ?_
      refine qx_aload_n (pc := 80) 2 dX8_run_80 rfl ?_
      refine qx_aload_n (pc := 81) 0 dX8_run_81 rfl ?_
      refine qx_iconst (pc := 82) 0 dX8_run_82 (by decide) ?_
      refine qlC22 (pc := 83) h dX8_run_83 (fun h => ?_)
      refine qx_aload_n (pc := 84) 0 dX8_run_84 rfl ?_
      refine qx_iconst (pc := 85) 1 dX8_run_85 (by decide) ?_
      refine qlC22 (pc := 86) h dX8_run_86 (fun h => ?_)
      refine qx_aload_n (pc := 87) 0 dX8_run_87 rfl ?_
      refine qx_iconst (pc := 88) 2 dX8_run_88 (by decide) ?_
      refine qlC22 (pc := 89) h dX8_run_89 (fun h => ?_)
      refine qx_aload_n (pc := 90) 0 dX8_run_90 rfl ?_
      refine qx_iconst (pc := 91) 3 dX8_run_91 (by decide) ?_
      refine qlC22 (pc := 92) h dX8_run_92 (fun h => ?_)
      refine qx_aload_n (pc := 93) 0 dX8_run_93 rfl ?_
      refine qx_iconst (pc := 94) 4 dX8_run_94 (by decide) ?_
      refine qlC22 (pc := 95) h dX8_run_95 (fun h => ?_)
      refine qx_sipush (pc := 96) 255 dX8_run_96 (by decide) ?_
      obtain ⟨r3, hr3, h⟩ := qx_bindE h
      refine qx_callVi (pc := 99) 0 r3.1 r3.2 [.int ((qx_up r1.2 19 0 0).1 22 (0 : Int32).toNatClampNeg), .int ((qx_up r1.2 19 0 0).1 22 (1 : Int32).toNatClampNeg), .int ((qx_up r1.2 19 0 0).1 22 (2 : Int32).toNatClampNeg), .int ((qx_up r1.2 19 0 0).1 22 (3 : Int32).toNatClampNeg), .int ((qx_up r1.2 19 0 0).1 22 (4 : Int32).toNatClampNeg), .int 255] [] rfl rfl rfl qcm_X8_addPoint qcv_X8_addPoint qwm_X8_219 rfl (Nat.le_of_ble_eq_true rfl) (Nat.le_of_ble_eq_true rfl) (by decide) dX8_run_99 (qLP_addPoint_ok hr3) ?_
      exact qx_iretS h rfl dX8_run_102
    rcases qx_ite h with ⟨hc1, h⟩ | ⟨hc1, h⟩
    · refine qx_tsIn (pc := 46) 103 1 hc1 dX8_run_46 (by decide) (by decide) rfl (by decide) ?_
      refine qx_aload_n (pc := 103) 2 dX8_run_103 rfl ?_
      refine qx_aload_n (pc := 104) 0 dX8_run_104 rfl ?_
      refine qx_iconst (pc := 105) 0 dX8_run_105 (by decide) ?_
      refine qlC22 (pc := 106) h dX8_run_106 (fun h => ?_)
      refine qx_aload_n (pc := 107) 0 dX8_run_107 rfl ?_
      refine qx_iconst (pc := 108) 1 dX8_run_108 (by decide) ?_
      refine qlC22 (pc := 109) h dX8_run_109 (fun h => ?_)
      refine qx_aload_n (pc := 110) 0 dX8_run_110 rfl ?_
      refine qx_iconst (pc := 111) 2 dX8_run_111 (by decide) ?_
      refine qlC22 (pc := 112) h dX8_run_112 (fun h => ?_)
      refine qx_aload_n (pc := 113) 0 dX8_run_113 rfl ?_
      refine qx_iconst (pc := 114) 3 dX8_run_114 (by decide) ?_
      refine qlC22 (pc := 115) h dX8_run_115 (fun h => ?_)
      obtain ⟨r4, hr4, h⟩ := qx_bindE h
      refine qx_callVi (pc := 116) 0 r4.1 r4.2 [.int ((qx_up r1.2 19 0 0).1 22 (0 : Int32).toNatClampNeg), .int ((qx_up r1.2 19 0 0).1 22 (1 : Int32).toNatClampNeg), .int ((qx_up r1.2 19 0 0).1 22 (2 : Int32).toNatClampNeg), .int ((qx_up r1.2 19 0 0).1 22 (3 : Int32).toNatClampNeg)] [] rfl rfl rfl qcm_X8_setWindow qcv_X8_setWindow qwm_X8_223 rfl (Nat.le_of_ble_eq_true rfl) (Nat.le_of_ble_eq_true rfl) (by decide) dX8_run_116 (qLP_setWindow_ok hr4) ?_
      exact qx_iretS h rfl dX8_run_119
    rcases qx_ite h with ⟨hc2, h⟩ | ⟨hc2, h⟩
    · refine qx_tsIn (pc := 46) 120 2 hc2 dX8_run_46 (by decide) (by decide) rfl (by decide) ?_
      refine qx_aload_n (pc := 120) 2 dX8_run_120 rfl ?_
      refine qx_aload_n (pc := 121) 0 dX8_run_121 rfl ?_
      refine qx_iconst (pc := 122) 0 dX8_run_122 (by decide) ?_
      refine qlC22 (pc := 123) h dX8_run_123 (fun h => ?_)
      refine qx_aload_n (pc := 124) 0 dX8_run_124 rfl ?_
      refine qx_iconst (pc := 125) 1 dX8_run_125 (by decide) ?_
      refine qlC22 (pc := 126) h dX8_run_126 (fun h => ?_)
      obtain ⟨r5, hr5, h⟩ := qx_bindE h
      refine qx_callVi (pc := 127) 0 r5.1 r5.2 [.int ((qx_up r1.2 19 0 0).1 22 (0 : Int32).toNatClampNeg), .int ((qx_up r1.2 19 0 0).1 22 (1 : Int32).toNatClampNeg)] [] rfl rfl rfl qcm_X8_pan qcv_X8_pan qwm_X8_227 rfl (Nat.le_of_ble_eq_true rfl) (Nat.le_of_ble_eq_true rfl) (by decide) dX8_run_127 (qLP_pan_ok hr5) ?_
      exact qx_iretS h rfl dX8_run_130
    rcases qx_ite h with ⟨hc3, h⟩ | ⟨hc3, h⟩
    · refine qx_tsIn (pc := 46) 131 3 hc3 dX8_run_46 (by decide) (by decide) rfl (by decide) ?_
      refine qx_aload_n (pc := 131) 2 dX8_run_131 rfl ?_
      refine qgC0_3 (pc := 132) qwf_X8_37 dX8_run_132 ?_
      obtain ⟨r6, hr6, h⟩ := qx_bindE h
      refine qx_callVi (pc := 135) 11 r6.1 r6.2 [] [] rfl rfl rfl qcm_X1_addFree qcv_X1_addFree qwm_X8_143 rfl (Nat.le_of_ble_eq_true rfl) (Nat.le_of_ble_eq_true rfl) (by decide) dX8_run_135 (qLb_addFree_ok hr6) ?_
      exact qx_iretS h rfl dX8_run_138
    rcases qx_ite h with ⟨hc4, h⟩ | ⟨hc4, h⟩
    · refine qx_tsIn (pc := 46) 139 4 hc4 dX8_run_46 (by decide) (by decide) rfl (by decide) ?_
      refine qx_aload_n (pc := 139) 2 dX8_run_139 rfl ?_
      refine qgC0_3 (pc := 140) qwf_X8_37 dX8_run_140 ?_
      obtain ⟨r7, hr7, h⟩ := qx_bindE h
      refine qx_callVi (pc := 143) 11 r7.1 r7.2 [] [] rfl rfl rfl qcm_X1_makeRoom qcv_X1_makeRoom qwm_X8_180 rfl (Nat.le_of_ble_eq_true rfl) (Nat.le_of_ble_eq_true rfl) (by decide) dX8_run_143 (qLb_makeRoom_ok hr7) ?_
      exact qx_iretS h rfl dX8_run_146
    have ht0 := lv_neT (a := 0) hc0 rfl
    have ht1 := lv_neT (a := 1) hc1 rfl
    have ht2 := lv_neT (a := 2) hc2 rfl
    have ht3 := lv_neT (a := 3) hc3 rfl
    have ht4 := lv_neT (a := 4) hc4 rfl
    refine qx_tsOut (pc := 46) 147 dX8_run_46 (by omega) (by decide) ?_
    refine qx_aload_n (pc := 147) 2 dX8_run_147 rfl ?_
    refine qgC0_3 (pc := 148) qwf_X8_37 dX8_run_148 ?_
    obtain ⟨r2, hr2, h⟩ := qx_bindE h
    refine qx_callVi (pc := 151) 11 r2.1 r2.2 [] [] rfl rfl rfl qcm_X1_hideEach qcv_X1_hideEach qwm_X8_192 rfl (Nat.le_of_ble_eq_true rfl) (Nat.le_of_ble_eq_true rfl) (by decide) dX8_run_151 (qLb_hideEach_ok hr2) ?_
    exact qx_iretS h rfl dX8_run_154
  · refine qx_sipush (pc := 17) (-2000) dX8_run_17 (by decide) ?_
    refine qx_iload_n (pc := 20) 0 dX8_run_20 rfl ?_
    refine qx_isub (pc := 21) dX8_run_21 ?_
    exact qx_iretS h rfl dX8_run_22
end
