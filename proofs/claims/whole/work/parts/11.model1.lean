section
variable {l : Launch} {D : va_G} {ci : Nat → ClassId} {a z : Nat → Nat}
theorem dX9_pointAt_0 : decode cX9_pointAt 0 = .ok (.iconst 0, 1) := by decide +kernel
theorem dX9_pointAt_1 : decode cX9_pointAt 1 = .ok (.istore_n 3, 1) := by decide +kernel
theorem dX9_pointAt_2 : decode cX9_pointAt 2 = .ok (.iload_n 3, 1) := by decide +kernel
theorem dX9_pointAt_3 : decode cX9_pointAt 3 = .ok (.aload_n 0, 1) := by decide +kernel
theorem dX9_pointAt_4 : decode cX9_pointAt 4 = .ok (.getfield 48, 3) := by decide +kernel
theorem dX9_pointAt_7 : decode cX9_pointAt 7 = .ok (.if_icmp .ge 36, 3) := by decide +kernel
theorem dX9_pointAt_10 : decode cX9_pointAt 10 = .ok (.aload_n 0, 1) := by decide +kernel
theorem dX9_pointAt_11 : decode cX9_pointAt 11 = .ok (.getfield 7, 3) := by decide +kernel
theorem dX9_pointAt_14 : decode cX9_pointAt 14 = .ok (.iconst 0, 1) := by decide +kernel
theorem dX9_pointAt_15 : decode cX9_pointAt 15 = .ok (.iload_n 3, 1) := by decide +kernel
theorem dX9_pointAt_16 : decode cX9_pointAt 16 = .ok (.iadd, 1) := by decide +kernel
theorem dX9_pointAt_17 : decode cX9_pointAt 17 = .ok (.iaload, 1) := by decide +kernel
theorem dX9_pointAt_18 : decode cX9_pointAt 18 = .ok (.iload_n 1, 1) := by decide +kernel
theorem dX9_pointAt_19 : decode cX9_pointAt 19 = .ok (.if_icmp .ne 18, 3) := by decide +kernel
theorem dX9_pointAt_22 : decode cX9_pointAt 22 = .ok (.aload_n 0, 1) := by decide +kernel
theorem dX9_pointAt_23 : decode cX9_pointAt 23 = .ok (.getfield 7, 3) := by decide +kernel
theorem dX9_pointAt_26 : decode cX9_pointAt 26 = .ok (.bipush 20, 2) := by decide +kernel
theorem dX9_pointAt_28 : decode cX9_pointAt 28 = .ok (.iload_n 3, 1) := by decide +kernel
theorem dX9_pointAt_29 : decode cX9_pointAt 29 = .ok (.iadd, 1) := by decide +kernel
theorem dX9_pointAt_30 : decode cX9_pointAt 30 = .ok (.iaload, 1) := by decide +kernel
theorem dX9_pointAt_31 : decode cX9_pointAt 31 = .ok (.iload_n 2, 1) := by decide +kernel
theorem dX9_pointAt_32 : decode cX9_pointAt 32 = .ok (.if_icmp .ne 5, 3) := by decide +kernel
theorem dX9_pointAt_35 : decode cX9_pointAt 35 = .ok (.iload_n 3, 1) := by decide +kernel
theorem dX9_pointAt_36 : decode cX9_pointAt 36 = .ok (.ireturn, 1) := by decide +kernel
theorem dX9_pointAt_37 : decode cX9_pointAt 37 = .ok (.iinc 3 1, 3) := by decide +kernel
theorem dX9_pointAt_40 : decode cX9_pointAt 40 = .ok (.goto (-38), 3) := by decide +kernel
theorem dX9_pointAt_43 : decode cX9_pointAt 43 = .ok (.iconst (-1), 1) := by decide +kernel
theorem dX9_pointAt_44 : decode cX9_pointAt 44 = .ok (.ireturn, 1) := by decide +kernel
theorem dX9_addPoint_0 : decode cX9_addPoint 0 = .ok (.iload_n 1, 1) := by decide +kernel
theorem dX9_addPoint_1 : decode cX9_addPoint 1 = .ok (.i2l, 1) := by decide +kernel
theorem dX9_addPoint_2 : decode cX9_addPoint 2 = .ok (.lconst 0, 1) := by decide +kernel
theorem dX9_addPoint_3 : decode cX9_addPoint 3 = .ok (.ldc2_w 94, 3) := by decide +kernel
theorem dX9_addPoint_6 : decode cX9_addPoint 6 = .ok (.invokestatic 51, 3) := by decide +kernel
theorem dX9_addPoint_9 : decode cX9_addPoint 9 = .ok (.ifCond .eq 36, 3) := by decide +kernel
theorem dX9_addPoint_12 : decode cX9_addPoint 12 = .ok (.iload_n 2, 1) := by decide +kernel
theorem dX9_addPoint_13 : decode cX9_addPoint 13 = .ok (.i2l, 1) := by decide +kernel
theorem dX9_addPoint_14 : decode cX9_addPoint 14 = .ok (.lconst 0, 1) := by decide +kernel
theorem dX9_addPoint_15 : decode cX9_addPoint 15 = .ok (.ldc2_w 94, 3) := by decide +kernel
theorem dX9_addPoint_18 : decode cX9_addPoint 18 = .ok (.invokestatic 51, 3) := by decide +kernel
theorem dX9_addPoint_21 : decode cX9_addPoint 21 = .ok (.ifCond .eq 24, 3) := by decide +kernel
theorem dX9_addPoint_24 : decode cX9_addPoint 24 = .ok (.iconst 2, 1) := by decide +kernel
theorem dX9_addPoint_25 : decode cX9_addPoint 25 = .ok (.iload_n 3, 1) := by decide +kernel
theorem dX9_addPoint_26 : decode cX9_addPoint 26 = .ok (.invokestatic 96, 3) := by decide +kernel
theorem dX9_addPoint_29 : decode cX9_addPoint 29 = .ok (.ifCond .eq 16, 3) := by decide +kernel
theorem dX9_addPoint_32 : decode cX9_addPoint 32 = .ok (.iconst 3, 1) := by decide +kernel
theorem dX9_addPoint_33 : decode cX9_addPoint 33 = .ok (.iload 4, 2) := by decide +kernel
theorem dX9_addPoint_35 : decode cX9_addPoint 35 = .ok (.invokestatic 96, 3) := by decide +kernel
theorem dX9_addPoint_38 : decode cX9_addPoint 38 = .ok (.ifCond .eq 7, 3) := by decide +kernel
theorem dX9_addPoint_41 : decode cX9_addPoint 41 = .ok (.iconst 1, 1) := by decide +kernel
theorem dX9_addPoint_42 : decode cX9_addPoint 42 = .ok (.goto 4, 3) := by decide +kernel
theorem dX9_addPoint_45 : decode cX9_addPoint 45 = .ok (.iconst 0, 1) := by decide +kernel
theorem dX9_addPoint_46 : decode cX9_addPoint 46 = .ok (.istore 7, 2) := by decide +kernel
theorem dX9_addPoint_48 : decode cX9_addPoint 48 = .ok (.iload 7, 2) := by decide +kernel
theorem dX9_addPoint_50 : decode cX9_addPoint 50 = .ok (.ifCond .eq 21, 3) := by decide +kernel
theorem dX9_addPoint_53 : decode cX9_addPoint 53 = .ok (.iconst 4, 1) := by decide +kernel
theorem dX9_addPoint_54 : decode cX9_addPoint 54 = .ok (.iload 5, 2) := by decide +kernel
theorem dX9_addPoint_56 : decode cX9_addPoint 56 = .ok (.invokestatic 96, 3) := by decide +kernel
theorem dX9_addPoint_59 : decode cX9_addPoint 59 = .ok (.ifCond .eq 12, 3) := by decide +kernel
theorem dX9_addPoint_62 : decode cX9_addPoint 62 = .ok (.iconst 5, 1) := by decide +kernel
theorem dX9_addPoint_63 : decode cX9_addPoint 63 = .ok (.iload 6, 2) := by decide +kernel
theorem dX9_addPoint_65 : decode cX9_addPoint 65 = .ok (.invokestatic 96, 3) := by decide +kernel
theorem dX9_addPoint_68 : decode cX9_addPoint 68 = .ok (.ifCond .ne 6, 3) := by decide +kernel
theorem dX9_addPoint_71 : decode cX9_addPoint 71 = .ok (.bipush (-2), 2) := by decide +kernel
theorem dX9_addPoint_73 : decode cX9_addPoint 73 = .ok (.ireturn, 1) := by decide +kernel
theorem dX9_addPoint_74 : decode cX9_addPoint 74 = .ok (.aload_n 0, 1) := by decide +kernel
theorem dX9_addPoint_75 : decode cX9_addPoint 75 = .ok (.iload_n 1, 1) := by decide +kernel
theorem dX9_addPoint_76 : decode cX9_addPoint 76 = .ok (.iload_n 2, 1) := by decide +kernel
theorem dX9_addPoint_77 : decode cX9_addPoint 77 = .ok (.invokevirtual 99, 3) := by decide +kernel
theorem dX9_addPoint_80 : decode cX9_addPoint 80 = .ok (.iconst (-1), 1) := by decide +kernel
theorem dX9_addPoint_81 : decode cX9_addPoint 81 = .ok (.if_icmp .eq 6, 3) := by decide +kernel
theorem dX9_addPoint_84 : decode cX9_addPoint 84 = .ok (.bipush (-3), 2) := by decide +kernel
theorem dX9_addPoint_86 : decode cX9_addPoint 86 = .ok (.ireturn, 1) := by decide +kernel
theorem dX9_addPoint_87 : decode cX9_addPoint 87 = .ok (.aload_n 0, 1) := by decide +kernel
theorem dX9_addPoint_88 : decode cX9_addPoint 88 = .ok (.getfield 48, 3) := by decide +kernel
theorem dX9_addPoint_91 : decode cX9_addPoint 91 = .ok (.bipush 20, 2) := by decide +kernel
theorem dX9_addPoint_93 : decode cX9_addPoint 93 = .ok (.if_icmp .ne 6, 3) := by decide +kernel
theorem dX9_addPoint_96 : decode cX9_addPoint 96 = .ok (.bipush (-4), 2) := by decide +kernel
theorem dX9_addPoint_98 : decode cX9_addPoint 98 = .ok (.ireturn, 1) := by decide +kernel
theorem dX9_addPoint_99 : decode cX9_addPoint 99 = .ok (.aload_n 0, 1) := by decide +kernel
theorem dX9_addPoint_100 : decode cX9_addPoint 100 = .ok (.getfield 7, 3) := by decide +kernel
theorem dX9_addPoint_103 : decode cX9_addPoint 103 = .ok (.iconst 0, 1) := by decide +kernel
theorem dX9_addPoint_104 : decode cX9_addPoint 104 = .ok (.aload_n 0, 1) := by decide +kernel
theorem dX9_addPoint_105 : decode cX9_addPoint 105 = .ok (.getfield 48, 3) := by decide +kernel
theorem dX9_addPoint_108 : decode cX9_addPoint 108 = .ok (.iadd, 1) := by decide +kernel
theorem dX9_addPoint_109 : decode cX9_addPoint 109 = .ok (.iload_n 1, 1) := by decide +kernel
theorem dX9_addPoint_110 : decode cX9_addPoint 110 = .ok (.iastore, 1) := by decide +kernel
theorem dX9_addPoint_111 : decode cX9_addPoint 111 = .ok (.aload_n 0, 1) := by decide +kernel
theorem dX9_addPoint_112 : decode cX9_addPoint 112 = .ok (.getfield 7, 3) := by decide +kernel
theorem dX9_addPoint_115 : decode cX9_addPoint 115 = .ok (.bipush 20, 2) := by decide +kernel
theorem dX9_addPoint_117 : decode cX9_addPoint 117 = .ok (.aload_n 0, 1) := by decide +kernel
theorem dX9_addPoint_118 : decode cX9_addPoint 118 = .ok (.getfield 48, 3) := by decide +kernel
theorem dX9_addPoint_121 : decode cX9_addPoint 121 = .ok (.iadd, 1) := by decide +kernel
theorem dX9_addPoint_122 : decode cX9_addPoint 122 = .ok (.iload_n 2, 1) := by decide +kernel
theorem dX9_addPoint_123 : decode cX9_addPoint 123 = .ok (.iastore, 1) := by decide +kernel
theorem dX9_addPoint_124 : decode cX9_addPoint 124 = .ok (.aload_n 0, 1) := by decide +kernel
theorem dX9_addPoint_125 : decode cX9_addPoint 125 = .ok (.getfield 7, 3) := by decide +kernel
theorem dX9_addPoint_128 : decode cX9_addPoint 128 = .ok (.bipush 40, 2) := by decide +kernel
theorem dX9_addPoint_130 : decode cX9_addPoint 130 = .ok (.aload_n 0, 1) := by decide +kernel
theorem dX9_addPoint_131 : decode cX9_addPoint 131 = .ok (.getfield 48, 3) := by decide +kernel
theorem dX9_addPoint_134 : decode cX9_addPoint 134 = .ok (.iadd, 1) := by decide +kernel
theorem dX9_addPoint_135 : decode cX9_addPoint 135 = .ok (.iload_n 3, 1) := by decide +kernel
theorem dX9_addPoint_136 : decode cX9_addPoint 136 = .ok (.iastore, 1) := by decide +kernel
theorem dX9_addPoint_137 : decode cX9_addPoint 137 = .ok (.aload_n 0, 1) := by decide +kernel
theorem dX9_addPoint_138 : decode cX9_addPoint 138 = .ok (.getfield 7, 3) := by decide +kernel
theorem dX9_addPoint_141 : decode cX9_addPoint 141 = .ok (.bipush 60, 2) := by decide +kernel
theorem dX9_addPoint_143 : decode cX9_addPoint 143 = .ok (.aload_n 0, 1) := by decide +kernel
theorem dX9_addPoint_144 : decode cX9_addPoint 144 = .ok (.getfield 48, 3) := by decide +kernel
theorem dX9_addPoint_147 : decode cX9_addPoint 147 = .ok (.iadd, 1) := by decide +kernel
theorem dX9_addPoint_148 : decode cX9_addPoint 148 = .ok (.iload 4, 2) := by decide +kernel
theorem dX9_addPoint_150 : decode cX9_addPoint 150 = .ok (.iastore, 1) := by decide +kernel
theorem dX9_addPoint_151 : decode cX9_addPoint 151 = .ok (.aload_n 0, 1) := by decide +kernel
theorem dX9_addPoint_152 : decode cX9_addPoint 152 = .ok (.getfield 7, 3) := by decide +kernel
theorem dX9_addPoint_155 : decode cX9_addPoint 155 = .ok (.bipush 80, 2) := by decide +kernel
theorem dX9_addPoint_157 : decode cX9_addPoint 157 = .ok (.aload_n 0, 1) := by decide +kernel
theorem dX9_addPoint_158 : decode cX9_addPoint 158 = .ok (.getfield 48, 3) := by decide +kernel
theorem dX9_addPoint_161 : decode cX9_addPoint 161 = .ok (.iadd, 1) := by decide +kernel
theorem dX9_addPoint_162 : decode cX9_addPoint 162 = .ok (.iload 5, 2) := by decide +kernel
theorem dX9_addPoint_164 : decode cX9_addPoint 164 = .ok (.iastore, 1) := by decide +kernel
theorem dX9_addPoint_165 : decode cX9_addPoint 165 = .ok (.aload_n 0, 1) := by decide +kernel
theorem dX9_addPoint_166 : decode cX9_addPoint 166 = .ok (.getfield 7, 3) := by decide +kernel
theorem dX9_addPoint_169 : decode cX9_addPoint 169 = .ok (.bipush 100, 2) := by decide +kernel
theorem dX9_addPoint_171 : decode cX9_addPoint 171 = .ok (.aload_n 0, 1) := by decide +kernel
theorem dX9_addPoint_172 : decode cX9_addPoint 172 = .ok (.getfield 48, 3) := by decide +kernel
theorem dX9_addPoint_175 : decode cX9_addPoint 175 = .ok (.iadd, 1) := by decide +kernel
theorem dX9_addPoint_176 : decode cX9_addPoint 176 = .ok (.iload 6, 2) := by decide +kernel
theorem dX9_addPoint_178 : decode cX9_addPoint 178 = .ok (.iastore, 1) := by decide +kernel
theorem dX9_addPoint_179 : decode cX9_addPoint 179 = .ok (.aload_n 0, 1) := by decide +kernel
theorem dX9_addPoint_180 : decode cX9_addPoint 180 = .ok (.getfield 7, 3) := by decide +kernel
theorem dX9_addPoint_183 : decode cX9_addPoint 183 = .ok (.bipush 120, 2) := by decide +kernel
theorem dX9_addPoint_185 : decode cX9_addPoint 185 = .ok (.aload_n 0, 1) := by decide +kernel
theorem dX9_addPoint_186 : decode cX9_addPoint 186 = .ok (.getfield 48, 3) := by decide +kernel
theorem dX9_addPoint_189 : decode cX9_addPoint 189 = .ok (.iadd, 1) := by decide +kernel
theorem dX9_addPoint_190 : decode cX9_addPoint 190 = .ok (.iconst (-1), 1) := by decide +kernel
theorem dX9_addPoint_191 : decode cX9_addPoint 191 = .ok (.iastore, 1) := by decide +kernel
theorem dX9_addPoint_192 : decode cX9_addPoint 192 = .ok (.aload_n 0, 1) := by decide +kernel
theorem dX9_addPoint_193 : decode cX9_addPoint 193 = .ok (.dup, 1) := by decide +kernel
theorem dX9_addPoint_194 : decode cX9_addPoint 194 = .ok (.getfield 48, 3) := by decide +kernel
theorem dX9_addPoint_197 : decode cX9_addPoint 197 = .ok (.iconst 1, 1) := by decide +kernel
theorem dX9_addPoint_198 : decode cX9_addPoint 198 = .ok (.iadd, 1) := by decide +kernel
theorem dX9_addPoint_199 : decode cX9_addPoint 199 = .ok (.putfield 48, 3) := by decide +kernel
theorem dX9_addPoint_202 : decode cX9_addPoint 202 = .ok (.aload_n 0, 1) := by decide +kernel
theorem dX9_addPoint_203 : decode cX9_addPoint 203 = .ok (.invokevirtual 102, 3) := by decide +kernel
theorem dX9_addPoint_206 : decode cX9_addPoint 206 = .ok (.aload_n 0, 1) := by decide +kernel
theorem dX9_addPoint_207 : decode cX9_addPoint 207 = .ok (.getfield 48, 3) := by decide +kernel
theorem dX9_addPoint_210 : decode cX9_addPoint 210 = .ok (.iconst 1, 1) := by decide +kernel
theorem dX9_addPoint_211 : decode cX9_addPoint 211 = .ok (.isub, 1) := by decide +kernel
theorem dX9_addPoint_212 : decode cX9_addPoint 212 = .ok (.ireturn, 1) := by decide +kernel
theorem dX9_removePoint_0 : decode cX9_removePoint 0 = .ok (.aload_n 0, 1) := by decide +kernel
theorem dX9_removePoint_1 : decode cX9_removePoint 1 = .ok (.iload_n 1, 1) := by decide +kernel
theorem dX9_removePoint_2 : decode cX9_removePoint 2 = .ok (.invokevirtual 105, 3) := by decide +kernel
theorem dX9_removePoint_5 : decode cX9_removePoint 5 = .ok (.ifCond .ne 6, 3) := by decide +kernel
theorem dX9_removePoint_8 : decode cX9_removePoint 8 = .ok (.bipush (-2), 2) := by decide +kernel
theorem dX9_removePoint_10 : decode cX9_removePoint 10 = .ok (.ireturn, 1) := by decide +kernel
theorem dX9_removePoint_11 : decode cX9_removePoint 11 = .ok (.aload_n 0, 1) := by decide +kernel
theorem dX9_removePoint_12 : decode cX9_removePoint 12 = .ok (.dup, 1) := by decide +kernel
theorem dX9_removePoint_13 : decode cX9_removePoint 13 = .ok (.getfield 48, 3) := by decide +kernel
theorem dX9_removePoint_16 : decode cX9_removePoint 16 = .ok (.iconst 1, 1) := by decide +kernel
theorem dX9_removePoint_17 : decode cX9_removePoint 17 = .ok (.isub, 1) := by decide +kernel
theorem dX9_removePoint_18 : decode cX9_removePoint 18 = .ok (.putfield 48, 3) := by decide +kernel
theorem dX9_removePoint_21 : decode cX9_removePoint 21 = .ok (.iconst 0, 1) := by decide +kernel
theorem dX9_removePoint_22 : decode cX9_removePoint 22 = .ok (.istore_n 2, 1) := by decide +kernel
theorem dX9_removePoint_23 : decode cX9_removePoint 23 = .ok (.iload_n 2, 1) := by decide +kernel
theorem dX9_removePoint_24 : decode cX9_removePoint 24 = .ok (.sipush 140, 3) := by decide +kernel
theorem dX9_removePoint_27 : decode cX9_removePoint 27 = .ok (.if_icmp .ge 43, 3) := by decide +kernel
theorem dX9_removePoint_30 : decode cX9_removePoint 30 = .ok (.iload_n 1, 1) := by decide +kernel
theorem dX9_removePoint_31 : decode cX9_removePoint 31 = .ok (.istore_n 3, 1) := by decide +kernel
theorem dX9_removePoint_32 : decode cX9_removePoint 32 = .ok (.iload_n 3, 1) := by decide +kernel
theorem dX9_removePoint_33 : decode cX9_removePoint 33 = .ok (.aload_n 0, 1) := by decide +kernel
theorem dX9_removePoint_34 : decode cX9_removePoint 34 = .ok (.getfield 48, 3) := by decide +kernel
theorem dX9_removePoint_37 : decode cX9_removePoint 37 = .ok (.if_icmp .ge 27, 3) := by decide +kernel
theorem dX9_removePoint_40 : decode cX9_removePoint 40 = .ok (.aload_n 0, 1) := by decide +kernel
theorem dX9_removePoint_41 : decode cX9_removePoint 41 = .ok (.getfield 7, 3) := by decide +kernel
theorem dX9_removePoint_44 : decode cX9_removePoint 44 = .ok (.iload_n 2, 1) := by decide +kernel
theorem dX9_removePoint_45 : decode cX9_removePoint 45 = .ok (.iload_n 3, 1) := by decide +kernel
theorem dX9_removePoint_46 : decode cX9_removePoint 46 = .ok (.iadd, 1) := by decide +kernel
theorem dX9_removePoint_47 : decode cX9_removePoint 47 = .ok (.aload_n 0, 1) := by decide +kernel
theorem dX9_removePoint_48 : decode cX9_removePoint 48 = .ok (.getfield 7, 3) := by decide +kernel
theorem dX9_removePoint_51 : decode cX9_removePoint 51 = .ok (.iload_n 2, 1) := by decide +kernel
theorem dX9_removePoint_52 : decode cX9_removePoint 52 = .ok (.iload_n 3, 1) := by decide +kernel
theorem dX9_removePoint_53 : decode cX9_removePoint 53 = .ok (.iadd, 1) := by decide +kernel
theorem dX9_removePoint_54 : decode cX9_removePoint 54 = .ok (.iconst 1, 1) := by decide +kernel
theorem dX9_removePoint_55 : decode cX9_removePoint 55 = .ok (.iadd, 1) := by decide +kernel
theorem dX9_removePoint_56 : decode cX9_removePoint 56 = .ok (.iaload, 1) := by decide +kernel
theorem dX9_removePoint_57 : decode cX9_removePoint 57 = .ok (.iastore, 1) := by decide +kernel
theorem dX9_removePoint_58 : decode cX9_removePoint 58 = .ok (.iinc 3 1, 3) := by decide +kernel
theorem dX9_removePoint_61 : decode cX9_removePoint 61 = .ok (.goto (-29), 3) := by decide +kernel
theorem dX9_removePoint_64 : decode cX9_removePoint 64 = .ok (.iinc 2 20, 3) := by decide +kernel
theorem dX9_removePoint_67 : decode cX9_removePoint 67 = .ok (.goto (-44), 3) := by decide +kernel
theorem dX9_removePoint_70 : decode cX9_removePoint 70 = .ok (.aload_n 0, 1) := by decide +kernel
theorem dX9_removePoint_71 : decode cX9_removePoint 71 = .ok (.invokevirtual 102, 3) := by decide +kernel
theorem dX9_removePoint_74 : decode cX9_removePoint 74 = .ok (.aload_n 0, 1) := by decide +kernel
theorem dX9_removePoint_75 : decode cX9_removePoint 75 = .ok (.getfield 48, 3) := by decide +kernel
theorem dX9_removePoint_78 : decode cX9_removePoint 78 = .ok (.ireturn, 1) := by decide +kernel
theorem dX9_setPoint_0 : decode cX9_setPoint 0 = .ok (.aload_n 0, 1) := by decide +kernel
theorem dX9_setPoint_1 : decode cX9_setPoint 1 = .ok (.iload_n 1, 1) := by decide +kernel
theorem dX9_setPoint_2 : decode cX9_setPoint 2 = .ok (.invokevirtual 105, 3) := by decide +kernel
theorem dX9_setPoint_5 : decode cX9_setPoint 5 = .ok (.ifCond .eq 11, 3) := by decide +kernel
theorem dX9_setPoint_8 : decode cX9_setPoint 8 = .ok (.iload_n 2, 1) := by decide +kernel
theorem dX9_setPoint_9 : decode cX9_setPoint 9 = .ok (.iload_n 3, 1) := by decide +kernel
theorem dX9_setPoint_10 : decode cX9_setPoint 10 = .ok (.invokestatic 96, 3) := by decide +kernel
theorem dX9_setPoint_13 : decode cX9_setPoint 13 = .ok (.ifCond .ne 6, 3) := by decide +kernel
theorem dX9_setPoint_16 : decode cX9_setPoint 16 = .ok (.bipush (-2), 2) := by decide +kernel
theorem dX9_setPoint_18 : decode cX9_setPoint 18 = .ok (.ireturn, 1) := by decide +kernel
theorem dX9_setPoint_19 : decode cX9_setPoint 19 = .ok (.aload_n 0, 1) := by decide +kernel
theorem dX9_setPoint_20 : decode cX9_setPoint 20 = .ok (.getfield 7, 3) := by decide +kernel
theorem dX9_setPoint_23 : decode cX9_setPoint 23 = .ok (.bipush 20, 2) := by decide +kernel
theorem dX9_setPoint_25 : decode cX9_setPoint 25 = .ok (.iload_n 2, 1) := by decide +kernel
theorem dX9_setPoint_26 : decode cX9_setPoint 26 = .ok (.imul, 1) := by decide +kernel
theorem dX9_setPoint_27 : decode cX9_setPoint 27 = .ok (.iload_n 1, 1) := by decide +kernel
theorem dX9_setPoint_28 : decode cX9_setPoint 28 = .ok (.iadd, 1) := by decide +kernel
theorem dX9_setPoint_29 : decode cX9_setPoint 29 = .ok (.iaload, 1) := by decide +kernel
theorem dX9_setPoint_30 : decode cX9_setPoint 30 = .ok (.istore 4, 2) := by decide +kernel
theorem dX9_setPoint_32 : decode cX9_setPoint 32 = .ok (.aload_n 0, 1) := by decide +kernel
theorem dX9_setPoint_33 : decode cX9_setPoint 33 = .ok (.getfield 7, 3) := by decide +kernel
theorem dX9_setPoint_36 : decode cX9_setPoint 36 = .ok (.bipush 20, 2) := by decide +kernel
theorem dX9_setPoint_38 : decode cX9_setPoint 38 = .ok (.iload_n 2, 1) := by decide +kernel
theorem dX9_setPoint_39 : decode cX9_setPoint 39 = .ok (.imul, 1) := by decide +kernel
theorem dX9_setPoint_40 : decode cX9_setPoint 40 = .ok (.iload_n 1, 1) := by decide +kernel
theorem dX9_setPoint_41 : decode cX9_setPoint 41 = .ok (.iadd, 1) := by decide +kernel
theorem dX9_setPoint_42 : decode cX9_setPoint 42 = .ok (.iload_n 3, 1) := by decide +kernel
theorem dX9_setPoint_43 : decode cX9_setPoint 43 = .ok (.iastore, 1) := by decide +kernel
theorem dX9_setPoint_44 : decode cX9_setPoint 44 = .ok (.aload_n 0, 1) := by decide +kernel
theorem dX9_setPoint_45 : decode cX9_setPoint 45 = .ok (.invokevirtual 102, 3) := by decide +kernel
theorem dX9_setPoint_48 : decode cX9_setPoint 48 = .ok (.aload_n 0, 1) := by decide +kernel
theorem dX9_setPoint_49 : decode cX9_setPoint 49 = .ok (.getfield 7, 3) := by decide +kernel
theorem dX9_setPoint_52 : decode cX9_setPoint 52 = .ok (.bipush 120, 2) := by decide +kernel
theorem dX9_setPoint_54 : decode cX9_setPoint 54 = .ok (.iload_n 1, 1) := by decide +kernel
theorem dX9_setPoint_55 : decode cX9_setPoint 55 = .ok (.iadd, 1) := by decide +kernel
theorem dX9_setPoint_56 : decode cX9_setPoint 56 = .ok (.iaload, 1) := by decide +kernel
theorem dX9_setPoint_57 : decode cX9_setPoint 57 = .ok (.iconst (-1), 1) := by decide +kernel
theorem dX9_setPoint_58 : decode cX9_setPoint 58 = .ok (.if_icmp .eq 31, 3) := by decide +kernel
theorem dX9_setPoint_61 : decode cX9_setPoint 61 = .ok (.aload_n 0, 1) := by decide +kernel
theorem dX9_setPoint_62 : decode cX9_setPoint 62 = .ok (.iload_n 1, 1) := by decide +kernel
theorem dX9_setPoint_63 : decode cX9_setPoint 63 = .ok (.aload_n 0, 1) := by decide +kernel
theorem dX9_setPoint_64 : decode cX9_setPoint 64 = .ok (.getfield 7, 3) := by decide +kernel
theorem dX9_setPoint_67 : decode cX9_setPoint 67 = .ok (.bipush 120, 2) := by decide +kernel
theorem dX9_setPoint_69 : decode cX9_setPoint 69 = .ok (.iload_n 1, 1) := by decide +kernel
theorem dX9_setPoint_70 : decode cX9_setPoint 70 = .ok (.iadd, 1) := by decide +kernel
theorem dX9_setPoint_71 : decode cX9_setPoint 71 = .ok (.iaload, 1) := by decide +kernel
theorem dX9_setPoint_72 : decode cX9_setPoint 72 = .ok (.iconst (-1), 1) := by decide +kernel
theorem dX9_setPoint_73 : decode cX9_setPoint 73 = .ok (.invokevirtual 108, 3) := by decide +kernel
theorem dX9_setPoint_76 : decode cX9_setPoint 76 = .ok (.ifCond .le 13, 3) := by decide +kernel
theorem dX9_setPoint_79 : decode cX9_setPoint 79 = .ok (.aload_n 0, 1) := by decide +kernel
theorem dX9_setPoint_80 : decode cX9_setPoint 80 = .ok (.getfield 7, 3) := by decide +kernel
theorem dX9_setPoint_83 : decode cX9_setPoint 83 = .ok (.bipush 120, 2) := by decide +kernel
theorem dX9_setPoint_85 : decode cX9_setPoint 85 = .ok (.iload_n 1, 1) := by decide +kernel
theorem dX9_setPoint_86 : decode cX9_setPoint 86 = .ok (.iadd, 1) := by decide +kernel
theorem dX9_setPoint_87 : decode cX9_setPoint 87 = .ok (.iconst (-1), 1) := by decide +kernel
theorem dX9_setPoint_88 : decode cX9_setPoint 88 = .ok (.iastore, 1) := by decide +kernel
theorem dX9_setPoint_89 : decode cX9_setPoint 89 = .ok (.iload 4, 2) := by decide +kernel
theorem dX9_setPoint_91 : decode cX9_setPoint 91 = .ok (.ireturn, 1) := by decide +kernel
theorem dX9_placesOf_0 : decode cX9_placesOf 0 = .ok (.iconst 0, 1) := by decide +kernel
theorem dX9_placesOf_1 : decode cX9_placesOf 1 = .ok (.istore_n 2, 1) := by decide +kernel
theorem dX9_placesOf_2 : decode cX9_placesOf 2 = .ok (.iconst 0, 1) := by decide +kernel
theorem dX9_placesOf_3 : decode cX9_placesOf 3 = .ok (.istore_n 3, 1) := by decide +kernel
theorem dX9_placesOf_4 : decode cX9_placesOf 4 = .ok (.iload_n 3, 1) := by decide +kernel
theorem dX9_placesOf_5 : decode cX9_placesOf 5 = .ok (.bipush 8, 2) := by decide +kernel
theorem dX9_placesOf_7 : decode cX9_placesOf 7 = .ok (.if_icmp .ge 31, 3) := by decide +kernel
theorem dX9_placesOf_10 : decode cX9_placesOf 10 = .ok (.iload_n 2, 1) := by decide +kernel
theorem dX9_placesOf_11 : decode cX9_placesOf 11 = .ok (.aload_n 0, 1) := by decide +kernel
theorem dX9_placesOf_12 : decode cX9_placesOf 12 = .ok (.getfield 20, 3) := by decide +kernel
theorem dX9_placesOf_15 : decode cX9_placesOf 15 = .ok (.bipush 8, 2) := by decide +kernel
theorem dX9_placesOf_17 : decode cX9_placesOf 17 = .ok (.iload_n 1, 1) := by decide +kernel
theorem dX9_placesOf_18 : decode cX9_placesOf 18 = .ok (.imul, 1) := by decide +kernel
theorem dX9_placesOf_19 : decode cX9_placesOf 19 = .ok (.iload_n 3, 1) := by decide +kernel
theorem dX9_placesOf_20 : decode cX9_placesOf 20 = .ok (.iadd, 1) := by decide +kernel
theorem dX9_placesOf_21 : decode cX9_placesOf 21 = .ok (.baload, 1) := by decide +kernel
theorem dX9_placesOf_22 : decode cX9_placesOf 22 = .ok (.ifCond .eq 7, 3) := by decide +kernel
theorem dX9_placesOf_25 : decode cX9_placesOf 25 = .ok (.iconst 1, 1) := by decide +kernel
theorem dX9_placesOf_26 : decode cX9_placesOf 26 = .ok (.goto 4, 3) := by decide +kernel
theorem dX9_placesOf_29 : decode cX9_placesOf 29 = .ok (.iconst 0, 1) := by decide +kernel
theorem dX9_placesOf_30 : decode cX9_placesOf 30 = .ok (.iadd, 1) := by decide +kernel
theorem dX9_placesOf_31 : decode cX9_placesOf 31 = .ok (.istore_n 2, 1) := by decide +kernel
theorem dX9_placesOf_32 : decode cX9_placesOf 32 = .ok (.iinc 3 1, 3) := by decide +kernel
theorem dX9_placesOf_35 : decode cX9_placesOf 35 = .ok (.goto (-31), 3) := by decide +kernel
theorem dX9_placesOf_38 : decode cX9_placesOf 38 = .ok (.iload_n 2, 1) := by decide +kernel
theorem dX9_placesOf_39 : decode cX9_placesOf 39 = .ok (.ireturn, 1) := by decide +kernel
theorem dX9_part_0 : decode cX9_part 0 = .ok (.iload_n 2, 1) := by decide +kernel
theorem dX9_part_1 : decode cX9_part 1 = .ok (.tableswitch 57 6 8 #[27, 41, 51], 27) := by decide +kernel
theorem dX9_part_28 : decode cX9_part 28 = .ok (.aload_n 0, 1) := by decide +kernel
theorem dX9_part_29 : decode cX9_part 29 = .ok (.iload_n 1, 1) := by decide +kernel
theorem dX9_part_30 : decode cX9_part 30 = .ok (.invokevirtual 68, 3) := by decide +kernel
theorem dX9_part_33 : decode cX9_part 33 = .ok (.ifCond .eq 7, 3) := by decide +kernel
theorem dX9_part_36 : decode cX9_part 36 = .ok (.iconst 1, 1) := by decide +kernel
theorem dX9_part_37 : decode cX9_part 37 = .ok (.goto 4, 3) := by decide +kernel
theorem dX9_part_40 : decode cX9_part 40 = .ok (.iconst 0, 1) := by decide +kernel
theorem dX9_part_41 : decode cX9_part 41 = .ok (.ireturn, 1) := by decide +kernel
theorem dX9_part_42 : decode cX9_part 42 = .ok (.aload_n 0, 1) := by decide +kernel
theorem dX9_part_43 : decode cX9_part 43 = .ok (.getfield 7, 3) := by decide +kernel
theorem dX9_part_46 : decode cX9_part 46 = .ok (.bipush 120, 2) := by decide +kernel
theorem dX9_part_48 : decode cX9_part 48 = .ok (.iload_n 1, 1) := by decide +kernel
theorem dX9_part_49 : decode cX9_part 49 = .ok (.iadd, 1) := by decide +kernel
theorem dX9_part_50 : decode cX9_part 50 = .ok (.iaload, 1) := by decide +kernel
theorem dX9_part_51 : decode cX9_part 51 = .ok (.ireturn, 1) := by decide +kernel
theorem dX9_part_52 : decode cX9_part 52 = .ok (.aload_n 0, 1) := by decide +kernel
theorem dX9_part_53 : decode cX9_part 53 = .ok (.iload_n 1, 1) := by decide +kernel
theorem dX9_part_54 : decode cX9_part 54 = .ok (.invokevirtual 112, 3) := by decide +kernel
theorem dX9_part_57 : decode cX9_part 57 = .ok (.ireturn, 1) := by decide +kernel
theorem dX9_part_58 : decode cX9_part 58 = .ok (.aload_n 0, 1) := by decide +kernel
theorem dX9_part_59 : decode cX9_part 59 = .ok (.getfield 7, 3) := by decide +kernel
theorem dX9_part_62 : decode cX9_part 62 = .ok (.bipush 20, 2) := by decide +kernel
theorem dX9_part_64 : decode cX9_part 64 = .ok (.iload_n 2, 1) := by decide +kernel
theorem dX9_part_65 : decode cX9_part 65 = .ok (.imul, 1) := by decide +kernel
theorem dX9_part_66 : decode cX9_part 66 = .ok (.iload_n 1, 1) := by decide +kernel
theorem dX9_part_67 : decode cX9_part 67 = .ok (.iadd, 1) := by decide +kernel
theorem dX9_part_68 : decode cX9_part 68 = .ok (.iaload, 1) := by decide +kernel
theorem dX9_part_69 : decode cX9_part 69 = .ok (.ireturn, 1) := by decide +kernel
theorem dX9_point_0 : decode cX9_point 0 = .ok (.aload_n 0, 1) := by decide +kernel
theorem dX9_point_1 : decode cX9_point 1 = .ok (.iload_n 1, 1) := by decide +kernel
theorem dX9_point_2 : decode cX9_point 2 = .ok (.invokevirtual 105, 3) := by decide +kernel
theorem dX9_point_5 : decode cX9_point 5 = .ok (.ifCond .eq 15, 3) := by decide +kernel
theorem dX9_point_8 : decode cX9_point 8 = .ok (.iload_n 2, 1) := by decide +kernel
theorem dX9_point_9 : decode cX9_point 9 = .ok (.i2l, 1) := by decide +kernel
theorem dX9_point_10 : decode cX9_point 10 = .ok (.lconst 0, 1) := by decide +kernel
theorem dX9_point_11 : decode cX9_point 11 = .ok (.ldc2_w 116, 3) := by decide +kernel
theorem dX9_point_14 : decode cX9_point 14 = .ok (.invokestatic 51, 3) := by decide +kernel
theorem dX9_point_17 : decode cX9_point 17 = .ok (.ifCond .ne 6, 3) := by decide +kernel
theorem dX9_point_20 : decode cX9_point 20 = .ok (.bipush (-2), 2) := by decide +kernel
theorem dX9_point_22 : decode cX9_point 22 = .ok (.ireturn, 1) := by decide +kernel
theorem dX9_point_23 : decode cX9_point 23 = .ok (.aload_n 0, 1) := by decide +kernel
theorem dX9_point_24 : decode cX9_point 24 = .ok (.invokevirtual 83, 3) := by decide +kernel
theorem dX9_point_27 : decode cX9_point 27 = .ok (.aload_n 0, 1) := by decide +kernel
theorem dX9_point_28 : decode cX9_point 28 = .ok (.iload_n 1, 1) := by decide +kernel
theorem dX9_point_29 : decode cX9_point 29 = .ok (.iload_n 2, 1) := by decide +kernel
theorem dX9_point_30 : decode cX9_point 30 = .ok (.invokevirtual 118, 3) := by decide +kernel
theorem dX9_point_33 : decode cX9_point 33 = .ok (.ireturn, 1) := by decide +kernel
theorem dX9_visible_0 : decode cX9_visible 0 = .ok (.iconst 0, 1) := by decide +kernel
theorem dX9_visible_1 : decode cX9_visible 1 = .ok (.istore_n 1, 1) := by decide +kernel
theorem dX9_visible_2 : decode cX9_visible 2 = .ok (.iconst 0, 1) := by decide +kernel
theorem dX9_visible_3 : decode cX9_visible 3 = .ok (.istore_n 2, 1) := by decide +kernel
theorem dX9_visible_4 : decode cX9_visible 4 = .ok (.iload_n 2, 1) := by decide +kernel
theorem dX9_visible_5 : decode cX9_visible 5 = .ok (.aload_n 0, 1) := by decide +kernel
theorem dX9_visible_6 : decode cX9_visible 6 = .ok (.getfield 48, 3) := by decide +kernel
theorem dX9_visible_9 : decode cX9_visible 9 = .ok (.if_icmp .ge 25, 3) := by decide +kernel
theorem dX9_visible_12 : decode cX9_visible 12 = .ok (.iload_n 1, 1) := by decide +kernel
theorem dX9_visible_13 : decode cX9_visible 13 = .ok (.aload_n 0, 1) := by decide +kernel
theorem dX9_visible_14 : decode cX9_visible 14 = .ok (.iload_n 2, 1) := by decide +kernel
theorem dX9_visible_15 : decode cX9_visible 15 = .ok (.invokevirtual 68, 3) := by decide +kernel
theorem dX9_visible_18 : decode cX9_visible 18 = .ok (.ifCond .eq 7, 3) := by decide +kernel
theorem dX9_visible_21 : decode cX9_visible 21 = .ok (.iconst 1, 1) := by decide +kernel
theorem dX9_visible_22 : decode cX9_visible 22 = .ok (.goto 4, 3) := by decide +kernel
theorem dX9_visible_25 : decode cX9_visible 25 = .ok (.iconst 0, 1) := by decide +kernel
theorem dX9_visible_26 : decode cX9_visible 26 = .ok (.iadd, 1) := by decide +kernel
theorem dX9_visible_27 : decode cX9_visible 27 = .ok (.istore_n 1, 1) := by decide +kernel
theorem dX9_visible_28 : decode cX9_visible 28 = .ok (.iinc 2 1, 3) := by decide +kernel
theorem dX9_visible_31 : decode cX9_visible 31 = .ok (.goto (-27), 3) := by decide +kernel
theorem dX9_visible_34 : decode cX9_visible 34 = .ok (.iload_n 1, 1) := by decide +kernel
theorem dX9_visible_35 : decode cX9_visible 35 = .ok (.ireturn, 1) := by decide +kernel
theorem dX9_setWindow_0 : decode cX9_setWindow 0 = .ok (.iload_n 3, 1) := by decide +kernel
theorem dX9_setWindow_1 : decode cX9_setWindow 1 = .ok (.i2l, 1) := by decide +kernel
theorem dX9_setWindow_2 : decode cX9_setWindow 2 = .ok (.ldc2_w 121, 3) := by decide +kernel
theorem dX9_setWindow_5 : decode cX9_setWindow 5 = .ok (.ldc2_w 123, 3) := by decide +kernel
theorem dX9_setWindow_8 : decode cX9_setWindow 8 = .ok (.invokestatic 51, 3) := by decide +kernel
theorem dX9_setWindow_11 : decode cX9_setWindow 11 = .ok (.ifCond .eq 22, 3) := by decide +kernel
theorem dX9_setWindow_14 : decode cX9_setWindow 14 = .ok (.iload 4, 2) := by decide +kernel
theorem dX9_setWindow_16 : decode cX9_setWindow 16 = .ok (.i2l, 1) := by decide +kernel
theorem dX9_setWindow_17 : decode cX9_setWindow 17 = .ok (.ldc2_w 121, 3) := by decide +kernel
theorem dX9_setWindow_20 : decode cX9_setWindow 20 = .ok (.ldc2_w 123, 3) := by decide +kernel
theorem dX9_setWindow_23 : decode cX9_setWindow 23 = .ok (.invokestatic 51, 3) := by decide +kernel
theorem dX9_setWindow_26 : decode cX9_setWindow 26 = .ok (.ifCond .eq 7, 3) := by decide +kernel
theorem dX9_setWindow_29 : decode cX9_setWindow 29 = .ok (.iconst 1, 1) := by decide +kernel
theorem dX9_setWindow_30 : decode cX9_setWindow 30 = .ok (.goto 4, 3) := by decide +kernel
theorem dX9_setWindow_33 : decode cX9_setWindow 33 = .ok (.iconst 0, 1) := by decide +kernel
theorem dX9_setWindow_34 : decode cX9_setWindow 34 = .ok (.istore 5, 2) := by decide +kernel
theorem dX9_setWindow_36 : decode cX9_setWindow 36 = .ok (.iload 5, 2) := by decide +kernel
theorem dX9_setWindow_38 : decode cX9_setWindow 38 = .ok (.ifCond .eq 34, 3) := by decide +kernel
theorem dX9_setWindow_41 : decode cX9_setWindow 41 = .ok (.iload_n 1, 1) := by decide +kernel
theorem dX9_setWindow_42 : decode cX9_setWindow 42 = .ok (.i2l, 1) := by decide +kernel
theorem dX9_setWindow_43 : decode cX9_setWindow 43 = .ok (.lconst 0, 1) := by decide +kernel
theorem dX9_setWindow_44 : decode cX9_setWindow 44 = .ok (.sipush 200, 3) := by decide +kernel
theorem dX9_setWindow_47 : decode cX9_setWindow 47 = .ok (.iload_n 3, 1) := by decide +kernel
theorem dX9_setWindow_48 : decode cX9_setWindow 48 = .ok (.isub, 1) := by decide +kernel
theorem dX9_setWindow_49 : decode cX9_setWindow 49 = .ok (.i2l, 1) := by decide +kernel
theorem dX9_setWindow_50 : decode cX9_setWindow 50 = .ok (.invokestatic 51, 3) := by decide +kernel
theorem dX9_setWindow_53 : decode cX9_setWindow 53 = .ok (.ifCond .eq 19, 3) := by decide +kernel
theorem dX9_setWindow_56 : decode cX9_setWindow 56 = .ok (.iload_n 2, 1) := by decide +kernel
theorem dX9_setWindow_57 : decode cX9_setWindow 57 = .ok (.i2l, 1) := by decide +kernel
theorem dX9_setWindow_58 : decode cX9_setWindow 58 = .ok (.lconst 0, 1) := by decide +kernel
theorem dX9_setWindow_59 : decode cX9_setWindow 59 = .ok (.sipush 200, 3) := by decide +kernel
theorem dX9_setWindow_62 : decode cX9_setWindow 62 = .ok (.iload 4, 2) := by decide +kernel
theorem dX9_setWindow_64 : decode cX9_setWindow 64 = .ok (.isub, 1) := by decide +kernel
theorem dX9_setWindow_65 : decode cX9_setWindow 65 = .ok (.i2l, 1) := by decide +kernel
theorem dX9_setWindow_66 : decode cX9_setWindow 66 = .ok (.invokestatic 51, 3) := by decide +kernel
theorem dX9_setWindow_69 : decode cX9_setWindow 69 = .ok (.ifCond .ne 6, 3) := by decide +kernel
theorem dX9_setWindow_72 : decode cX9_setWindow 72 = .ok (.bipush (-2), 2) := by decide +kernel
theorem dX9_setWindow_74 : decode cX9_setWindow 74 = .ok (.ireturn, 1) := by decide +kernel
theorem dX9_setWindow_75 : decode cX9_setWindow 75 = .ok (.aload_n 0, 1) := by decide +kernel
theorem dX9_setWindow_76 : decode cX9_setWindow 76 = .ok (.iload_n 1, 1) := by decide +kernel
theorem dX9_setWindow_77 : decode cX9_setWindow 77 = .ok (.putfield 55, 3) := by decide +kernel
theorem dX9_setWindow_80 : decode cX9_setWindow 80 = .ok (.aload_n 0, 1) := by decide +kernel
theorem dX9_setWindow_81 : decode cX9_setWindow 81 = .ok (.iload_n 2, 1) := by decide +kernel
theorem dX9_setWindow_82 : decode cX9_setWindow 82 = .ok (.putfield 58, 3) := by decide +kernel
theorem dX9_setWindow_85 : decode cX9_setWindow 85 = .ok (.aload_n 0, 1) := by decide +kernel
theorem dX9_setWindow_86 : decode cX9_setWindow 86 = .ok (.iload_n 3, 1) := by decide +kernel
theorem dX9_setWindow_87 : decode cX9_setWindow 87 = .ok (.putfield 13, 3) := by decide +kernel
theorem dX9_setWindow_90 : decode cX9_setWindow 90 = .ok (.aload_n 0, 1) := by decide +kernel
theorem dX9_setWindow_91 : decode cX9_setWindow 91 = .ok (.iload 4, 2) := by decide +kernel
theorem dX9_setWindow_93 : decode cX9_setWindow 93 = .ok (.putfield 17, 3) := by decide +kernel
theorem dX9_setWindow_96 : decode cX9_setWindow 96 = .ok (.aload_n 0, 1) := by decide +kernel
theorem dX9_setWindow_97 : decode cX9_setWindow 97 = .ok (.invokevirtual 102, 3) := by decide +kernel
theorem dX9_setWindow_100 : decode cX9_setWindow 100 = .ok (.aload_n 0, 1) := by decide +kernel
theorem dX9_setWindow_101 : decode cX9_setWindow 101 = .ok (.invokevirtual 125, 3) := by decide +kernel
theorem dX9_setWindow_104 : decode cX9_setWindow 104 = .ok (.ireturn, 1) := by decide +kernel
theorem dX9_wants_0 : decode cX9_wants 0 = .ok (.aload_n 0, 1) := by decide +kernel
theorem dX9_wants_1 : decode cX9_wants 1 = .ok (.getfield 7, 3) := by decide +kernel
theorem dX9_wants_4 : decode cX9_wants 4 = .ok (.bipush 120, 2) := by decide +kernel
theorem dX9_wants_6 : decode cX9_wants 6 = .ok (.iload_n 1, 1) := by decide +kernel
theorem dX9_wants_7 : decode cX9_wants 7 = .ok (.iadd, 1) := by decide +kernel
theorem dX9_wants_8 : decode cX9_wants 8 = .ok (.iaload, 1) := by decide +kernel
theorem dX9_wants_9 : decode cX9_wants 9 = .ok (.iconst (-1), 1) := by decide +kernel
theorem dX9_wants_10 : decode cX9_wants 10 = .ok (.if_icmp .ne 15, 3) := by decide +kernel
theorem dX9_wants_13 : decode cX9_wants 13 = .ok (.aload_n 0, 1) := by decide +kernel
theorem dX9_wants_14 : decode cX9_wants 14 = .ok (.iload_n 1, 1) := by decide +kernel
theorem dX9_wants_15 : decode cX9_wants 15 = .ok (.invokevirtual 68, 3) := by decide +kernel
theorem dX9_wants_18 : decode cX9_wants 18 = .ok (.ifCond .eq 7, 3) := by decide +kernel
theorem dX9_wants_21 : decode cX9_wants 21 = .ok (.iconst 1, 1) := by decide +kernel
theorem dX9_wants_22 : decode cX9_wants 22 = .ok (.goto 4, 3) := by decide +kernel
theorem dX9_wants_25 : decode cX9_wants 25 = .ok (.iconst 0, 1) := by decide +kernel
theorem dX9_wants_26 : decode cX9_wants 26 = .ok (.ireturn, 1) := by decide +kernel
theorem dX9_fill_0 : decode cX9_fill 0 = .ok (.aload_n 0, 1) := by decide +kernel
theorem dX9_fill_1 : decode cX9_fill 1 = .ok (.invokevirtual 83, 3) := by decide +kernel
theorem dX9_fill_4 : decode cX9_fill 4 = .ok (.aload_n 0, 1) := by decide +kernel
theorem dX9_fill_5 : decode cX9_fill 5 = .ok (.invokevirtual 148, 3) := by decide +kernel
theorem dX9_fill_8 : decode cX9_fill 8 = .ok (.iconst 0, 1) := by decide +kernel
theorem dX9_fill_9 : decode cX9_fill 9 = .ok (.istore_n 1, 1) := by decide +kernel
theorem dX9_fill_10 : decode cX9_fill 10 = .ok (.iconst 0, 1) := by decide +kernel
theorem dX9_fill_11 : decode cX9_fill 11 = .ok (.istore_n 2, 1) := by decide +kernel
theorem dX9_fill_12 : decode cX9_fill 12 = .ok (.iload_n 2, 1) := by decide +kernel
theorem dX9_fill_13 : decode cX9_fill 13 = .ok (.aload_n 0, 1) := by decide +kernel
theorem dX9_fill_14 : decode cX9_fill 14 = .ok (.getfield 48, 3) := by decide +kernel
theorem dX9_fill_17 : decode cX9_fill 17 = .ok (.if_icmp .ge 80, 3) := by decide +kernel
theorem dX9_fill_20 : decode cX9_fill 20 = .ok (.aload_n 0, 1) := by decide +kernel
theorem dX9_fill_21 : decode cX9_fill 21 = .ok (.getfield 24, 3) := by decide +kernel
theorem dX9_fill_24 : decode cX9_fill 24 = .ok (.iload_n 2, 1) := by decide +kernel
theorem dX9_fill_25 : decode cX9_fill 25 = .ok (.iaload, 1) := by decide +kernel
theorem dX9_fill_26 : decode cX9_fill 26 = .ok (.istore_n 3, 1) := by decide +kernel
theorem dX9_fill_27 : decode cX9_fill 27 = .ok (.iconst 0, 1) := by decide +kernel
theorem dX9_fill_28 : decode cX9_fill 28 = .ok (.istore 4, 2) := by decide +kernel
theorem dX9_fill_30 : decode cX9_fill 30 = .ok (.iload 4, 2) := by decide +kernel
theorem dX9_fill_32 : decode cX9_fill 32 = .ok (.bipush 8, 2) := by decide +kernel
theorem dX9_fill_34 : decode cX9_fill 34 = .ok (.if_icmp .ge 57, 3) := by decide +kernel
theorem dX9_fill_37 : decode cX9_fill 37 = .ok (.aload_n 0, 1) := by decide +kernel
theorem dX9_fill_38 : decode cX9_fill 38 = .ok (.iload_n 3, 1) := by decide +kernel
theorem dX9_fill_39 : decode cX9_fill 39 = .ok (.invokevirtual 151, 3) := by decide +kernel
theorem dX9_fill_42 : decode cX9_fill 42 = .ok (.ifCond .eq 49, 3) := by decide +kernel
theorem dX9_fill_45 : decode cX9_fill 45 = .ok (.aload_n 0, 1) := by decide +kernel
theorem dX9_fill_46 : decode cX9_fill 46 = .ok (.getfield 20, 3) := by decide +kernel
theorem dX9_fill_49 : decode cX9_fill 49 = .ok (.bipush 8, 2) := by decide +kernel
theorem dX9_fill_51 : decode cX9_fill 51 = .ok (.iload_n 3, 1) := by decide +kernel
theorem dX9_fill_52 : decode cX9_fill 52 = .ok (.imul, 1) := by decide +kernel
theorem dX9_fill_53 : decode cX9_fill 53 = .ok (.iload 4, 2) := by decide +kernel
theorem dX9_fill_55 : decode cX9_fill 55 = .ok (.iadd, 1) := by decide +kernel
theorem dX9_fill_56 : decode cX9_fill 56 = .ok (.baload, 1) := by decide +kernel
theorem dX9_fill_57 : decode cX9_fill 57 = .ok (.ifCond .eq 28, 3) := by decide +kernel
theorem dX9_fill_60 : decode cX9_fill 60 = .ok (.aload_n 0, 1) := by decide +kernel
theorem dX9_fill_61 : decode cX9_fill 61 = .ok (.iload_n 3, 1) := by decide +kernel
theorem dX9_fill_62 : decode cX9_fill 62 = .ok (.iload 4, 2) := by decide +kernel
theorem dX9_fill_64 : decode cX9_fill 64 = .ok (.iconst (-1), 1) := by decide +kernel
theorem dX9_fill_65 : decode cX9_fill 65 = .ok (.invokevirtual 108, 3) := by decide +kernel
theorem dX9_fill_68 : decode cX9_fill 68 = .ok (.ifCond .ne 17, 3) := by decide +kernel
theorem dX9_fill_71 : decode cX9_fill 71 = .ok (.aload_n 0, 1) := by decide +kernel
theorem dX9_fill_72 : decode cX9_fill 72 = .ok (.getfield 7, 3) := by decide +kernel
theorem dX9_fill_75 : decode cX9_fill 75 = .ok (.bipush 120, 2) := by decide +kernel
theorem dX9_fill_77 : decode cX9_fill 77 = .ok (.iload_n 3, 1) := by decide +kernel
theorem dX9_fill_78 : decode cX9_fill 78 = .ok (.iadd, 1) := by decide +kernel
theorem dX9_fill_79 : decode cX9_fill 79 = .ok (.iload 4, 2) := by decide +kernel
theorem dX9_fill_81 : decode cX9_fill 81 = .ok (.iastore, 1) := by decide +kernel
theorem dX9_fill_82 : decode cX9_fill 82 = .ok (.iinc 1 1, 3) := by decide +kernel
theorem dX9_fill_85 : decode cX9_fill 85 = .ok (.iinc 4 1, 3) := by decide +kernel
theorem dX9_fill_88 : decode cX9_fill 88 = .ok (.goto (-58), 3) := by decide +kernel
theorem dX9_fill_91 : decode cX9_fill 91 = .ok (.iinc 2 1, 3) := by decide +kernel
theorem dX9_fill_94 : decode cX9_fill 94 = .ok (.goto (-82), 3) := by decide +kernel
theorem dX9_fill_97 : decode cX9_fill 97 = .ok (.iload_n 1, 1) := by decide +kernel
theorem dX9_fill_98 : decode cX9_fill 98 = .ok (.ireturn, 1) := by decide +kernel
theorem dX9_pan_0 : decode cX9_pan 0 = .ok (.aload_n 0, 1) := by decide +kernel
theorem dX9_pan_1 : decode cX9_pan 1 = .ok (.getfield 55, 3) := by decide +kernel
theorem dX9_pan_4 : decode cX9_pan 4 = .ok (.i2l, 1) := by decide +kernel
theorem dX9_pan_5 : decode cX9_pan 5 = .ok (.iload_n 1, 1) := by decide +kernel
theorem dX9_pan_6 : decode cX9_pan 6 = .ok (.i2l, 1) := by decide +kernel
theorem dX9_pan_7 : decode cX9_pan 7 = .ok (.ladd, 1) := by decide +kernel
theorem dX9_pan_8 : decode cX9_pan 8 = .ok (.lconst 0, 1) := by decide +kernel
theorem dX9_pan_9 : decode cX9_pan 9 = .ok (.sipush 200, 3) := by decide +kernel
theorem dX9_pan_12 : decode cX9_pan 12 = .ok (.aload_n 0, 1) := by decide +kernel
theorem dX9_pan_13 : decode cX9_pan 13 = .ok (.getfield 13, 3) := by decide +kernel
theorem dX9_pan_16 : decode cX9_pan 16 = .ok (.isub, 1) := by decide +kernel
theorem dX9_pan_17 : decode cX9_pan 17 = .ok (.i2l, 1) := by decide +kernel
theorem dX9_pan_18 : decode cX9_pan 18 = .ok (.invokestatic 51, 3) := by decide +kernel
theorem dX9_pan_21 : decode cX9_pan 21 = .ok (.ifCond .eq 27, 3) := by decide +kernel
theorem dX9_pan_24 : decode cX9_pan 24 = .ok (.aload_n 0, 1) := by decide +kernel
theorem dX9_pan_25 : decode cX9_pan 25 = .ok (.getfield 58, 3) := by decide +kernel
theorem dX9_pan_28 : decode cX9_pan 28 = .ok (.i2l, 1) := by decide +kernel
theorem dX9_pan_29 : decode cX9_pan 29 = .ok (.iload_n 2, 1) := by decide +kernel
theorem dX9_pan_30 : decode cX9_pan 30 = .ok (.i2l, 1) := by decide +kernel
theorem dX9_pan_31 : decode cX9_pan 31 = .ok (.ladd, 1) := by decide +kernel
theorem dX9_pan_32 : decode cX9_pan 32 = .ok (.lconst 0, 1) := by decide +kernel
theorem dX9_pan_33 : decode cX9_pan 33 = .ok (.sipush 200, 3) := by decide +kernel
theorem dX9_pan_36 : decode cX9_pan 36 = .ok (.aload_n 0, 1) := by decide +kernel
theorem dX9_pan_37 : decode cX9_pan 37 = .ok (.getfield 17, 3) := by decide +kernel
theorem dX9_pan_40 : decode cX9_pan 40 = .ok (.isub, 1) := by decide +kernel
theorem dX9_pan_41 : decode cX9_pan 41 = .ok (.i2l, 1) := by decide +kernel
theorem dX9_pan_42 : decode cX9_pan 42 = .ok (.invokestatic 51, 3) := by decide +kernel
theorem dX9_pan_45 : decode cX9_pan 45 = .ok (.ifCond .ne 6, 3) := by decide +kernel
theorem dX9_pan_48 : decode cX9_pan 48 = .ok (.bipush (-2), 2) := by decide +kernel
theorem dX9_pan_50 : decode cX9_pan 50 = .ok (.ireturn, 1) := by decide +kernel
theorem dX9_pan_51 : decode cX9_pan 51 = .ok (.aload_n 0, 1) := by decide +kernel
theorem dX9_pan_52 : decode cX9_pan 52 = .ok (.dup, 1) := by decide +kernel
theorem dX9_pan_53 : decode cX9_pan 53 = .ok (.getfield 55, 3) := by decide +kernel
theorem dX9_pan_56 : decode cX9_pan 56 = .ok (.iload_n 1, 1) := by decide +kernel
theorem dX9_pan_57 : decode cX9_pan 57 = .ok (.iadd, 1) := by decide +kernel
theorem dX9_pan_58 : decode cX9_pan 58 = .ok (.putfield 55, 3) := by decide +kernel
theorem dX9_pan_61 : decode cX9_pan 61 = .ok (.aload_n 0, 1) := by decide +kernel
theorem dX9_pan_62 : decode cX9_pan 62 = .ok (.dup, 1) := by decide +kernel
theorem dX9_pan_63 : decode cX9_pan 63 = .ok (.getfield 58, 3) := by decide +kernel
theorem dX9_pan_66 : decode cX9_pan 66 = .ok (.iload_n 2, 1) := by decide +kernel
theorem dX9_pan_67 : decode cX9_pan 67 = .ok (.iadd, 1) := by decide +kernel
theorem dX9_pan_68 : decode cX9_pan 68 = .ok (.putfield 58, 3) := by decide +kernel
theorem dX9_pan_71 : decode cX9_pan 71 = .ok (.aload_n 0, 1) := by decide +kernel
theorem dX9_pan_72 : decode cX9_pan 72 = .ok (.invokevirtual 102, 3) := by decide +kernel
theorem dX9_pan_75 : decode cX9_pan 75 = .ok (.aload_n 0, 1) := by decide +kernel
theorem dX9_pan_76 : decode cX9_pan 76 = .ok (.invokevirtual 129, 3) := by decide +kernel
theorem dX9_pan_79 : decode cX9_pan 79 = .ok (.istore_n 3, 1) := by decide +kernel
theorem dX9_pan_80 : decode cX9_pan 80 = .ok (.aload_n 0, 1) := by decide +kernel
theorem dX9_pan_81 : decode cX9_pan 81 = .ok (.invokevirtual 132, 3) := by decide +kernel
theorem dX9_pan_84 : decode cX9_pan 84 = .ok (.istore 4, 2) := by decide +kernel
theorem dX9_pan_86 : decode cX9_pan 86 = .ok (.iload 4, 2) := by decide +kernel
theorem dX9_pan_88 : decode cX9_pan 88 = .ok (.ifCond .ge 8, 3) := by decide +kernel
theorem dX9_pan_91 : decode cX9_pan 91 = .ok (.iload 4, 2) := by decide +kernel
theorem dX9_pan_93 : decode cX9_pan 93 = .ok (.goto 4, 3) := by decide +kernel
theorem dX9_pan_96 : decode cX9_pan 96 = .ok (.iload_n 3, 1) := by decide +kernel
theorem dX9_pan_97 : decode cX9_pan 97 = .ok (.ireturn, 1) := by decide +kernel
theorem dX9_meets_0 : decode cX9_meets 0 = .ok (.iconst 0, 1) := by decide +kernel
theorem dX9_meets_1 : decode cX9_meets 1 = .ok (.istore_n 3, 1) := by decide +kernel
theorem dX9_meets_2 : decode cX9_meets 2 = .ok (.iconst 0, 1) := by decide +kernel
theorem dX9_meets_3 : decode cX9_meets 3 = .ok (.istore 4, 2) := by decide +kernel
theorem dX9_meets_5 : decode cX9_meets 5 = .ok (.iload 4, 2) := by decide +kernel
theorem dX9_meets_7 : decode cX9_meets 7 = .ok (.bipush 8, 2) := by decide +kernel
theorem dX9_meets_9 : decode cX9_meets 9 = .ok (.aload_n 0, 1) := by decide +kernel
theorem dX9_meets_10 : decode cX9_meets 10 = .ok (.getfield 48, 3) := by decide +kernel
theorem dX9_meets_13 : decode cX9_meets 13 = .ok (.imul, 1) := by decide +kernel
theorem dX9_meets_14 : decode cX9_meets 14 = .ok (.if_icmp .ge 55, 3) := by decide +kernel
theorem dX9_meets_17 : decode cX9_meets 17 = .ok (.iload_n 3, 1) := by decide +kernel
theorem dX9_meets_18 : decode cX9_meets 18 = .ok (.iload 4, 2) := by decide +kernel
theorem dX9_meets_20 : decode cX9_meets 20 = .ok (.bipush 8, 2) := by decide +kernel
theorem dX9_meets_22 : decode cX9_meets 22 = .ok (.idiv, 1) := by decide +kernel
theorem dX9_meets_23 : decode cX9_meets 23 = .ok (.iload_n 1, 1) := by decide +kernel
theorem dX9_meets_24 : decode cX9_meets 24 = .ok (.if_icmp .eq 36, 3) := by decide +kernel
theorem dX9_meets_27 : decode cX9_meets 27 = .ok (.aload_n 0, 1) := by decide +kernel
theorem dX9_meets_28 : decode cX9_meets 28 = .ok (.getfield 20, 3) := by decide +kernel
theorem dX9_meets_31 : decode cX9_meets 31 = .ok (.iload 4, 2) := by decide +kernel
theorem dX9_meets_33 : decode cX9_meets 33 = .ok (.baload, 1) := by decide +kernel
theorem dX9_meets_34 : decode cX9_meets 34 = .ok (.ifCond .eq 26, 3) := by decide +kernel
theorem dX9_meets_37 : decode cX9_meets 37 = .ok (.aload_n 0, 1) := by decide +kernel
theorem dX9_meets_38 : decode cX9_meets 38 = .ok (.iload_n 1, 1) := by decide +kernel
theorem dX9_meets_39 : decode cX9_meets 39 = .ok (.iload_n 2, 1) := by decide +kernel
theorem dX9_meets_40 : decode cX9_meets 40 = .ok (.iload 4, 2) := by decide +kernel
theorem dX9_meets_42 : decode cX9_meets 42 = .ok (.bipush 8, 2) := by decide +kernel
theorem dX9_meets_44 : decode cX9_meets 44 = .ok (.idiv, 1) := by decide +kernel
theorem dX9_meets_45 : decode cX9_meets 45 = .ok (.iload 4, 2) := by decide +kernel
theorem dX9_meets_47 : decode cX9_meets 47 = .ok (.bipush 8, 2) := by decide +kernel
theorem dX9_meets_49 : decode cX9_meets 49 = .ok (.irem, 1) := by decide +kernel
theorem dX9_meets_50 : decode cX9_meets 50 = .ok (.invokevirtual 80, 3) := by decide +kernel
theorem dX9_meets_53 : decode cX9_meets 53 = .ok (.ifCond .eq 7, 3) := by decide +kernel
theorem dX9_meets_56 : decode cX9_meets 56 = .ok (.iconst 1, 1) := by decide +kernel
theorem dX9_meets_57 : decode cX9_meets 57 = .ok (.goto 4, 3) := by decide +kernel
theorem dX9_meets_60 : decode cX9_meets 60 = .ok (.iconst 0, 1) := by decide +kernel
theorem dX9_meets_61 : decode cX9_meets 61 = .ok (.iadd, 1) := by decide +kernel
theorem dX9_meets_62 : decode cX9_meets 62 = .ok (.istore_n 3, 1) := by decide +kernel
theorem dX9_meets_63 : decode cX9_meets 63 = .ok (.iinc 4 1, 3) := by decide +kernel
theorem dX9_meets_66 : decode cX9_meets 66 = .ok (.goto (-61), 3) := by decide +kernel
theorem dX9_meets_69 : decode cX9_meets 69 = .ok (.iload_n 3, 1) := by decide +kernel
theorem dX9_meets_70 : decode cX9_meets 70 = .ok (.ireturn, 1) := by decide +kernel
theorem dX9_placePart_0 : decode cX9_placePart 0 = .ok (.aload_n 0, 1) := by decide +kernel
theorem dX9_placePart_1 : decode cX9_placePart 1 = .ok (.getfield 20, 3) := by decide +kernel
theorem dX9_placePart_4 : decode cX9_placePart 4 = .ok (.bipush 8, 2) := by decide +kernel
theorem dX9_placePart_6 : decode cX9_placePart 6 = .ok (.iload_n 1, 1) := by decide +kernel
theorem dX9_placePart_7 : decode cX9_placePart 7 = .ok (.imul, 1) := by decide +kernel
theorem dX9_placePart_8 : decode cX9_placePart 8 = .ok (.iload_n 2, 1) := by decide +kernel
theorem dX9_placePart_9 : decode cX9_placePart 9 = .ok (.iadd, 1) := by decide +kernel
theorem dX9_placePart_10 : decode cX9_placePart 10 = .ok (.baload, 1) := by decide +kernel
theorem dX9_placePart_11 : decode cX9_placePart 11 = .ok (.istore 4, 2) := by decide +kernel
theorem dX9_placePart_13 : decode cX9_placePart 13 = .ok (.iload_n 3, 1) := by decide +kernel
theorem dX9_placePart_14 : decode cX9_placePart 14 = .ok (.tableswitch 71 0 3 #[30, 41, 48, 55], 30) := by decide +kernel
theorem dX9_placePart_44 : decode cX9_placePart 44 = .ok (.iload 4, 2) := by decide +kernel
theorem dX9_placePart_46 : decode cX9_placePart 46 = .ok (.ifCond .eq 7, 3) := by decide +kernel
theorem dX9_placePart_49 : decode cX9_placePart 49 = .ok (.iconst 1, 1) := by decide +kernel
theorem dX9_placePart_50 : decode cX9_placePart 50 = .ok (.goto 4, 3) := by decide +kernel
theorem dX9_placePart_53 : decode cX9_placePart 53 = .ok (.iconst 0, 1) := by decide +kernel
theorem dX9_placePart_54 : decode cX9_placePart 54 = .ok (.ireturn, 1) := by decide +kernel
theorem dX9_placePart_55 : decode cX9_placePart 55 = .ok (.aload_n 0, 1) := by decide +kernel
theorem dX9_placePart_56 : decode cX9_placePart 56 = .ok (.iload_n 1, 1) := by decide +kernel
theorem dX9_placePart_57 : decode cX9_placePart 57 = .ok (.iload_n 2, 1) := by decide +kernel
theorem dX9_placePart_58 : decode cX9_placePart 58 = .ok (.invokevirtual 61, 3) := by decide +kernel
theorem dX9_placePart_61 : decode cX9_placePart 61 = .ok (.ireturn, 1) := by decide +kernel
theorem dX9_placePart_62 : decode cX9_placePart 62 = .ok (.aload_n 0, 1) := by decide +kernel
theorem dX9_placePart_63 : decode cX9_placePart 63 = .ok (.iload_n 1, 1) := by decide +kernel
theorem dX9_placePart_64 : decode cX9_placePart 64 = .ok (.iload_n 2, 1) := by decide +kernel
theorem dX9_placePart_65 : decode cX9_placePart 65 = .ok (.invokevirtual 65, 3) := by decide +kernel
theorem dX9_placePart_68 : decode cX9_placePart 68 = .ok (.ireturn, 1) := by decide +kernel
theorem dX9_placePart_69 : decode cX9_placePart 69 = .ok (.iload 4, 2) := by decide +kernel
theorem dX9_placePart_71 : decode cX9_placePart 71 = .ok (.ifCond .eq 12, 3) := by decide +kernel
theorem dX9_placePart_74 : decode cX9_placePart 74 = .ok (.aload_n 0, 1) := by decide +kernel
theorem dX9_placePart_75 : decode cX9_placePart 75 = .ok (.iload_n 1, 1) := by decide +kernel
theorem dX9_placePart_76 : decode cX9_placePart 76 = .ok (.iload_n 2, 1) := by decide +kernel
theorem dX9_placePart_77 : decode cX9_placePart 77 = .ok (.invokevirtual 135, 3) := by decide +kernel
theorem dX9_placePart_80 : decode cX9_placePart 80 = .ok (.goto 4, 3) := by decide +kernel
theorem dX9_placePart_83 : decode cX9_placePart 83 = .ok (.iconst 0, 1) := by decide +kernel
theorem dX9_placePart_84 : decode cX9_placePart 84 = .ok (.ireturn, 1) := by decide +kernel
theorem dX9_placePart_85 : decode cX9_placePart 85 = .ok (.iload 4, 2) := by decide +kernel
theorem dX9_placePart_87 : decode cX9_placePart 87 = .ok (.ifCond .eq 13, 3) := by decide +kernel
theorem dX9_placePart_90 : decode cX9_placePart 90 = .ok (.aload_n 0, 1) := by decide +kernel
theorem dX9_placePart_91 : decode cX9_placePart 91 = .ok (.iload_n 1, 1) := by decide +kernel
theorem dX9_placePart_92 : decode cX9_placePart 92 = .ok (.iload_n 2, 1) := by decide +kernel
theorem dX9_placePart_93 : decode cX9_placePart 93 = .ok (.iconst (-1), 1) := by decide +kernel
theorem dX9_placePart_94 : decode cX9_placePart 94 = .ok (.invokevirtual 108, 3) := by decide +kernel
theorem dX9_placePart_97 : decode cX9_placePart 97 = .ok (.goto 4, 3) := by decide +kernel
theorem dX9_placePart_100 : decode cX9_placePart 100 = .ok (.iconst 0, 1) := by decide +kernel
theorem dX9_placePart_101 : decode cX9_placePart 101 = .ok (.ireturn, 1) := by decide +kernel
theorem dX9_isSide_0 : decode cX9_isSide 0 = .ok (.iload_n 0, 1) := by decide +kernel
theorem dX9_isSide_1 : decode cX9_isSide 1 = .ok (.i2l, 1) := by decide +kernel
theorem dX9_isSide_2 : decode cX9_isSide 2 = .ok (.lconst 0, 1) := by decide +kernel
theorem dX9_isSide_3 : decode cX9_isSide 3 = .ok (.ldc2_w 138, 3) := by decide +kernel
theorem dX9_isSide_6 : decode cX9_isSide 6 = .ok (.invokestatic 51, 3) := by decide +kernel
theorem dX9_isSide_9 : decode cX9_isSide 9 = .ok (.ireturn, 1) := by decide +kernel
set_option maxHeartbeats 4000000 in
set_option maxRecDepth 100000 in
theorem qM_pointAt_L2_ok {σ : QS} {x1 : Int32} {x2 : Int32} : ∀ (n : Nat) (x3 : Int32) (r : Int32), qM_pointAt_L2 σ x1 x2 n x3 = some r → qx_E (qx_gM l D ci a) 1 mX9_pointAt (some (.int r), σ) 2 [(0, .ref (a 0)), (1, .int x1), (2, .int x2), (3, .int x3)] [] σ := by
  intro n
  induction n with
  | zero =>
    intro x3 r h
    exact (qx_none h).elim
  | succ n ih =>
    intro x3 r h
    unfold qM_pointAt_L2 at h
    refine qx_iload_n (pc := 2) 3 dX9_pointAt_2 rfl ?_
    refine qx_aload_n (pc := 3) 0 dX9_pointAt_3 rfl ?_
    refine qgM0_1 (pc := 4) qwf_X9_48 dX9_pointAt_4 ?_
    refine qx_icmp_ge (pc := 7) 43 h dX9_pointAt_7 (by decide) (fun h => ?_) (fun h => ?_)
    · refine qx_iconst (pc := 43) (-1) dX9_pointAt_43 (by decide) ?_
      exact qx_iret h rfl dX9_pointAt_44
    · refine qx_aload_n (pc := 10) 0 dX9_pointAt_10 rfl ?_
      refine qgM0_0 (pc := 11) qwf_X9_7 dX9_pointAt_11 ?_
      refine qx_iconst (pc := 14) 0 dX9_pointAt_14 (by decide) ?_
      refine qx_iload_n (pc := 15) 3 dX9_pointAt_15 rfl ?_
      refine qx_iadd (pc := 16) dX9_pointAt_16 ?_
      refine qlM1 (pc := 17) h dX9_pointAt_17 (fun h => ?_)
      refine qx_iload_n (pc := 18) 1 dX9_pointAt_18 rfl ?_
      refine qx_icmp_ne (pc := 19) 37 h dX9_pointAt_19 (by decide) (fun h => ?_) (fun h => ?_)
      · refine qx_iinc (pc := 37) (lv' := [(3, .int (x3 + 1)), (0, .ref (a 0)), (1, .int x1), (2, .int x2)]) 3 (x3 + 1) dX9_pointAt_37 rfl rfl (Nat.le_of_ble_eq_true rfl) rfl ?_
        refine qx_goto (pc := 40) 2 dX9_pointAt_40 (by decide) ?_
        exact qx_sub [1, 2, 3, 0] rfl (ih _ _ h)
      · refine qx_aload_n (pc := 22) 0 dX9_pointAt_22 rfl ?_
        refine qgM0_0 (pc := 23) qwf_X9_7 dX9_pointAt_23 ?_
        refine qx_bipush (pc := 26) 20 dX9_pointAt_26 (by decide) ?_
        refine qx_iload_n (pc := 28) 3 dX9_pointAt_28 rfl ?_
        refine qx_iadd (pc := 29) dX9_pointAt_29 ?_
        refine qlM1 (pc := 30) h dX9_pointAt_30 (fun h => ?_)
        refine qx_iload_n (pc := 31) 2 dX9_pointAt_31 rfl ?_
        refine qx_icmp_ne (pc := 32) 37 h dX9_pointAt_32 (by decide) (fun h => ?_) (fun h => ?_)
        · refine qx_iinc (pc := 37) (lv' := [(3, .int (x3 + 1)), (0, .ref (a 0)), (1, .int x1), (2, .int x2)]) 3 (x3 + 1) dX9_pointAt_37 rfl rfl (Nat.le_of_ble_eq_true rfl) rfl ?_
          refine qx_goto (pc := 40) 2 dX9_pointAt_40 (by decide) ?_
          exact qx_sub [1, 2, 3, 0] rfl (ih _ _ h)
        · refine qx_iload_n (pc := 35) 3 dX9_pointAt_35 rfl ?_
          exact qx_iret h rfl dX9_pointAt_36
set_option maxHeartbeats 4000000 in
set_option maxRecDepth 100000 in
theorem qM_pointAt_ok {σ : QS} {x1 : Int32} {x2 : Int32} {r : Int32} (h : qM_pointAt σ x1 x2 = some r) : qx_E (qx_gM l D ci a) 1 mX9_pointAt (some (.int r), σ) 0 [(0, .ref (a 0)), (1, .int x1), (2, .int x2)] [] σ := by
  unfold qM_pointAt at h
  refine qx_iconst (pc := 0) 0 dX9_pointAt_0 (by decide) ?_
  refine qx_istore_n (pc := 1) (lv' := [(3, .int 0), (0, .ref (a 0)), (1, .int x1), (2, .int x2)]) dX9_pointAt_1 (Nat.le_of_ble_eq_true rfl) rfl ?_
  exact qx_sub [1, 2, 3, 0] rfl (qM_pointAt_L2_ok qx_F _ _ h)
set_option maxHeartbeats 4000000 in
set_option maxRecDepth 100000 in
theorem qM_addPoint_J46_ok {σ : QS} {x1 : Int32} {x2 : Int32} {x3 : Int32} {x4 : Int32} {x5 : Int32} {x6 : Int32} {s0 : Int32} {r : Int32 × QS} (h : qM_addPoint_J46 σ x1 x2 x3 x4 x5 x6 s0 = some r) : qx_E (qx_gM l D ci a) 6 mX9_addPoint (some (.int r.1), r.2) 46 [(0, .ref (a 0)), (1, .int x1), (2, .int x2), (3, .int x3), (4, .int x4), (5, .int x5), (6, .int x6)] [.int s0] σ := by
  unfold qM_addPoint_J46 at h
  refine qx_istore (pc := 46) (lv' := [(7, .int s0), (0, .ref (a 0)), (1, .int x1), (2, .int x2), (3, .int x3), (4, .int x4), (5, .int x5), (6, .int x6)]) dX9_addPoint_46 (Nat.le_of_ble_eq_true rfl) rfl ?_
  refine qx_iload (pc := 48) 0 dX9_addPoint_48 rfl ?_
  refine qx_if_eq (pc := 50) 71 h dX9_addPoint_50 (by decide) (fun h => ?_) (fun h => ?_)
  · refine qx_bipush (pc := 71) (-2) dX9_addPoint_71 (by decide) ?_
    exact qx_iretS h rfl dX9_addPoint_73
  · refine qx_iconst (pc := 53) 4 dX9_addPoint_53 (by decide) ?_
    refine qx_iload (pc := 54) 6 dX9_addPoint_54 rfl ?_
    obtain ⟨r1, hr1, h⟩ := qx_bindE h
    refine qx_callSi (pc := 56) r1 σ [.int 4, .int x5] [] rfl qcm_X9_isProperty qcs_X9_isProperty qwm_X9_96 rfl (Nat.le_of_ble_eq_true rfl) (Nat.le_of_ble_eq_true rfl) (by decide) dX9_addPoint_56 (qM_isProperty_ok hr1) ?_
    refine qx_if_eq (pc := 59) 71 h dX9_addPoint_59 (by decide) (fun h => ?_) (fun h => ?_)
    · refine qx_bipush (pc := 71) (-2) dX9_addPoint_71 (by decide) ?_
      exact qx_iretS h rfl dX9_addPoint_73
    · refine qx_iconst (pc := 62) 5 dX9_addPoint_62 (by decide) ?_
      refine qx_iload (pc := 63) 7 dX9_addPoint_63 rfl ?_
      obtain ⟨r2, hr2, h⟩ := qx_bindE h
      refine qx_callSi (pc := 65) r2 σ [.int 5, .int x6] [] rfl qcm_X9_isProperty qcs_X9_isProperty qwm_X9_96 rfl (Nat.le_of_ble_eq_true rfl) (Nat.le_of_ble_eq_true rfl) (by decide) dX9_addPoint_65 (qM_isProperty_ok hr2) ?_
      refine qx_if_ne (pc := 68) 74 h dX9_addPoint_68 (by decide) (fun h => ?_) (fun h => ?_)
      · refine qx_aload_n (pc := 74) 1 dX9_addPoint_74 rfl ?_
        refine qx_iload_n (pc := 75) 2 dX9_addPoint_75 rfl ?_
        refine qx_iload_n (pc := 76) 3 dX9_addPoint_76 rfl ?_
        obtain ⟨r3, hr3, h⟩ := qx_bindE h
        refine qx_callVi (pc := 77) 0 r3 σ [.int x1, .int x2] [] rfl rfl rfl qcm_X9_pointAt qcv_X9_pointAt qwm_X9_99 rfl (Nat.le_of_ble_eq_true rfl) (Nat.le_of_ble_eq_true rfl) (by decide) dX9_addPoint_77 (qM_pointAt_ok hr3) ?_
        refine qx_iconst (pc := 80) (-1) dX9_addPoint_80 (by decide) ?_
        refine qx_icmp_eq (pc := 81) 87 h dX9_addPoint_81 (by decide) (fun h => ?_) (fun h => ?_)
        · refine qx_aload_n (pc := 87) 1 dX9_addPoint_87 rfl ?_
          refine qgM0_1 (pc := 88) qwf_X9_48 dX9_addPoint_88 ?_
          refine qx_bipush (pc := 91) 20 dX9_addPoint_91 (by decide) ?_
          refine qx_icmp_ne (pc := 93) 99 h dX9_addPoint_93 (by decide) (fun h => ?_) (fun h => ?_)
          · refine qx_aload_n (pc := 99) 1 dX9_addPoint_99 rfl ?_
            refine qgM0_0 (pc := 100) qwf_X9_7 dX9_addPoint_100 ?_
            refine qx_iconst (pc := 103) 0 dX9_addPoint_103 (by decide) ?_
            refine qx_aload_n (pc := 104) 1 dX9_addPoint_104 rfl ?_
            refine qgM0_1 (pc := 105) qwf_X9_48 dX9_addPoint_105 ?_
            refine qx_iadd (pc := 108) dX9_addPoint_108 ?_
            refine qx_iload_n (pc := 109) 2 dX9_addPoint_109 rfl ?_
            refine qsM1 (pc := 110) h dX9_addPoint_110 (fun h => ?_)
            refine qx_aload_n (pc := 111) 1 dX9_addPoint_111 rfl ?_
            refine qgM0_0 (pc := 112) qwf_X9_7 dX9_addPoint_112 ?_
            refine qx_bipush (pc := 115) 20 dX9_addPoint_115 (by decide) ?_
            refine qx_aload_n (pc := 117) 1 dX9_addPoint_117 rfl ?_
            refine qgM0_1 (pc := 118) qwf_X9_48 dX9_addPoint_118 ?_
            refine qx_iadd (pc := 121) dX9_addPoint_121 ?_
            refine qx_iload_n (pc := 122) 3 dX9_addPoint_122 rfl ?_
            refine qsM1 (pc := 123) h dX9_addPoint_123 (fun h => ?_)
            refine qx_aload_n (pc := 124) 1 dX9_addPoint_124 rfl ?_
            refine qgM0_0 (pc := 125) qwf_X9_7 dX9_addPoint_125 ?_
            refine qx_bipush (pc := 128) 40 dX9_addPoint_128 (by decide) ?_
            refine qx_aload_n (pc := 130) 1 dX9_addPoint_130 rfl ?_
            refine qgM0_1 (pc := 131) qwf_X9_48 dX9_addPoint_131 ?_
            refine qx_iadd (pc := 134) dX9_addPoint_134 ?_
            refine qx_iload_n (pc := 135) 4 dX9_addPoint_135 rfl ?_
            refine qsM1 (pc := 136) h dX9_addPoint_136 (fun h => ?_)
            refine qx_aload_n (pc := 137) 1 dX9_addPoint_137 rfl ?_
            refine qgM0_0 (pc := 138) qwf_X9_7 dX9_addPoint_138 ?_
            refine qx_bipush (pc := 141) 60 dX9_addPoint_141 (by decide) ?_
            refine qx_aload_n (pc := 143) 1 dX9_addPoint_143 rfl ?_
            refine qgM0_1 (pc := 144) qwf_X9_48 dX9_addPoint_144 ?_
            refine qx_iadd (pc := 147) dX9_addPoint_147 ?_
            refine qx_iload (pc := 148) 5 dX9_addPoint_148 rfl ?_
            refine qsM1 (pc := 150) h dX9_addPoint_150 (fun h => ?_)
            refine qx_aload_n (pc := 151) 1 dX9_addPoint_151 rfl ?_
            refine qgM0_0 (pc := 152) qwf_X9_7 dX9_addPoint_152 ?_
            refine qx_bipush (pc := 155) 80 dX9_addPoint_155 (by decide) ?_
            refine qx_aload_n (pc := 157) 1 dX9_addPoint_157 rfl ?_
            refine qgM0_1 (pc := 158) qwf_X9_48 dX9_addPoint_158 ?_
            refine qx_iadd (pc := 161) dX9_addPoint_161 ?_
            refine qx_iload (pc := 162) 6 dX9_addPoint_162 rfl ?_
            refine qsM1 (pc := 164) h dX9_addPoint_164 (fun h => ?_)
            refine qx_aload_n (pc := 165) 1 dX9_addPoint_165 rfl ?_
            refine qgM0_0 (pc := 166) qwf_X9_7 dX9_addPoint_166 ?_
            refine qx_bipush (pc := 169) 100 dX9_addPoint_169 (by decide) ?_
            refine qx_aload_n (pc := 171) 1 dX9_addPoint_171 rfl ?_
            refine qgM0_1 (pc := 172) qwf_X9_48 dX9_addPoint_172 ?_
            refine qx_iadd (pc := 175) dX9_addPoint_175 ?_
            refine qx_iload (pc := 176) 7 dX9_addPoint_176 rfl ?_
            refine qsM1 (pc := 178) h dX9_addPoint_178 (fun h => ?_)
            refine qx_aload_n (pc := 179) 1 dX9_addPoint_179 rfl ?_
            refine qgM0_0 (pc := 180) qwf_X9_7 dX9_addPoint_180 ?_
            refine qx_bipush (pc := 183) 120 dX9_addPoint_183 (by decide) ?_
            refine qx_aload_n (pc := 185) 1 dX9_addPoint_185 rfl ?_
            refine qgM0_1 (pc := 186) qwf_X9_48 dX9_addPoint_186 ?_
            refine qx_iadd (pc := 189) dX9_addPoint_189 ?_
            refine qx_iconst (pc := 190) (-1) dX9_addPoint_190 (by decide) ?_
            refine qsM1 (pc := 191) h dX9_addPoint_191 (fun h => ?_)
            refine qx_aload_n (pc := 192) 1 dX9_addPoint_192 rfl ?_
            refine qx_dup (pc := 193) dX9_addPoint_193 rfl ?_
            refine qgM0_1 (pc := 194) qwf_X9_48 dX9_addPoint_194 ?_
            refine qx_iconst (pc := 197) 1 dX9_addPoint_197 (by decide) ?_
            refine qx_iadd (pc := 198) dX9_addPoint_198 ?_
            refine qpM0_1 (pc := 199) qwf_X9_48 dX9_addPoint_199 ?_
            refine qx_aload_n (pc := 202) 1 dX9_addPoint_202 rfl ?_
            obtain ⟨r4, hr4, h⟩ := qx_bindE h
            refine qx_callVv (pc := 203) 0 r4 [] [] rfl rfl rfl qcm_X9_settles qcv_X9_settles qwm_X9_102 rfl (Nat.le_of_ble_eq_true rfl) (Nat.le_of_ble_eq_true rfl) (by decide) dX9_addPoint_203 (qM_settles_ok hr4) ?_
            refine qx_aload_n (pc := 206) 1 dX9_addPoint_206 rfl ?_
            refine qgM0_1 (pc := 207) qwf_X9_48 dX9_addPoint_207 ?_
            refine qx_iconst (pc := 210) 1 dX9_addPoint_210 (by decide) ?_
            refine qx_isub (pc := 211) dX9_addPoint_211 ?_
            exact qx_iretS h rfl dX9_addPoint_212
          · refine qx_bipush (pc := 96) (-4) dX9_addPoint_96 (by decide) ?_
            exact qx_iretS h rfl dX9_addPoint_98
        · refine qx_bipush (pc := 84) (-3) dX9_addPoint_84 (by decide) ?_
          exact qx_iretS h rfl dX9_addPoint_86
      · refine qx_bipush (pc := 71) (-2) dX9_addPoint_71 (by decide) ?_
        exact qx_iretS h rfl dX9_addPoint_73
set_option maxHeartbeats 4000000 in
set_option maxRecDepth 100000 in
theorem qM_addPoint_ok {σ : QS} {x1 : Int32} {x2 : Int32} {x3 : Int32} {x4 : Int32} {x5 : Int32} {x6 : Int32} {r : Int32 × QS} (h : qM_addPoint σ x1 x2 x3 x4 x5 x6 = some r) : qx_E (qx_gM l D ci a) 6 mX9_addPoint (some (.int r.1), r.2) 0 [(0, .ref (a 0)), (1, .int x1), (2, .int x2), (3, .int x3), (4, .int x4), (5, .int x5), (6, .int x6)] [] σ := by
  unfold qM_addPoint at h
  refine qx_iload_n (pc := 0) 1 dX9_addPoint_0 rfl ?_
  refine qx_i2l (pc := 1) dX9_addPoint_1 ?_
  refine qx_lconst (pc := 2) 0 dX9_addPoint_2 (by decide) ?_
  refine qx_ldc2 (pc := 3) 199 dX9_addPoint_3 qwc_X9_94 ?_
  obtain ⟨r5, hr5, h⟩ := qx_bindE h
  refine qx_callSi (pc := 6) r5 σ [.long (x1.toInt64), .long 0, .long 199] [] rfl qcm_X9_in qcs_X9_in qwm_X9_51 rfl (Nat.le_of_ble_eq_true rfl) (Nat.le_of_ble_eq_true rfl) (by decide) dX9_addPoint_6 (qM_in_ok hr5) ?_
  refine qx_if_eq (pc := 9) 45 h dX9_addPoint_9 (by decide) (fun h => ?_) (fun h => ?_)
  · refine qx_iconst (pc := 45) 0 dX9_addPoint_45 (by decide) ?_
    exact (qM_addPoint_J46_ok h)
  · refine qx_iload_n (pc := 12) 2 dX9_addPoint_12 rfl ?_
    refine qx_i2l (pc := 13) dX9_addPoint_13 ?_
    refine qx_lconst (pc := 14) 0 dX9_addPoint_14 (by decide) ?_
    refine qx_ldc2 (pc := 15) 199 dX9_addPoint_15 qwc_X9_94 ?_
    obtain ⟨r6, hr6, h⟩ := qx_bindE h
    refine qx_callSi (pc := 18) r6 σ [.long (x2.toInt64), .long 0, .long 199] [] rfl qcm_X9_in qcs_X9_in qwm_X9_51 rfl (Nat.le_of_ble_eq_true rfl) (Nat.le_of_ble_eq_true rfl) (by decide) dX9_addPoint_18 (qM_in_ok hr6) ?_
    refine qx_if_eq (pc := 21) 45 h dX9_addPoint_21 (by decide) (fun h => ?_) (fun h => ?_)
    · refine qx_iconst (pc := 45) 0 dX9_addPoint_45 (by decide) ?_
      exact (qM_addPoint_J46_ok h)
    · refine qx_iconst (pc := 24) 2 dX9_addPoint_24 (by decide) ?_
      refine qx_iload_n (pc := 25) 3 dX9_addPoint_25 rfl ?_
      obtain ⟨r7, hr7, h⟩ := qx_bindE h
      refine qx_callSi (pc := 26) r7 σ [.int 2, .int x3] [] rfl qcm_X9_isProperty qcs_X9_isProperty qwm_X9_96 rfl (Nat.le_of_ble_eq_true rfl) (Nat.le_of_ble_eq_true rfl) (by decide) dX9_addPoint_26 (qM_isProperty_ok hr7) ?_
      refine qx_if_eq (pc := 29) 45 h dX9_addPoint_29 (by decide) (fun h => ?_) (fun h => ?_)
      · refine qx_iconst (pc := 45) 0 dX9_addPoint_45 (by decide) ?_
        exact (qM_addPoint_J46_ok h)
      · refine qx_iconst (pc := 32) 3 dX9_addPoint_32 (by decide) ?_
        refine qx_iload (pc := 33) 4 dX9_addPoint_33 rfl ?_
        obtain ⟨r8, hr8, h⟩ := qx_bindE h
        refine qx_callSi (pc := 35) r8 σ [.int 3, .int x4] [] rfl qcm_X9_isProperty qcs_X9_isProperty qwm_X9_96 rfl (Nat.le_of_ble_eq_true rfl) (Nat.le_of_ble_eq_true rfl) (by decide) dX9_addPoint_35 (qM_isProperty_ok hr8) ?_
        refine qx_if_eq (pc := 38) 45 h dX9_addPoint_38 (by decide) (fun h => ?_) (fun h => ?_)
        · refine qx_iconst (pc := 45) 0 dX9_addPoint_45 (by decide) ?_
          exact (qM_addPoint_J46_ok h)
        · refine qx_iconst (pc := 41) 1 dX9_addPoint_41 (by decide) ?_
          refine qx_goto (pc := 42) 46 dX9_addPoint_42 (by decide) ?_
          exact (qM_addPoint_J46_ok h)
set_option maxHeartbeats 4000000 in
set_option maxRecDepth 100000 in
theorem qM_removePoint_L32_ok {x1 : Int32} {x2 : Int32} {k23 : QS → Int32 → Option (Int32 × QS)} (hk23 : ∀ (σ : QS) (x2 : Int32) (r : Int32 × QS), k23 σ x2 = some r → qx_E (qx_gM l D ci a) 6 mX9_removePoint (some (.int r.1), r.2) 23 [(0, .ref (a 0)), (1, .int x1), (2, .int x2)] [] σ) : ∀ (n : Nat) (σ : QS) (x3 : Int32) (r : Int32 × QS), qM_removePoint_L32 x1 x2 k23 n σ x3 = some r → qx_E (qx_gM l D ci a) 6 mX9_removePoint (some (.int r.1), r.2) 32 [(0, .ref (a 0)), (1, .int x1), (2, .int x2), (3, .int x3)] [] σ := by
  intro n
  induction n with
  | zero =>
    intro σ x3 r h
    exact (qx_none h).elim
  | succ n ih =>
    intro σ x3 r h
    unfold qM_removePoint_L32 at h
    refine qx_iload_n (pc := 32) 3 dX9_removePoint_32 rfl ?_
    refine qx_aload_n (pc := 33) 0 dX9_removePoint_33 rfl ?_
    refine qgM0_1 (pc := 34) qwf_X9_48 dX9_removePoint_34 ?_
    refine qx_icmp_ge (pc := 37) 64 h dX9_removePoint_37 (by decide) (fun h => ?_) (fun h => ?_)
    · refine qx_iinc (pc := 64) (lv' := [(2, .int (x2 + 20)), (0, .ref (a 0)), (1, .int x1), (3, .int x3)]) 2 (x2 + 20) dX9_removePoint_64 rfl rfl (Nat.le_of_ble_eq_true rfl) rfl ?_
      refine qx_goto (pc := 67) 23 dX9_removePoint_67 (by decide) ?_
      exact qx_sub [1, 2, 0] rfl (hk23 _ _ _ h)
    · refine qx_aload_n (pc := 40) 0 dX9_removePoint_40 rfl ?_
      refine qgM0_0 (pc := 41) qwf_X9_7 dX9_removePoint_41 ?_
      refine qx_iload_n (pc := 44) 2 dX9_removePoint_44 rfl ?_
      refine qx_iload_n (pc := 45) 3 dX9_removePoint_45 rfl ?_
      refine qx_iadd (pc := 46) dX9_removePoint_46 ?_
      refine qx_aload_n (pc := 47) 0 dX9_removePoint_47 rfl ?_
      refine qgM0_0 (pc := 48) qwf_X9_7 dX9_removePoint_48 ?_
      refine qx_iload_n (pc := 51) 2 dX9_removePoint_51 rfl ?_
      refine qx_iload_n (pc := 52) 3 dX9_removePoint_52 rfl ?_
      refine qx_iadd (pc := 53) dX9_removePoint_53 ?_
      refine qx_iconst (pc := 54) 1 dX9_removePoint_54 (by decide) ?_
      refine qx_iadd (pc := 55) dX9_removePoint_55 ?_
      refine qlM1 (pc := 56) h dX9_removePoint_56 (fun h => ?_)
      refine qsM1 (pc := 57) h dX9_removePoint_57 (fun h => ?_)
      refine qx_iinc (pc := 58) (lv' := [(3, .int (x3 + 1)), (0, .ref (a 0)), (1, .int x1), (2, .int x2)]) 3 (x3 + 1) dX9_removePoint_58 rfl rfl (Nat.le_of_ble_eq_true rfl) rfl ?_
      refine qx_goto (pc := 61) 32 dX9_removePoint_61 (by decide) ?_
      exact qx_sub [1, 2, 3, 0] rfl (ih _ _ _ h)
set_option maxHeartbeats 4000000 in
set_option maxRecDepth 100000 in
theorem qM_removePoint_L23_ok {x1 : Int32} : ∀ (n : Nat) (σ : QS) (x2 : Int32) (r : Int32 × QS), qM_removePoint_L23 x1 n σ x2 = some r → qx_E (qx_gM l D ci a) 6 mX9_removePoint (some (.int r.1), r.2) 23 [(0, .ref (a 0)), (1, .int x1), (2, .int x2)] [] σ := by
  intro n
  induction n with
  | zero =>
    intro σ x2 r h
    exact (qx_none h).elim
  | succ n ih =>
    intro σ x2 r h
    unfold qM_removePoint_L23 at h
    refine qx_iload_n (pc := 23) 2 dX9_removePoint_23 rfl ?_
    refine qx_sipush (pc := 24) 140 dX9_removePoint_24 (by decide) ?_
    refine qx_icmp_ge (pc := 27) 70 h dX9_removePoint_27 (by decide) (fun h => ?_) (fun h => ?_)
    · refine qx_aload_n (pc := 70) 0 dX9_removePoint_70 rfl ?_
      obtain ⟨r1, hr1, h⟩ := qx_bindE h
      refine qx_callVv (pc := 71) 0 r1 [] [] rfl rfl rfl qcm_X9_settles qcv_X9_settles qwm_X9_102 rfl (Nat.le_of_ble_eq_true rfl) (Nat.le_of_ble_eq_true rfl) (by decide) dX9_removePoint_71 (qM_settles_ok hr1) ?_
      refine qx_aload_n (pc := 74) 0 dX9_removePoint_74 rfl ?_
      refine qgM0_1 (pc := 75) qwf_X9_48 dX9_removePoint_75 ?_
      exact qx_iretS h rfl dX9_removePoint_78
    · refine qx_iload_n (pc := 30) 1 dX9_removePoint_30 rfl ?_
      refine qx_istore_n (pc := 31) (lv' := [(3, .int x1), (0, .ref (a 0)), (1, .int x1), (2, .int x2)]) dX9_removePoint_31 (Nat.le_of_ble_eq_true rfl) rfl ?_
      exact qx_sub [1, 2, 3, 0] rfl (qM_removePoint_L32_ok ih qx_F _ _ _ h)
set_option maxHeartbeats 4000000 in
set_option maxRecDepth 100000 in
theorem qM_removePoint_ok {σ : QS} {x1 : Int32} {r : Int32 × QS} (h : qM_removePoint σ x1 = some r) : qx_E (qx_gM l D ci a) 6 mX9_removePoint (some (.int r.1), r.2) 0 [(0, .ref (a 0)), (1, .int x1)] [] σ := by
  unfold qM_removePoint at h
  refine qx_aload_n (pc := 0) 0 dX9_removePoint_0 rfl ?_
  refine qx_iload_n (pc := 1) 1 dX9_removePoint_1 rfl ?_
  obtain ⟨r2, hr2, h⟩ := qx_bindE h
  refine qx_callVi (pc := 2) 0 r2 σ [.int x1] [] rfl rfl rfl qcm_X9_isPoint qcv_X9_isPoint qwm_X9_105 rfl (Nat.le_of_ble_eq_true rfl) (Nat.le_of_ble_eq_true rfl) (by decide) dX9_removePoint_2 (qM_isPoint_ok hr2) ?_
  refine qx_if_ne (pc := 5) 11 h dX9_removePoint_5 (by decide) (fun h => ?_) (fun h => ?_)
  · refine qx_aload_n (pc := 11) 0 dX9_removePoint_11 rfl ?_
    refine qx_dup (pc := 12) dX9_removePoint_12 rfl ?_
    refine qgM0_1 (pc := 13) qwf_X9_48 dX9_removePoint_13 ?_
    refine qx_iconst (pc := 16) 1 dX9_removePoint_16 (by decide) ?_
    refine qx_isub (pc := 17) dX9_removePoint_17 ?_
    refine qpM0_1 (pc := 18) qwf_X9_48 dX9_removePoint_18 ?_
    refine qx_iconst (pc := 21) 0 dX9_removePoint_21 (by decide) ?_
    refine qx_istore_n (pc := 22) (lv' := [(2, .int 0), (0, .ref (a 0)), (1, .int x1)]) dX9_removePoint_22 (Nat.le_of_ble_eq_true rfl) rfl ?_
    exact qx_sub [1, 2, 0] rfl (qM_removePoint_L23_ok qx_F _ _ _ h)
  · refine qx_bipush (pc := 8) (-2) dX9_removePoint_8 (by decide) ?_
    exact qx_iretS h rfl dX9_removePoint_10
set_option maxHeartbeats 4000000 in
set_option maxRecDepth 100000 in
theorem qM_setPoint_ok {σ : QS} {x1 : Int32} {x2 : Int32} {x3 : Int32} {r : Int32 × QS} (h : qM_setPoint σ x1 x2 x3 = some r) : qx_E (qx_gM l D ci a) 6 mX9_setPoint (some (.int r.1), r.2) 0 [(0, .ref (a 0)), (1, .int x1), (2, .int x2), (3, .int x3)] [] σ := by
  unfold qM_setPoint at h
  refine qx_aload_n (pc := 0) 0 dX9_setPoint_0 rfl ?_
  refine qx_iload_n (pc := 1) 1 dX9_setPoint_1 rfl ?_
  obtain ⟨r1, hr1, h⟩ := qx_bindE h
  refine qx_callVi (pc := 2) 0 r1 σ [.int x1] [] rfl rfl rfl qcm_X9_isPoint qcv_X9_isPoint qwm_X9_105 rfl (Nat.le_of_ble_eq_true rfl) (Nat.le_of_ble_eq_true rfl) (by decide) dX9_setPoint_2 (qM_isPoint_ok hr1) ?_
  refine qx_if_eq (pc := 5) 16 h dX9_setPoint_5 (by decide) (fun h => ?_) (fun h => ?_)
  · refine qx_bipush (pc := 16) (-2) dX9_setPoint_16 (by decide) ?_
    exact qx_iretS h rfl dX9_setPoint_18
  · refine qx_iload_n (pc := 8) 2 dX9_setPoint_8 rfl ?_
    refine qx_iload_n (pc := 9) 3 dX9_setPoint_9 rfl ?_
    obtain ⟨r2, hr2, h⟩ := qx_bindE h
    refine qx_callSi (pc := 10) r2 σ [.int x2, .int x3] [] rfl qcm_X9_isProperty qcs_X9_isProperty qwm_X9_96 rfl (Nat.le_of_ble_eq_true rfl) (Nat.le_of_ble_eq_true rfl) (by decide) dX9_setPoint_10 (qM_isProperty_ok hr2) ?_
    refine qx_if_ne (pc := 13) 19 h dX9_setPoint_13 (by decide) (fun h => ?_) (fun h => ?_)
    · refine qx_aload_n (pc := 19) 0 dX9_setPoint_19 rfl ?_
      refine qgM0_0 (pc := 20) qwf_X9_7 dX9_setPoint_20 ?_
      refine qx_bipush (pc := 23) 20 dX9_setPoint_23 (by decide) ?_
      refine qx_iload_n (pc := 25) 2 dX9_setPoint_25 rfl ?_
      refine qx_imul (pc := 26) dX9_setPoint_26 ?_
      refine qx_iload_n (pc := 27) 1 dX9_setPoint_27 rfl ?_
      refine qx_iadd (pc := 28) dX9_setPoint_28 ?_
      refine qlM1 (pc := 29) h dX9_setPoint_29 (fun h => ?_)
      refine qx_istore (pc := 30) (lv' := [(4, .int (σ.1 1 ((20 * x2) + x1).toNatClampNeg)), (0, .ref (a 0)), (1, .int x1), (2, .int x2), (3, .int x3)]) dX9_setPoint_30 (Nat.le_of_ble_eq_true rfl) rfl ?_
      refine qx_aload_n (pc := 32) 1 dX9_setPoint_32 rfl ?_
      refine qgM0_0 (pc := 33) qwf_X9_7 dX9_setPoint_33 ?_
      refine qx_bipush (pc := 36) 20 dX9_setPoint_36 (by decide) ?_
      refine qx_iload_n (pc := 38) 3 dX9_setPoint_38 rfl ?_
      refine qx_imul (pc := 39) dX9_setPoint_39 ?_
      refine qx_iload_n (pc := 40) 2 dX9_setPoint_40 rfl ?_
      refine qx_iadd (pc := 41) dX9_setPoint_41 ?_
      refine qx_iload_n (pc := 42) 4 dX9_setPoint_42 rfl ?_
      refine qsM1 (pc := 43) h dX9_setPoint_43 (fun h => ?_)
      refine qx_aload_n (pc := 44) 1 dX9_setPoint_44 rfl ?_
      obtain ⟨r3, hr3, h⟩ := qx_bindE h
      refine qx_callVv (pc := 45) 0 r3 [] [] rfl rfl rfl qcm_X9_settles qcv_X9_settles qwm_X9_102 rfl (Nat.le_of_ble_eq_true rfl) (Nat.le_of_ble_eq_true rfl) (by decide) dX9_setPoint_45 (qM_settles_ok hr3) ?_
      refine qx_aload_n (pc := 48) 1 dX9_setPoint_48 rfl ?_
      refine qgM0_0 (pc := 49) qwf_X9_7 dX9_setPoint_49 ?_
      refine qx_bipush (pc := 52) 120 dX9_setPoint_52 (by decide) ?_
      refine qx_iload_n (pc := 54) 2 dX9_setPoint_54 rfl ?_
      refine qx_iadd (pc := 55) dX9_setPoint_55 ?_
      refine qlM1 (pc := 56) h dX9_setPoint_56 (fun h => ?_)
      refine qx_iconst (pc := 57) (-1) dX9_setPoint_57 (by decide) ?_
      refine qx_icmp_eq (pc := 58) 89 h dX9_setPoint_58 (by decide) (fun h => ?_) (fun h => ?_)
      · refine qx_iload (pc := 89) 0 dX9_setPoint_89 rfl ?_
        exact qx_iretS h rfl dX9_setPoint_91
      · refine qx_aload_n (pc := 61) 1 dX9_setPoint_61 rfl ?_
        refine qx_iload_n (pc := 62) 2 dX9_setPoint_62 rfl ?_
        refine qx_aload_n (pc := 63) 1 dX9_setPoint_63 rfl ?_
        refine qgM0_0 (pc := 64) qwf_X9_7 dX9_setPoint_64 ?_
        refine qx_bipush (pc := 67) 120 dX9_setPoint_67 (by decide) ?_
        refine qx_iload_n (pc := 69) 2 dX9_setPoint_69 rfl ?_
        refine qx_iadd (pc := 70) dX9_setPoint_70 ?_
        refine qlM1 (pc := 71) h dX9_setPoint_71 (fun h => ?_)
        refine qx_iconst (pc := 72) (-1) dX9_setPoint_72 (by decide) ?_
        obtain ⟨r4, hr4, h⟩ := qx_bindE h
        refine qx_callVi (pc := 73) 0 r4 r3 [.int x1, .int (r3.1 1 (120 + x1).toNatClampNeg), .int (-1)] [] rfl rfl rfl qcm_X9_clashes qcv_X9_clashes qwm_X9_108 rfl (Nat.le_of_ble_eq_true rfl) (Nat.le_of_ble_eq_true rfl) (by decide) dX9_setPoint_73 (qM_clashes_ok hr4) ?_
        refine qx_if_le (pc := 76) 89 h dX9_setPoint_76 (by decide) (fun h => ?_) (fun h => ?_)
        · refine qx_iload (pc := 89) 0 dX9_setPoint_89 rfl ?_
          exact qx_iretS h rfl dX9_setPoint_91
        · refine qx_aload_n (pc := 79) 1 dX9_setPoint_79 rfl ?_
          refine qgM0_0 (pc := 80) qwf_X9_7 dX9_setPoint_80 ?_
          refine qx_bipush (pc := 83) 120 dX9_setPoint_83 (by decide) ?_
          refine qx_iload_n (pc := 85) 2 dX9_setPoint_85 rfl ?_
          refine qx_iadd (pc := 86) dX9_setPoint_86 ?_
          refine qx_iconst (pc := 87) (-1) dX9_setPoint_87 (by decide) ?_
          refine qsM1 (pc := 88) h dX9_setPoint_88 (fun h => ?_)
          refine qx_iload (pc := 89) 0 dX9_setPoint_89 rfl ?_
          exact qx_iretS h rfl dX9_setPoint_91
    · refine qx_bipush (pc := 16) (-2) dX9_setPoint_16 (by decide) ?_
      exact qx_iretS h rfl dX9_setPoint_18
set_option maxHeartbeats 4000000 in
set_option maxRecDepth 100000 in
theorem qM_placesOf_L4_ok {σ : QS} {x1 : Int32} : ∀ (n : Nat) (x2 : Int32) (x3 : Int32) (r : Int32), qM_placesOf_L4 σ x1 n x2 x3 = some r → qx_E (qx_gM l D ci a) 1 mX9_placesOf (some (.int r), σ) 4 [(0, .ref (a 0)), (1, .int x1), (2, .int x2), (3, .int x3)] [] σ := by
  intro n
  induction n with
  | zero =>
    intro x2 x3 r h
    exact (qx_none h).elim
  | succ n ih =>
    intro x2 x3 r h
    unfold qM_placesOf_L4 at h
    refine qx_iload_n (pc := 4) 3 dX9_placesOf_4 rfl ?_
    refine qx_bipush (pc := 5) 8 dX9_placesOf_5 (by decide) ?_
    refine qx_icmp_ge (pc := 7) 38 h dX9_placesOf_7 (by decide) (fun h => ?_) (fun h => ?_)
    · refine qx_iload_n (pc := 38) 2 dX9_placesOf_38 rfl ?_
      exact qx_iret h rfl dX9_placesOf_39
    · refine qx_iload_n (pc := 10) 2 dX9_placesOf_10 rfl ?_
      refine qx_aload_n (pc := 11) 0 dX9_placesOf_11 rfl ?_
      refine qgM0_6 (pc := 12) qwf_X9_20 dX9_placesOf_12 ?_
      refine qx_bipush (pc := 15) 8 dX9_placesOf_15 (by decide) ?_
      refine qx_iload_n (pc := 17) 1 dX9_placesOf_17 rfl ?_
      refine qx_imul (pc := 18) dX9_placesOf_18 ?_
      refine qx_iload_n (pc := 19) 3 dX9_placesOf_19 rfl ?_
      refine qx_iadd (pc := 20) dX9_placesOf_20 ?_
      refine qlM2 (pc := 21) h dX9_placesOf_21 (fun h => ?_)
      refine qx_if_eq (pc := 22) 29 h dX9_placesOf_22 (by decide) (fun h => ?_) (fun h => ?_)
      · refine qx_iconst (pc := 29) 0 dX9_placesOf_29 (by decide) ?_
        refine qx_iadd (pc := 30) dX9_placesOf_30 ?_
        refine qx_istore_n (pc := 31) (lv' := [(2, .int (x2 + 0)), (0, .ref (a 0)), (1, .int x1), (3, .int x3)]) dX9_placesOf_31 (Nat.le_of_ble_eq_true rfl) rfl ?_
        refine qx_iinc (pc := 32) (lv' := [(3, .int (x3 + 1)), (2, .int (x2 + 0)), (0, .ref (a 0)), (1, .int x1)]) 3 (x3 + 1) dX9_placesOf_32 rfl rfl (Nat.le_of_ble_eq_true rfl) rfl ?_
        refine qx_goto (pc := 35) 4 dX9_placesOf_35 (by decide) ?_
        exact qx_sub [2, 3, 1, 0] rfl (ih _ _ _ h)
      · refine qx_iconst (pc := 25) 1 dX9_placesOf_25 (by decide) ?_
        refine qx_goto (pc := 26) 30 dX9_placesOf_26 (by decide) ?_
        refine qx_iadd (pc := 30) dX9_placesOf_30 ?_
        refine qx_istore_n (pc := 31) (lv' := [(2, .int (x2 + 1)), (0, .ref (a 0)), (1, .int x1), (3, .int x3)]) dX9_placesOf_31 (Nat.le_of_ble_eq_true rfl) rfl ?_
        refine qx_iinc (pc := 32) (lv' := [(3, .int (x3 + 1)), (2, .int (x2 + 1)), (0, .ref (a 0)), (1, .int x1)]) 3 (x3 + 1) dX9_placesOf_32 rfl rfl (Nat.le_of_ble_eq_true rfl) rfl ?_
        refine qx_goto (pc := 35) 4 dX9_placesOf_35 (by decide) ?_
        exact qx_sub [2, 3, 1, 0] rfl (ih _ _ _ h)
set_option maxHeartbeats 4000000 in
set_option maxRecDepth 100000 in
theorem qM_placesOf_ok {σ : QS} {x1 : Int32} {r : Int32} (h : qM_placesOf σ x1 = some r) : qx_E (qx_gM l D ci a) 1 mX9_placesOf (some (.int r), σ) 0 [(0, .ref (a 0)), (1, .int x1)] [] σ := by
  unfold qM_placesOf at h
  refine qx_iconst (pc := 0) 0 dX9_placesOf_0 (by decide) ?_
  refine qx_istore_n (pc := 1) (lv' := [(2, .int 0), (0, .ref (a 0)), (1, .int x1)]) dX9_placesOf_1 (Nat.le_of_ble_eq_true rfl) rfl ?_
  refine qx_iconst (pc := 2) 0 dX9_placesOf_2 (by decide) ?_
  refine qx_istore_n (pc := 3) (lv' := [(3, .int 0), (2, .int 0), (0, .ref (a 0)), (1, .int x1)]) dX9_placesOf_3 (Nat.le_of_ble_eq_true rfl) rfl ?_
  exact qx_sub [2, 3, 1, 0] rfl (qM_placesOf_L4_ok qx_F _ _ _ h)
set_option maxHeartbeats 4000000 in
set_option maxRecDepth 100000 in
theorem qM_part_ok {σ : QS} {x1 : Int32} {x2 : Int32} {r : Int32} (h : qM_part σ x1 x2 = some r) : qx_E (qx_gM l D ci a) 3 mX9_part (some (.int r), σ) 0 [(0, .ref (a 0)), (1, .int x1), (2, .int x2)] [] σ := by
  unfold qM_part at h
  refine qx_iload_n (pc := 0) 2 dX9_part_0 rfl ?_
  rcases qx_ite h with ⟨hc6, h⟩ | ⟨hc6, h⟩
  · refine qx_tsIn (pc := 1) 28 6 hc6 dX9_part_1 (by decide) (by decide) rfl (by decide) ?_
    refine qx_aload_n (pc := 28) 0 dX9_part_28 rfl ?_
    refine qx_iload_n (pc := 29) 1 dX9_part_29 rfl ?_
    obtain ⟨r1, hr1, h⟩ := qx_bindE h
    refine qx_callVi (pc := 30) 0 r1 σ [.int x1] [] rfl rfl rfl qcm_X9_isVisible qcv_X9_isVisible qwm_X9_68 rfl (Nat.le_of_ble_eq_true rfl) (Nat.le_of_ble_eq_true rfl) (by decide) dX9_part_30 (qM_isVisible_ok hr1) ?_
    refine qx_if_eq (pc := 33) 40 h dX9_part_33 (by decide) (fun h => ?_) (fun h => ?_)
    · refine qx_iconst (pc := 40) 0 dX9_part_40 (by decide) ?_
      exact qx_iret h rfl dX9_part_41
    · refine qx_iconst (pc := 36) 1 dX9_part_36 (by decide) ?_
      refine qx_goto (pc := 37) 41 dX9_part_37 (by decide) ?_
      exact qx_iret h rfl dX9_part_41
  rcases qx_ite h with ⟨hc7, h⟩ | ⟨hc7, h⟩
  · refine qx_tsIn (pc := 1) 42 7 hc7 dX9_part_1 (by decide) (by decide) rfl (by decide) ?_
    refine qx_aload_n (pc := 42) 0 dX9_part_42 rfl ?_
    refine qgM0_0 (pc := 43) qwf_X9_7 dX9_part_43 ?_
    refine qx_bipush (pc := 46) 120 dX9_part_46 (by decide) ?_
    refine qx_iload_n (pc := 48) 1 dX9_part_48 rfl ?_
    refine qx_iadd (pc := 49) dX9_part_49 ?_
    refine qlM1 (pc := 50) h dX9_part_50 (fun h => ?_)
    exact qx_iret h rfl dX9_part_51
  rcases qx_ite h with ⟨hc8, h⟩ | ⟨hc8, h⟩
  · refine qx_tsIn (pc := 1) 52 8 hc8 dX9_part_1 (by decide) (by decide) rfl (by decide) ?_
    refine qx_aload_n (pc := 52) 0 dX9_part_52 rfl ?_
    refine qx_iload_n (pc := 53) 1 dX9_part_53 rfl ?_
    obtain ⟨r2, hr2, h⟩ := qx_bindE h
    refine qx_callVi (pc := 54) 0 r2 σ [.int x1] [] rfl rfl rfl qcm_X9_placesOf qcv_X9_placesOf qwm_X9_112 rfl (Nat.le_of_ble_eq_true rfl) (Nat.le_of_ble_eq_true rfl) (by decide) dX9_part_54 (qM_placesOf_ok hr2) ?_
    exact qx_iret h rfl dX9_part_57
  have ht6 := lv_neT (a := 6) hc6 rfl
  have ht7 := lv_neT (a := 7) hc7 rfl
  have ht8 := lv_neT (a := 8) hc8 rfl
  refine qx_tsOut (pc := 1) 58 dX9_part_1 (by omega) (by decide) ?_
  refine qx_aload_n (pc := 58) 0 dX9_part_58 rfl ?_
  refine qgM0_0 (pc := 59) qwf_X9_7 dX9_part_59 ?_
  refine qx_bipush (pc := 62) 20 dX9_part_62 (by decide) ?_
  refine qx_iload_n (pc := 64) 2 dX9_part_64 rfl ?_
  refine qx_imul (pc := 65) dX9_part_65 ?_
  refine qx_iload_n (pc := 66) 1 dX9_part_66 rfl ?_
  refine qx_iadd (pc := 67) dX9_part_67 ?_
  refine qlM1 (pc := 68) h dX9_part_68 (fun h => ?_)
  exact qx_iret h rfl dX9_part_69
set_option maxHeartbeats 4000000 in
set_option maxRecDepth 100000 in
theorem qM_point_ok {σ : QS} {x1 : Int32} {x2 : Int32} {r : Int32 × QS} (h : qM_point σ x1 x2 = some r) : qx_E (qx_gM l D ci a) 5 mX9_point (some (.int r.1), r.2) 0 [(0, .ref (a 0)), (1, .int x1), (2, .int x2)] [] σ := by
  unfold qM_point at h
  refine qx_aload_n (pc := 0) 0 dX9_point_0 rfl ?_
  refine qx_iload_n (pc := 1) 1 dX9_point_1 rfl ?_
  obtain ⟨r1, hr1, h⟩ := qx_bindE h
  refine qx_callVi (pc := 2) 0 r1 σ [.int x1] [] rfl rfl rfl qcm_X9_isPoint qcv_X9_isPoint qwm_X9_105 rfl (Nat.le_of_ble_eq_true rfl) (Nat.le_of_ble_eq_true rfl) (by decide) dX9_point_2 (qM_isPoint_ok hr1) ?_
  refine qx_if_eq (pc := 5) 20 h dX9_point_5 (by decide) (fun h => ?_) (fun h => ?_)
  · refine qx_bipush (pc := 20) (-2) dX9_point_20 (by decide) ?_
    exact qx_iretS h rfl dX9_point_22
  · refine qx_iload_n (pc := 8) 2 dX9_point_8 rfl ?_
    refine qx_i2l (pc := 9) dX9_point_9 ?_
    refine qx_lconst (pc := 10) 0 dX9_point_10 (by decide) ?_
    refine qx_ldc2 (pc := 11) 8 dX9_point_11 qwc_X9_116 ?_
    obtain ⟨r2, hr2, h⟩ := qx_bindE h
    refine qx_callSi (pc := 14) r2 σ [.long (x2.toInt64), .long 0, .long 8] [] rfl qcm_X9_in qcs_X9_in qwm_X9_51 rfl (Nat.le_of_ble_eq_true rfl) (Nat.le_of_ble_eq_true rfl) (by decide) dX9_point_14 (qM_in_ok hr2) ?_
    refine qx_if_ne (pc := 17) 23 h dX9_point_17 (by decide) (fun h => ?_) (fun h => ?_)
    · refine qx_aload_n (pc := 23) 0 dX9_point_23 rfl ?_
      obtain ⟨r3, hr3, h⟩ := qx_bindE h
      refine qx_callVv (pc := 24) 0 r3 [] [] rfl rfl rfl qcm_X9_findsAll qcv_X9_findsAll qwm_X9_83 rfl (Nat.le_of_ble_eq_true rfl) (Nat.le_of_ble_eq_true rfl) (by decide) dX9_point_24 (qM_findsAll_ok hr3) ?_
      refine qx_aload_n (pc := 27) 0 dX9_point_27 rfl ?_
      refine qx_iload_n (pc := 28) 1 dX9_point_28 rfl ?_
      refine qx_iload_n (pc := 29) 2 dX9_point_29 rfl ?_
      obtain ⟨r4, hr4, h⟩ := qx_bindE h
      refine qx_callVi (pc := 30) 0 r4 r3 [.int x1, .int x2] [] rfl rfl rfl qcm_X9_part qcv_X9_part qwm_X9_118 rfl (Nat.le_of_ble_eq_true rfl) (Nat.le_of_ble_eq_true rfl) (by decide) dX9_point_30 (qM_part_ok hr4) ?_
      exact qx_iretS h rfl dX9_point_33
    · refine qx_bipush (pc := 20) (-2) dX9_point_20 (by decide) ?_
      exact qx_iretS h rfl dX9_point_22
set_option maxHeartbeats 4000000 in
set_option maxRecDepth 100000 in
theorem qM_visible_L4_ok {σ : QS} : ∀ (n : Nat) (x1 : Int32) (x2 : Int32) (r : Int32), qM_visible_L4 σ n x1 x2 = some r → qx_E (qx_gM l D ci a) 3 mX9_visible (some (.int r), σ) 4 [(0, .ref (a 0)), (1, .int x1), (2, .int x2)] [] σ := by
  intro n
  induction n with
  | zero =>
    intro x1 x2 r h
    exact (qx_none h).elim
  | succ n ih =>
    intro x1 x2 r h
    unfold qM_visible_L4 at h
    refine qx_iload_n (pc := 4) 2 dX9_visible_4 rfl ?_
    refine qx_aload_n (pc := 5) 0 dX9_visible_5 rfl ?_
    refine qgM0_1 (pc := 6) qwf_X9_48 dX9_visible_6 ?_
    refine qx_icmp_ge (pc := 9) 34 h dX9_visible_9 (by decide) (fun h => ?_) (fun h => ?_)
    · refine qx_iload_n (pc := 34) 1 dX9_visible_34 rfl ?_
      exact qx_iret h rfl dX9_visible_35
    · refine qx_iload_n (pc := 12) 1 dX9_visible_12 rfl ?_
      refine qx_aload_n (pc := 13) 0 dX9_visible_13 rfl ?_
      refine qx_iload_n (pc := 14) 2 dX9_visible_14 rfl ?_
      obtain ⟨r1, hr1, h⟩ := qx_bindE h
      refine qx_callVi (pc := 15) 0 r1 σ [.int x2] [.int x1] rfl rfl rfl qcm_X9_isVisible qcv_X9_isVisible qwm_X9_68 rfl (Nat.le_of_ble_eq_true rfl) (Nat.le_of_ble_eq_true rfl) (by decide) dX9_visible_15 (qM_isVisible_ok hr1) ?_
      refine qx_if_eq (pc := 18) 25 h dX9_visible_18 (by decide) (fun h => ?_) (fun h => ?_)
      · refine qx_iconst (pc := 25) 0 dX9_visible_25 (by decide) ?_
        refine qx_iadd (pc := 26) dX9_visible_26 ?_
        refine qx_istore_n (pc := 27) (lv' := [(1, .int (x1 + 0)), (0, .ref (a 0)), (2, .int x2)]) dX9_visible_27 (Nat.le_of_ble_eq_true rfl) rfl ?_
        refine qx_iinc (pc := 28) (lv' := [(2, .int (x2 + 1)), (1, .int (x1 + 0)), (0, .ref (a 0))]) 2 (x2 + 1) dX9_visible_28 rfl rfl (Nat.le_of_ble_eq_true rfl) rfl ?_
        refine qx_goto (pc := 31) 4 dX9_visible_31 (by decide) ?_
        exact qx_sub [2, 1, 0] rfl (ih _ _ _ h)
      · refine qx_iconst (pc := 21) 1 dX9_visible_21 (by decide) ?_
        refine qx_goto (pc := 22) 26 dX9_visible_22 (by decide) ?_
        refine qx_iadd (pc := 26) dX9_visible_26 ?_
        refine qx_istore_n (pc := 27) (lv' := [(1, .int (x1 + 1)), (0, .ref (a 0)), (2, .int x2)]) dX9_visible_27 (Nat.le_of_ble_eq_true rfl) rfl ?_
        refine qx_iinc (pc := 28) (lv' := [(2, .int (x2 + 1)), (1, .int (x1 + 1)), (0, .ref (a 0))]) 2 (x2 + 1) dX9_visible_28 rfl rfl (Nat.le_of_ble_eq_true rfl) rfl ?_
        refine qx_goto (pc := 31) 4 dX9_visible_31 (by decide) ?_
        exact qx_sub [2, 1, 0] rfl (ih _ _ _ h)
set_option maxHeartbeats 4000000 in
set_option maxRecDepth 100000 in
theorem qM_visible_ok {σ : QS} {r : Int32} (h : qM_visible σ = some r) : qx_E (qx_gM l D ci a) 3 mX9_visible (some (.int r), σ) 0 [(0, .ref (a 0))] [] σ := by
  unfold qM_visible at h
  refine qx_iconst (pc := 0) 0 dX9_visible_0 (by decide) ?_
  refine qx_istore_n (pc := 1) (lv' := [(1, .int 0), (0, .ref (a 0))]) dX9_visible_1 (Nat.le_of_ble_eq_true rfl) rfl ?_
  refine qx_iconst (pc := 2) 0 dX9_visible_2 (by decide) ?_
  refine qx_istore_n (pc := 3) (lv' := [(2, .int 0), (1, .int 0), (0, .ref (a 0))]) dX9_visible_3 (Nat.le_of_ble_eq_true rfl) rfl ?_
  exact qx_sub [2, 1, 0] rfl (qM_visible_L4_ok qx_F _ _ _ h)
set_option maxHeartbeats 4000000 in
set_option maxRecDepth 100000 in
theorem qM_setWindow_J34_ok {σ : QS} {x1 : Int32} {x2 : Int32} {x3 : Int32} {x4 : Int32} {s0 : Int32} {r : Int32 × QS} (h : qM_setWindow_J34 σ x1 x2 x3 x4 s0 = some r) : qx_E (qx_gM l D ci a) 6 mX9_setWindow (some (.int r.1), r.2) 34 [(0, .ref (a 0)), (1, .int x1), (2, .int x2), (3, .int x3), (4, .int x4)] [.int s0] σ := by
  unfold qM_setWindow_J34 at h
  refine qx_istore (pc := 34) (lv' := [(5, .int s0), (0, .ref (a 0)), (1, .int x1), (2, .int x2), (3, .int x3), (4, .int x4)]) dX9_setWindow_34 (Nat.le_of_ble_eq_true rfl) rfl ?_
  refine qx_iload (pc := 36) 0 dX9_setWindow_36 rfl ?_
  refine qx_if_eq (pc := 38) 72 h dX9_setWindow_38 (by decide) (fun h => ?_) (fun h => ?_)
  · refine qx_bipush (pc := 72) (-2) dX9_setWindow_72 (by decide) ?_
    exact qx_iretS h rfl dX9_setWindow_74
  · refine qx_iload_n (pc := 41) 2 dX9_setWindow_41 rfl ?_
    refine qx_i2l (pc := 42) dX9_setWindow_42 ?_
    refine qx_lconst (pc := 43) 0 dX9_setWindow_43 (by decide) ?_
    refine qx_sipush (pc := 44) 200 dX9_setWindow_44 (by decide) ?_
    refine qx_iload_n (pc := 47) 4 dX9_setWindow_47 rfl ?_
    refine qx_isub (pc := 48) dX9_setWindow_48 ?_
    refine qx_i2l (pc := 49) dX9_setWindow_49 ?_
    obtain ⟨r1, hr1, h⟩ := qx_bindE h
    refine qx_callSi (pc := 50) r1 σ [.long (x1.toInt64), .long 0, .long ((200 - x3).toInt64)] [] rfl qcm_X9_in qcs_X9_in qwm_X9_51 rfl (Nat.le_of_ble_eq_true rfl) (Nat.le_of_ble_eq_true rfl) (by decide) dX9_setWindow_50 (qM_in_ok hr1) ?_
    refine qx_if_eq (pc := 53) 72 h dX9_setWindow_53 (by decide) (fun h => ?_) (fun h => ?_)
    · refine qx_bipush (pc := 72) (-2) dX9_setWindow_72 (by decide) ?_
      exact qx_iretS h rfl dX9_setWindow_74
    · refine qx_iload_n (pc := 56) 3 dX9_setWindow_56 rfl ?_
      refine qx_i2l (pc := 57) dX9_setWindow_57 ?_
      refine qx_lconst (pc := 58) 0 dX9_setWindow_58 (by decide) ?_
      refine qx_sipush (pc := 59) 200 dX9_setWindow_59 (by decide) ?_
      refine qx_iload (pc := 62) 5 dX9_setWindow_62 rfl ?_
      refine qx_isub (pc := 64) dX9_setWindow_64 ?_
      refine qx_i2l (pc := 65) dX9_setWindow_65 ?_
      obtain ⟨r2, hr2, h⟩ := qx_bindE h
      refine qx_callSi (pc := 66) r2 σ [.long (x2.toInt64), .long 0, .long ((200 - x4).toInt64)] [] rfl qcm_X9_in qcs_X9_in qwm_X9_51 rfl (Nat.le_of_ble_eq_true rfl) (Nat.le_of_ble_eq_true rfl) (by decide) dX9_setWindow_66 (qM_in_ok hr2) ?_
      refine qx_if_ne (pc := 69) 75 h dX9_setWindow_69 (by decide) (fun h => ?_) (fun h => ?_)
      · refine qx_aload_n (pc := 75) 1 dX9_setWindow_75 rfl ?_
        refine qx_iload_n (pc := 76) 2 dX9_setWindow_76 rfl ?_
        refine qpM0_2 (pc := 77) qwf_X9_55 dX9_setWindow_77 ?_
        refine qx_aload_n (pc := 80) 1 dX9_setWindow_80 rfl ?_
        refine qx_iload_n (pc := 81) 3 dX9_setWindow_81 rfl ?_
        refine qpM0_3 (pc := 82) qwf_X9_58 dX9_setWindow_82 ?_
        refine qx_aload_n (pc := 85) 1 dX9_setWindow_85 rfl ?_
        refine qx_iload_n (pc := 86) 4 dX9_setWindow_86 rfl ?_
        refine qpM0_4 (pc := 87) qwf_X9_13 dX9_setWindow_87 ?_
        refine qx_aload_n (pc := 90) 1 dX9_setWindow_90 rfl ?_
        refine qx_iload (pc := 91) 5 dX9_setWindow_91 rfl ?_
        refine qpM0_5 (pc := 93) qwf_X9_17 dX9_setWindow_93 ?_
        refine qx_aload_n (pc := 96) 1 dX9_setWindow_96 rfl ?_
        obtain ⟨r3, hr3, h⟩ := qx_bindE h
        refine qx_callVv (pc := 97) 0 r3 [] [] rfl rfl rfl qcm_X9_settles qcv_X9_settles qwm_X9_102 rfl (Nat.le_of_ble_eq_true rfl) (Nat.le_of_ble_eq_true rfl) (by decide) dX9_setWindow_97 (qM_settles_ok hr3) ?_
        refine qx_aload_n (pc := 100) 1 dX9_setWindow_100 rfl ?_
        obtain ⟨r4, hr4, h⟩ := qx_bindE h
        refine qx_callVi (pc := 101) 0 r4 r3 [] [] rfl rfl rfl qcm_X9_visible qcv_X9_visible qwm_X9_125 rfl (Nat.le_of_ble_eq_true rfl) (Nat.le_of_ble_eq_true rfl) (by decide) dX9_setWindow_101 (qM_visible_ok hr4) ?_
        exact qx_iretS h rfl dX9_setWindow_104
      · refine qx_bipush (pc := 72) (-2) dX9_setWindow_72 (by decide) ?_
        exact qx_iretS h rfl dX9_setWindow_74
set_option maxHeartbeats 4000000 in
set_option maxRecDepth 100000 in
theorem qM_setWindow_ok {σ : QS} {x1 : Int32} {x2 : Int32} {x3 : Int32} {x4 : Int32} {r : Int32 × QS} (h : qM_setWindow σ x1 x2 x3 x4 = some r) : qx_E (qx_gM l D ci a) 6 mX9_setWindow (some (.int r.1), r.2) 0 [(0, .ref (a 0)), (1, .int x1), (2, .int x2), (3, .int x3), (4, .int x4)] [] σ := by
  unfold qM_setWindow at h
  refine qx_iload_n (pc := 0) 3 dX9_setWindow_0 rfl ?_
  refine qx_i2l (pc := 1) dX9_setWindow_1 ?_
  refine qx_ldc2 (pc := 2) 10 dX9_setWindow_2 qwc_X9_121 ?_
  refine qx_ldc2 (pc := 5) 100 dX9_setWindow_5 qwc_X9_123 ?_
  obtain ⟨r5, hr5, h⟩ := qx_bindE h
  refine qx_callSi (pc := 8) r5 σ [.long (x3.toInt64), .long 10, .long 100] [] rfl qcm_X9_in qcs_X9_in qwm_X9_51 rfl (Nat.le_of_ble_eq_true rfl) (Nat.le_of_ble_eq_true rfl) (by decide) dX9_setWindow_8 (qM_in_ok hr5) ?_
  refine qx_if_eq (pc := 11) 33 h dX9_setWindow_11 (by decide) (fun h => ?_) (fun h => ?_)
  · refine qx_iconst (pc := 33) 0 dX9_setWindow_33 (by decide) ?_
    exact (qM_setWindow_J34_ok h)
  · refine qx_iload (pc := 14) 4 dX9_setWindow_14 rfl ?_
    refine qx_i2l (pc := 16) dX9_setWindow_16 ?_
    refine qx_ldc2 (pc := 17) 10 dX9_setWindow_17 qwc_X9_121 ?_
    refine qx_ldc2 (pc := 20) 100 dX9_setWindow_20 qwc_X9_123 ?_
    obtain ⟨r6, hr6, h⟩ := qx_bindE h
    refine qx_callSi (pc := 23) r6 σ [.long (x4.toInt64), .long 10, .long 100] [] rfl qcm_X9_in qcs_X9_in qwm_X9_51 rfl (Nat.le_of_ble_eq_true rfl) (Nat.le_of_ble_eq_true rfl) (by decide) dX9_setWindow_23 (qM_in_ok hr6) ?_
    refine qx_if_eq (pc := 26) 33 h dX9_setWindow_26 (by decide) (fun h => ?_) (fun h => ?_)
    · refine qx_iconst (pc := 33) 0 dX9_setWindow_33 (by decide) ?_
      exact (qM_setWindow_J34_ok h)
    · refine qx_iconst (pc := 29) 1 dX9_setWindow_29 (by decide) ?_
      refine qx_goto (pc := 30) 34 dX9_setWindow_30 (by decide) ?_
      exact (qM_setWindow_J34_ok h)
set_option maxHeartbeats 4000000 in
set_option maxRecDepth 100000 in
theorem qM_wants_ok {σ : QS} {x1 : Int32} {r : Int32} (h : qM_wants σ x1 = some r) : qx_E (qx_gM l D ci a) 3 mX9_wants (some (.int r), σ) 0 [(0, .ref (a 0)), (1, .int x1)] [] σ := by
  unfold qM_wants at h
  refine qx_aload_n (pc := 0) 0 dX9_wants_0 rfl ?_
  refine qgM0_0 (pc := 1) qwf_X9_7 dX9_wants_1 ?_
  refine qx_bipush (pc := 4) 120 dX9_wants_4 (by decide) ?_
  refine qx_iload_n (pc := 6) 1 dX9_wants_6 rfl ?_
  refine qx_iadd (pc := 7) dX9_wants_7 ?_
  refine qlM1 (pc := 8) h dX9_wants_8 (fun h => ?_)
  refine qx_iconst (pc := 9) (-1) dX9_wants_9 (by decide) ?_
  refine qx_icmp_ne (pc := 10) 25 h dX9_wants_10 (by decide) (fun h => ?_) (fun h => ?_)
  · refine qx_iconst (pc := 25) 0 dX9_wants_25 (by decide) ?_
    exact qx_nret h rfl rfl dX9_wants_26
  · refine qx_aload_n (pc := 13) 0 dX9_wants_13 rfl ?_
    refine qx_iload_n (pc := 14) 1 dX9_wants_14 rfl ?_
    obtain ⟨r1, hr1, h⟩ := qx_bindE h
    refine qx_callVi (pc := 15) 0 r1 σ [.int x1] [] rfl rfl rfl qcm_X9_isVisible qcv_X9_isVisible qwm_X9_68 rfl (Nat.le_of_ble_eq_true rfl) (Nat.le_of_ble_eq_true rfl) (by decide) dX9_wants_15 (qM_isVisible_ok hr1) ?_
    refine qx_if_eq (pc := 18) 25 h dX9_wants_18 (by decide) (fun h => ?_) (fun h => ?_)
    · refine qx_iconst (pc := 25) 0 dX9_wants_25 (by decide) ?_
      exact qx_nret h rfl rfl dX9_wants_26
    · refine qx_iconst (pc := 21) 1 dX9_wants_21 (by decide) ?_
      refine qx_goto (pc := 22) 26 dX9_wants_22 (by decide) ?_
      exact qx_nret h rfl rfl dX9_wants_26
set_option maxHeartbeats 4000000 in
set_option maxRecDepth 100000 in
theorem qM_fill_L30_ok {x2 : Int32} {x3 : Int32} {k12 : QS → Int32 → Int32 → Option (Int32 × QS)} (hk12 : ∀ (σ : QS) (x1 : Int32) (x2 : Int32) (r : Int32 × QS), k12 σ x1 x2 = some r → qx_E (qx_gM l D ci a) 5 mX9_fill (some (.int r.1), r.2) 12 [(0, .ref (a 0)), (1, .int x1), (2, .int x2)] [] σ) : ∀ (n : Nat) (σ : QS) (x1 : Int32) (x4 : Int32) (r : Int32 × QS), qM_fill_L30 x2 x3 k12 n σ x1 x4 = some r → qx_E (qx_gM l D ci a) 5 mX9_fill (some (.int r.1), r.2) 30 [(0, .ref (a 0)), (1, .int x1), (2, .int x2), (3, .int x3), (4, .int x4)] [] σ := by
  intro n
  induction n with
  | zero =>
    intro σ x1 x4 r h
    exact (qx_none h).elim
  | succ n ih =>
    intro σ x1 x4 r h
    unfold qM_fill_L30 at h
    refine qx_iload (pc := 30) 4 dX9_fill_30 rfl ?_
    refine qx_bipush (pc := 32) 8 dX9_fill_32 (by decide) ?_
    refine qx_icmp_ge (pc := 34) 91 h dX9_fill_34 (by decide) (fun h => ?_) (fun h => ?_)
    · refine qx_iinc (pc := 91) (lv' := [(2, .int (x2 + 1)), (0, .ref (a 0)), (1, .int x1), (3, .int x3), (4, .int x4)]) 2 (x2 + 1) dX9_fill_91 rfl rfl (Nat.le_of_ble_eq_true rfl) rfl ?_
      refine qx_goto (pc := 94) 12 dX9_fill_94 (by decide) ?_
      exact qx_sub [1, 2, 0] rfl (hk12 _ _ _ _ h)
    · refine qx_aload_n (pc := 37) 0 dX9_fill_37 rfl ?_
      refine qx_iload_n (pc := 38) 3 dX9_fill_38 rfl ?_
      obtain ⟨r1, hr1, h⟩ := qx_bindE h
      refine qx_callVi (pc := 39) 0 r1 σ [.int x3] [] rfl rfl rfl qcm_X9_wants qcv_X9_wants qwm_X9_151 rfl (Nat.le_of_ble_eq_true rfl) (Nat.le_of_ble_eq_true rfl) (by decide) dX9_fill_39 (qM_wants_ok hr1) ?_
      refine qx_if_eq (pc := 42) 91 h dX9_fill_42 (by decide) (fun h => ?_) (fun h => ?_)
      · refine qx_iinc (pc := 91) (lv' := [(2, .int (x2 + 1)), (0, .ref (a 0)), (1, .int x1), (3, .int x3), (4, .int x4)]) 2 (x2 + 1) dX9_fill_91 rfl rfl (Nat.le_of_ble_eq_true rfl) rfl ?_
        refine qx_goto (pc := 94) 12 dX9_fill_94 (by decide) ?_
        exact qx_sub [1, 2, 0] rfl (hk12 _ _ _ _ h)
      · refine qx_aload_n (pc := 45) 0 dX9_fill_45 rfl ?_
        refine qgM0_6 (pc := 46) qwf_X9_20 dX9_fill_46 ?_
        refine qx_bipush (pc := 49) 8 dX9_fill_49 (by decide) ?_
        refine qx_iload_n (pc := 51) 3 dX9_fill_51 rfl ?_
        refine qx_imul (pc := 52) dX9_fill_52 ?_
        refine qx_iload (pc := 53) 4 dX9_fill_53 rfl ?_
        refine qx_iadd (pc := 55) dX9_fill_55 ?_
        refine qlM2 (pc := 56) h dX9_fill_56 (fun h => ?_)
        refine qx_if_eq (pc := 57) 85 h dX9_fill_57 (by decide) (fun h => ?_) (fun h => ?_)
        · refine qx_iinc (pc := 85) (lv' := [(4, .int (x4 + 1)), (0, .ref (a 0)), (1, .int x1), (2, .int x2), (3, .int x3)]) 4 (x4 + 1) dX9_fill_85 rfl rfl (Nat.le_of_ble_eq_true rfl) rfl ?_
          refine qx_goto (pc := 88) 30 dX9_fill_88 (by decide) ?_
          exact qx_sub [1, 2, 3, 4, 0] rfl (ih _ _ _ _ h)
        · refine qx_aload_n (pc := 60) 0 dX9_fill_60 rfl ?_
          refine qx_iload_n (pc := 61) 3 dX9_fill_61 rfl ?_
          refine qx_iload (pc := 62) 4 dX9_fill_62 rfl ?_
          refine qx_iconst (pc := 64) (-1) dX9_fill_64 (by decide) ?_
          obtain ⟨r2, hr2, h⟩ := qx_bindE h
          refine qx_callVi (pc := 65) 0 r2 σ [.int x3, .int x4, .int (-1)] [] rfl rfl rfl qcm_X9_clashes qcv_X9_clashes qwm_X9_108 rfl (Nat.le_of_ble_eq_true rfl) (Nat.le_of_ble_eq_true rfl) (by decide) dX9_fill_65 (qM_clashes_ok hr2) ?_
          refine qx_if_ne (pc := 68) 85 h dX9_fill_68 (by decide) (fun h => ?_) (fun h => ?_)
          · refine qx_iinc (pc := 85) (lv' := [(4, .int (x4 + 1)), (0, .ref (a 0)), (1, .int x1), (2, .int x2), (3, .int x3)]) 4 (x4 + 1) dX9_fill_85 rfl rfl (Nat.le_of_ble_eq_true rfl) rfl ?_
            refine qx_goto (pc := 88) 30 dX9_fill_88 (by decide) ?_
            exact qx_sub [1, 2, 3, 4, 0] rfl (ih _ _ _ _ h)
          · refine qx_aload_n (pc := 71) 0 dX9_fill_71 rfl ?_
            refine qgM0_0 (pc := 72) qwf_X9_7 dX9_fill_72 ?_
            refine qx_bipush (pc := 75) 120 dX9_fill_75 (by decide) ?_
            refine qx_iload_n (pc := 77) 3 dX9_fill_77 rfl ?_
            refine qx_iadd (pc := 78) dX9_fill_78 ?_
            refine qx_iload (pc := 79) 4 dX9_fill_79 rfl ?_
            refine qsM1 (pc := 81) h dX9_fill_81 (fun h => ?_)
            refine qx_iinc (pc := 82) (lv' := [(1, .int (x1 + 1)), (0, .ref (a 0)), (2, .int x2), (3, .int x3), (4, .int x4)]) 1 (x1 + 1) dX9_fill_82 rfl rfl (Nat.le_of_ble_eq_true rfl) rfl ?_
            refine qx_iinc (pc := 85) (lv' := [(4, .int (x4 + 1)), (1, .int (x1 + 1)), (0, .ref (a 0)), (2, .int x2), (3, .int x3)]) 4 (x4 + 1) dX9_fill_85 rfl rfl (Nat.le_of_ble_eq_true rfl) rfl ?_
            refine qx_goto (pc := 88) 30 dX9_fill_88 (by decide) ?_
            exact qx_sub [2, 1, 3, 4, 0] rfl (ih _ _ _ _ h)
set_option maxHeartbeats 4000000 in
set_option maxRecDepth 100000 in
theorem qM_fill_L12_ok : ∀ (n : Nat) (σ : QS) (x1 : Int32) (x2 : Int32) (r : Int32 × QS), qM_fill_L12 n σ x1 x2 = some r → qx_E (qx_gM l D ci a) 5 mX9_fill (some (.int r.1), r.2) 12 [(0, .ref (a 0)), (1, .int x1), (2, .int x2)] [] σ := by
  intro n
  induction n with
  | zero =>
    intro σ x1 x2 r h
    exact (qx_none h).elim
  | succ n ih =>
    intro σ x1 x2 r h
    unfold qM_fill_L12 at h
    refine qx_iload_n (pc := 12) 2 dX9_fill_12 rfl ?_
    refine qx_aload_n (pc := 13) 0 dX9_fill_13 rfl ?_
    refine qgM0_1 (pc := 14) qwf_X9_48 dX9_fill_14 ?_
    refine qx_icmp_ge (pc := 17) 97 h dX9_fill_17 (by decide) (fun h => ?_) (fun h => ?_)
    · refine qx_iload_n (pc := 97) 1 dX9_fill_97 rfl ?_
      exact qx_iretS h rfl dX9_fill_98
    · refine qx_aload_n (pc := 20) 0 dX9_fill_20 rfl ?_
      refine qgM0_7 (pc := 21) qwf_X9_24 dX9_fill_21 ?_
      refine qx_iload_n (pc := 24) 2 dX9_fill_24 rfl ?_
      refine qlM3 (pc := 25) h dX9_fill_25 (fun h => ?_)
      refine qx_istore_n (pc := 26) (lv' := [(3, .int (σ.1 3 x2.toNatClampNeg)), (0, .ref (a 0)), (1, .int x1), (2, .int x2)]) dX9_fill_26 (Nat.le_of_ble_eq_true rfl) rfl ?_
      refine qx_iconst (pc := 27) 0 dX9_fill_27 (by decide) ?_
      refine qx_istore (pc := 28) (lv' := [(4, .int 0), (3, .int (σ.1 3 x2.toNatClampNeg)), (0, .ref (a 0)), (1, .int x1), (2, .int x2)]) dX9_fill_28 (Nat.le_of_ble_eq_true rfl) rfl ?_
      exact qx_sub [2, 3, 4, 1, 0] rfl (qM_fill_L30_ok ih qx_F _ _ _ _ h)
set_option maxHeartbeats 4000000 in
set_option maxRecDepth 100000 in
theorem qM_fill_ok {σ : QS} {r : Int32 × QS} (h : qM_fill σ = some r) : qx_E (qx_gM l D ci a) 5 mX9_fill (some (.int r.1), r.2) 0 [(0, .ref (a 0))] [] σ := by
  unfold qM_fill at h
  refine qx_aload_n (pc := 0) 0 dX9_fill_0 rfl ?_
  obtain ⟨r3, hr3, h⟩ := qx_bindE h
  refine qx_callVv (pc := 1) 0 r3 [] [] rfl rfl rfl qcm_X9_findsAll qcv_X9_findsAll qwm_X9_83 rfl (Nat.le_of_ble_eq_true rfl) (Nat.le_of_ble_eq_true rfl) (by decide) dX9_fill_1 (qM_findsAll_ok hr3) ?_
  refine qx_aload_n (pc := 4) 0 dX9_fill_4 rfl ?_
  obtain ⟨r4, hr4, h⟩ := qx_bindE h
  refine qx_callVv (pc := 5) 0 r4 [] [] rfl rfl rfl qcm_X9_orders qcv_X9_orders qwm_X9_148 rfl (Nat.le_of_ble_eq_true rfl) (Nat.le_of_ble_eq_true rfl) (by decide) dX9_fill_5 (qM_orders_ok hr4) ?_
  refine qx_iconst (pc := 8) 0 dX9_fill_8 (by decide) ?_
  refine qx_istore_n (pc := 9) (lv' := [(1, .int 0), (0, .ref (a 0))]) dX9_fill_9 (Nat.le_of_ble_eq_true rfl) rfl ?_
  refine qx_iconst (pc := 10) 0 dX9_fill_10 (by decide) ?_
  refine qx_istore_n (pc := 11) (lv' := [(2, .int 0), (1, .int 0), (0, .ref (a 0))]) dX9_fill_11 (Nat.le_of_ble_eq_true rfl) rfl ?_
  exact qx_sub [2, 1, 0] rfl (qM_fill_L12_ok qx_F _ _ _ _ h)
set_option maxHeartbeats 4000000 in
set_option maxRecDepth 100000 in
theorem qM_pan_ok {σ : QS} {x1 : Int32} {x2 : Int32} {r : Int32 × QS} (h : qM_pan σ x1 x2 = some r) : qx_E (qx_gM l D ci a) 6 mX9_pan (some (.int r.1), r.2) 0 [(0, .ref (a 0)), (1, .int x1), (2, .int x2)] [] σ := by
  unfold qM_pan at h
  refine qx_aload_n (pc := 0) 0 dX9_pan_0 rfl ?_
  refine qgM0_2 (pc := 1) qwf_X9_55 dX9_pan_1 ?_
  refine qx_i2l (pc := 4) dX9_pan_4 ?_
  refine qx_iload_n (pc := 5) 1 dX9_pan_5 rfl ?_
  refine qx_i2l (pc := 6) dX9_pan_6 ?_
  refine qx_ladd (pc := 7) dX9_pan_7 ?_
  refine qx_lconst (pc := 8) 0 dX9_pan_8 (by decide) ?_
  refine qx_sipush (pc := 9) 200 dX9_pan_9 (by decide) ?_
  refine qx_aload_n (pc := 12) 0 dX9_pan_12 rfl ?_
  refine qgM0_4 (pc := 13) qwf_X9_13 dX9_pan_13 ?_
  refine qx_isub (pc := 16) dX9_pan_16 ?_
  refine qx_i2l (pc := 17) dX9_pan_17 ?_
  obtain ⟨r1, hr1, h⟩ := qx_bindE h
  refine qx_callSi (pc := 18) r1 σ [.long (((σ.1 0 2).toInt64) + (x1.toInt64)), .long 0, .long ((200 - (σ.1 0 4)).toInt64)] [] rfl qcm_X9_in qcs_X9_in qwm_X9_51 rfl (Nat.le_of_ble_eq_true rfl) (Nat.le_of_ble_eq_true rfl) (by decide) dX9_pan_18 (qM_in_ok hr1) ?_
  refine qx_if_eq (pc := 21) 48 h dX9_pan_21 (by decide) (fun h => ?_) (fun h => ?_)
  · refine qx_bipush (pc := 48) (-2) dX9_pan_48 (by decide) ?_
    exact qx_iretS h rfl dX9_pan_50
  · refine qx_aload_n (pc := 24) 0 dX9_pan_24 rfl ?_
    refine qgM0_3 (pc := 25) qwf_X9_58 dX9_pan_25 ?_
    refine qx_i2l (pc := 28) dX9_pan_28 ?_
    refine qx_iload_n (pc := 29) 2 dX9_pan_29 rfl ?_
    refine qx_i2l (pc := 30) dX9_pan_30 ?_
    refine qx_ladd (pc := 31) dX9_pan_31 ?_
    refine qx_lconst (pc := 32) 0 dX9_pan_32 (by decide) ?_
    refine qx_sipush (pc := 33) 200 dX9_pan_33 (by decide) ?_
    refine qx_aload_n (pc := 36) 0 dX9_pan_36 rfl ?_
    refine qgM0_5 (pc := 37) qwf_X9_17 dX9_pan_37 ?_
    refine qx_isub (pc := 40) dX9_pan_40 ?_
    refine qx_i2l (pc := 41) dX9_pan_41 ?_
    obtain ⟨r2, hr2, h⟩ := qx_bindE h
    refine qx_callSi (pc := 42) r2 σ [.long (((σ.1 0 3).toInt64) + (x2.toInt64)), .long 0, .long ((200 - (σ.1 0 5)).toInt64)] [] rfl qcm_X9_in qcs_X9_in qwm_X9_51 rfl (Nat.le_of_ble_eq_true rfl) (Nat.le_of_ble_eq_true rfl) (by decide) dX9_pan_42 (qM_in_ok hr2) ?_
    refine qx_if_ne (pc := 45) 51 h dX9_pan_45 (by decide) (fun h => ?_) (fun h => ?_)
    · refine qx_aload_n (pc := 51) 0 dX9_pan_51 rfl ?_
      refine qx_dup (pc := 52) dX9_pan_52 rfl ?_
      refine qgM0_2 (pc := 53) qwf_X9_55 dX9_pan_53 ?_
      refine qx_iload_n (pc := 56) 1 dX9_pan_56 rfl ?_
      refine qx_iadd (pc := 57) dX9_pan_57 ?_
      refine qpM0_2 (pc := 58) qwf_X9_55 dX9_pan_58 ?_
      refine qx_aload_n (pc := 61) 0 dX9_pan_61 rfl ?_
      refine qx_dup (pc := 62) dX9_pan_62 rfl ?_
      refine qgM0_3 (pc := 63) qwf_X9_58 dX9_pan_63 ?_
      refine qx_iload_n (pc := 66) 2 dX9_pan_66 rfl ?_
      refine qx_iadd (pc := 67) dX9_pan_67 ?_
      refine qpM0_3 (pc := 68) qwf_X9_58 dX9_pan_68 ?_
      refine qx_aload_n (pc := 71) 0 dX9_pan_71 rfl ?_
      obtain ⟨r3, hr3, h⟩ := qx_bindE h
      refine qx_callVv (pc := 72) 0 r3 [] [] rfl rfl rfl qcm_X9_settles qcv_X9_settles qwm_X9_102 rfl (Nat.le_of_ble_eq_true rfl) (Nat.le_of_ble_eq_true rfl) (by decide) dX9_pan_72 (qM_settles_ok hr3) ?_
      refine qx_aload_n (pc := 75) 0 dX9_pan_75 rfl ?_
      obtain ⟨r4, hr4, h⟩ := qx_bindE h
      refine qx_callVi (pc := 76) 0 r4 r3 [] [] rfl rfl rfl qcm_X9_shown qcv_X9_shown qwm_X9_129 rfl (Nat.le_of_ble_eq_true rfl) (Nat.le_of_ble_eq_true rfl) (by decide) dX9_pan_76 (qM_shown_ok hr4) ?_
      refine qx_istore_n (pc := 79) (lv' := [(3, .int r4), (0, .ref (a 0)), (1, .int x1), (2, .int x2)]) dX9_pan_79 (Nat.le_of_ble_eq_true rfl) rfl ?_
      refine qx_aload_n (pc := 80) 1 dX9_pan_80 rfl ?_
      obtain ⟨r5, hr5, h⟩ := qx_bindE h
      refine qx_callVi (pc := 81) 0 r5.1 r5.2 [] [] rfl rfl rfl qcm_X9_fill qcv_X9_fill qwm_X9_132 rfl (Nat.le_of_ble_eq_true rfl) (Nat.le_of_ble_eq_true rfl) (by decide) dX9_pan_81 (qM_fill_ok hr5) ?_
      refine qx_istore (pc := 84) (lv' := [(4, .int (r5.1)), (3, .int r4), (0, .ref (a 0)), (1, .int x1), (2, .int x2)]) dX9_pan_84 (Nat.le_of_ble_eq_true rfl) rfl ?_
      refine qx_iload (pc := 86) 0 dX9_pan_86 rfl ?_
      refine qx_if_ge (pc := 88) 96 h dX9_pan_88 (by decide) (fun h => ?_) (fun h => ?_)
      · refine qx_iload_n (pc := 96) 1 dX9_pan_96 rfl ?_
        exact qx_iretS h rfl dX9_pan_97
      · refine qx_iload (pc := 91) 0 dX9_pan_91 rfl ?_
        refine qx_goto (pc := 93) 97 dX9_pan_93 (by decide) ?_
        exact qx_iretS h rfl dX9_pan_97
    · refine qx_bipush (pc := 48) (-2) dX9_pan_48 (by decide) ?_
      exact qx_iretS h rfl dX9_pan_50
set_option maxHeartbeats 4000000 in
set_option maxRecDepth 100000 in
theorem qM_meets_L5_ok {σ : QS} {x1 : Int32} {x2 : Int32} : ∀ (n : Nat) (x3 : Int32) (x4 : Int32) (r : Int32), qM_meets_L5 σ x1 x2 n x3 x4 = some r → qx_E (qx_gM l D ci a) 3 mX9_meets (some (.int r), σ) 5 [(0, .ref (a 0)), (1, .int x1), (2, .int x2), (3, .int x3), (4, .int x4)] [] σ := by
  intro n
  induction n with
  | zero =>
    intro x3 x4 r h
    exact (qx_none h).elim
  | succ n ih =>
    intro x3 x4 r h
    unfold qM_meets_L5 at h
    refine qx_iload (pc := 5) 4 dX9_meets_5 rfl ?_
    refine qx_bipush (pc := 7) 8 dX9_meets_7 (by decide) ?_
    refine qx_aload_n (pc := 9) 0 dX9_meets_9 rfl ?_
    refine qgM0_1 (pc := 10) qwf_X9_48 dX9_meets_10 ?_
    refine qx_imul (pc := 13) dX9_meets_13 ?_
    refine qx_icmp_ge (pc := 14) 69 h dX9_meets_14 (by decide) (fun h => ?_) (fun h => ?_)
    · refine qx_iload_n (pc := 69) 3 dX9_meets_69 rfl ?_
      exact qx_iret h rfl dX9_meets_70
    · refine qx_iload_n (pc := 17) 3 dX9_meets_17 rfl ?_
      refine qx_iload (pc := 18) 4 dX9_meets_18 rfl ?_
      refine qx_bipush (pc := 20) 8 dX9_meets_20 (by decide) ?_
      refine qx_idiv (pc := 22) dX9_meets_22 (by decide) ?_
      refine qx_iload_n (pc := 23) 1 dX9_meets_23 rfl ?_
      refine qx_icmp_eq (pc := 24) 60 h dX9_meets_24 (by decide) (fun h => ?_) (fun h => ?_)
      · refine qx_iconst (pc := 60) 0 dX9_meets_60 (by decide) ?_
        refine qx_iadd (pc := 61) dX9_meets_61 ?_
        refine qx_istore_n (pc := 62) (lv' := [(3, .int (x3 + 0)), (0, .ref (a 0)), (1, .int x1), (2, .int x2), (4, .int x4)]) dX9_meets_62 (Nat.le_of_ble_eq_true rfl) rfl ?_
        refine qx_iinc (pc := 63) (lv' := [(4, .int (x4 + 1)), (3, .int (x3 + 0)), (0, .ref (a 0)), (1, .int x1), (2, .int x2)]) 4 (x4 + 1) dX9_meets_63 rfl rfl (Nat.le_of_ble_eq_true rfl) rfl ?_
        refine qx_goto (pc := 66) 5 dX9_meets_66 (by decide) ?_
        exact qx_sub [2, 3, 4, 1, 0] rfl (ih _ _ _ h)
      · refine qx_aload_n (pc := 27) 0 dX9_meets_27 rfl ?_
        refine qgM0_6 (pc := 28) qwf_X9_20 dX9_meets_28 ?_
        refine qx_iload (pc := 31) 4 dX9_meets_31 rfl ?_
        refine qlM2 (pc := 33) h dX9_meets_33 (fun h => ?_)
        refine qx_if_eq (pc := 34) 60 h dX9_meets_34 (by decide) (fun h => ?_) (fun h => ?_)
        · refine qx_iconst (pc := 60) 0 dX9_meets_60 (by decide) ?_
          refine qx_iadd (pc := 61) dX9_meets_61 ?_
          refine qx_istore_n (pc := 62) (lv' := [(3, .int (x3 + 0)), (0, .ref (a 0)), (1, .int x1), (2, .int x2), (4, .int x4)]) dX9_meets_62 (Nat.le_of_ble_eq_true rfl) rfl ?_
          refine qx_iinc (pc := 63) (lv' := [(4, .int (x4 + 1)), (3, .int (x3 + 0)), (0, .ref (a 0)), (1, .int x1), (2, .int x2)]) 4 (x4 + 1) dX9_meets_63 rfl rfl (Nat.le_of_ble_eq_true rfl) rfl ?_
          refine qx_goto (pc := 66) 5 dX9_meets_66 (by decide) ?_
          exact qx_sub [2, 3, 4, 1, 0] rfl (ih _ _ _ h)
        · refine qx_aload_n (pc := 37) 0 dX9_meets_37 rfl ?_
          refine qx_iload_n (pc := 38) 1 dX9_meets_38 rfl ?_
          refine qx_iload_n (pc := 39) 2 dX9_meets_39 rfl ?_
          refine qx_iload (pc := 40) 4 dX9_meets_40 rfl ?_
          refine qx_bipush (pc := 42) 8 dX9_meets_42 (by decide) ?_
          refine qx_idiv (pc := 44) dX9_meets_44 (by decide) ?_
          refine qx_iload (pc := 45) 4 dX9_meets_45 rfl ?_
          refine qx_bipush (pc := 47) 8 dX9_meets_47 (by decide) ?_
          refine qx_irem (pc := 49) dX9_meets_49 (by decide) ?_
          obtain ⟨r1, hr1, h⟩ := qx_bindE h
          refine qx_callVi (pc := 50) 0 r1 σ [.int x1, .int x2, .int (x4 / 8), .int (x4 - x4 / 8 * 8)] [.int x3] rfl rfl rfl qcm_X9_meet qcv_X9_meet qwm_X9_80 rfl (Nat.le_of_ble_eq_true rfl) (Nat.le_of_ble_eq_true rfl) (by decide) dX9_meets_50 (qM_meet_ok hr1) ?_
          refine qx_if_eq (pc := 53) 60 h dX9_meets_53 (by decide) (fun h => ?_) (fun h => ?_)
          · refine qx_iconst (pc := 60) 0 dX9_meets_60 (by decide) ?_
            refine qx_iadd (pc := 61) dX9_meets_61 ?_
            refine qx_istore_n (pc := 62) (lv' := [(3, .int (x3 + 0)), (0, .ref (a 0)), (1, .int x1), (2, .int x2), (4, .int x4)]) dX9_meets_62 (Nat.le_of_ble_eq_true rfl) rfl ?_
            refine qx_iinc (pc := 63) (lv' := [(4, .int (x4 + 1)), (3, .int (x3 + 0)), (0, .ref (a 0)), (1, .int x1), (2, .int x2)]) 4 (x4 + 1) dX9_meets_63 rfl rfl (Nat.le_of_ble_eq_true rfl) rfl ?_
            refine qx_goto (pc := 66) 5 dX9_meets_66 (by decide) ?_
            exact qx_sub [2, 3, 4, 1, 0] rfl (ih _ _ _ h)
          · refine qx_iconst (pc := 56) 1 dX9_meets_56 (by decide) ?_
            refine qx_goto (pc := 57) 61 dX9_meets_57 (by decide) ?_
            refine qx_iadd (pc := 61) dX9_meets_61 ?_
            refine qx_istore_n (pc := 62) (lv' := [(3, .int (x3 + 1)), (0, .ref (a 0)), (1, .int x1), (2, .int x2), (4, .int x4)]) dX9_meets_62 (Nat.le_of_ble_eq_true rfl) rfl ?_
            refine qx_iinc (pc := 63) (lv' := [(4, .int (x4 + 1)), (3, .int (x3 + 1)), (0, .ref (a 0)), (1, .int x1), (2, .int x2)]) 4 (x4 + 1) dX9_meets_63 rfl rfl (Nat.le_of_ble_eq_true rfl) rfl ?_
            refine qx_goto (pc := 66) 5 dX9_meets_66 (by decide) ?_
            exact qx_sub [2, 3, 4, 1, 0] rfl (ih _ _ _ h)
set_option maxHeartbeats 4000000 in
set_option maxRecDepth 100000 in
theorem qM_meets_ok {σ : QS} {x1 : Int32} {x2 : Int32} {r : Int32} (h : qM_meets σ x1 x2 = some r) : qx_E (qx_gM l D ci a) 3 mX9_meets (some (.int r), σ) 0 [(0, .ref (a 0)), (1, .int x1), (2, .int x2)] [] σ := by
  unfold qM_meets at h
  refine qx_iconst (pc := 0) 0 dX9_meets_0 (by decide) ?_
  refine qx_istore_n (pc := 1) (lv' := [(3, .int 0), (0, .ref (a 0)), (1, .int x1), (2, .int x2)]) dX9_meets_1 (Nat.le_of_ble_eq_true rfl) rfl ?_
  refine qx_iconst (pc := 2) 0 dX9_meets_2 (by decide) ?_
  refine qx_istore (pc := 3) (lv' := [(4, .int 0), (3, .int 0), (0, .ref (a 0)), (1, .int x1), (2, .int x2)]) dX9_meets_3 (Nat.le_of_ble_eq_true rfl) rfl ?_
  exact qx_sub [2, 3, 4, 1, 0] rfl (qM_meets_L5_ok qx_F _ _ _ h)
set_option maxHeartbeats 4000000 in
set_option maxRecDepth 100000 in
theorem qM_placePart_ok {σ : QS} {x1 : Int32} {x2 : Int32} {x3 : Int32} {r : Int32} (h : qM_placePart σ x1 x2 x3 = some r) : qx_E (qx_gM l D ci a) 4 mX9_placePart (some (.int r), σ) 0 [(0, .ref (a 0)), (1, .int x1), (2, .int x2), (3, .int x3)] [] σ := by
  unfold qM_placePart at h
  refine qx_aload_n (pc := 0) 0 dX9_placePart_0 rfl ?_
  refine qgM0_6 (pc := 1) qwf_X9_20 dX9_placePart_1 ?_
  refine qx_bipush (pc := 4) 8 dX9_placePart_4 (by decide) ?_
  refine qx_iload_n (pc := 6) 1 dX9_placePart_6 rfl ?_
  refine qx_imul (pc := 7) dX9_placePart_7 ?_
  refine qx_iload_n (pc := 8) 2 dX9_placePart_8 rfl ?_
  refine qx_iadd (pc := 9) dX9_placePart_9 ?_
  refine qlM2 (pc := 10) h dX9_placePart_10 (fun h => ?_)
  refine qx_istore (pc := 11) (lv' := [(4, .int (σ.1 2 ((8 * x1) + x2).toNatClampNeg)), (0, .ref (a 0)), (1, .int x1), (2, .int x2), (3, .int x3)]) dX9_placePart_11 (Nat.le_of_ble_eq_true rfl) rfl ?_
  refine qx_iload_n (pc := 13) 4 dX9_placePart_13 rfl ?_
  rcases qx_ite h with ⟨hc0, h⟩ | ⟨hc0, h⟩
  · refine qx_tsIn (pc := 14) 44 0 hc0 dX9_placePart_14 (by decide) (by decide) rfl (by decide) ?_
    refine qx_iload (pc := 44) 0 dX9_placePart_44 rfl ?_
    refine qx_if_eq (pc := 46) 53 h dX9_placePart_46 (by decide) (fun h => ?_) (fun h => ?_)
    · refine qx_iconst (pc := 53) 0 dX9_placePart_53 (by decide) ?_
      exact qx_iret h rfl dX9_placePart_54
    · refine qx_iconst (pc := 49) 1 dX9_placePart_49 (by decide) ?_
      refine qx_goto (pc := 50) 54 dX9_placePart_50 (by decide) ?_
      exact qx_iret h rfl dX9_placePart_54
  rcases qx_ite h with ⟨hc1, h⟩ | ⟨hc1, h⟩
  · refine qx_tsIn (pc := 14) 55 1 hc1 dX9_placePart_14 (by decide) (by decide) rfl (by decide) ?_
    refine qx_aload_n (pc := 55) 1 dX9_placePart_55 rfl ?_
    refine qx_iload_n (pc := 56) 2 dX9_placePart_56 rfl ?_
    refine qx_iload_n (pc := 57) 3 dX9_placePart_57 rfl ?_
    obtain ⟨r2, hr2, h⟩ := qx_bindE h
    refine qx_callVi (pc := 58) 0 r2 σ [.int x1, .int x2] [] rfl rfl rfl qcm_X9_left qcv_X9_left qwm_X9_61 rfl (Nat.le_of_ble_eq_true rfl) (Nat.le_of_ble_eq_true rfl) (by decide) dX9_placePart_58 (qM_left_ok hr2) ?_
    exact qx_iret h rfl dX9_placePart_61
  rcases qx_ite h with ⟨hc2, h⟩ | ⟨hc2, h⟩
  · refine qx_tsIn (pc := 14) 62 2 hc2 dX9_placePart_14 (by decide) (by decide) rfl (by decide) ?_
    refine qx_aload_n (pc := 62) 1 dX9_placePart_62 rfl ?_
    refine qx_iload_n (pc := 63) 2 dX9_placePart_63 rfl ?_
    refine qx_iload_n (pc := 64) 3 dX9_placePart_64 rfl ?_
    obtain ⟨r3, hr3, h⟩ := qx_bindE h
    refine qx_callVi (pc := 65) 0 r3 σ [.int x1, .int x2] [] rfl rfl rfl qcm_X9_bottom qcv_X9_bottom qwm_X9_65 rfl (Nat.le_of_ble_eq_true rfl) (Nat.le_of_ble_eq_true rfl) (by decide) dX9_placePart_65 (qM_bottom_ok hr3) ?_
    exact qx_iret h rfl dX9_placePart_68
  rcases qx_ite h with ⟨hc3, h⟩ | ⟨hc3, h⟩
  · refine qx_tsIn (pc := 14) 69 3 hc3 dX9_placePart_14 (by decide) (by decide) rfl (by decide) ?_
    refine qx_iload (pc := 69) 0 dX9_placePart_69 rfl ?_
    refine qx_if_eq (pc := 71) 83 h dX9_placePart_71 (by decide) (fun h => ?_) (fun h => ?_)
    · refine qx_iconst (pc := 83) 0 dX9_placePart_83 (by decide) ?_
      exact qx_iret h rfl dX9_placePart_84
    · refine qx_aload_n (pc := 74) 1 dX9_placePart_74 rfl ?_
      refine qx_iload_n (pc := 75) 2 dX9_placePart_75 rfl ?_
      refine qx_iload_n (pc := 76) 3 dX9_placePart_76 rfl ?_
      obtain ⟨r4, hr4, h⟩ := qx_bindE h
      refine qx_callVi (pc := 77) 0 r4 σ [.int x1, .int x2] [] rfl rfl rfl qcm_X9_meets qcv_X9_meets qwm_X9_135 rfl (Nat.le_of_ble_eq_true rfl) (Nat.le_of_ble_eq_true rfl) (by decide) dX9_placePart_77 (qM_meets_ok hr4) ?_
      refine qx_goto (pc := 80) 84 dX9_placePart_80 (by decide) ?_
      exact qx_iret h rfl dX9_placePart_84
  have ht0 := lv_neT (a := 0) hc0 rfl
  have ht1 := lv_neT (a := 1) hc1 rfl
  have ht2 := lv_neT (a := 2) hc2 rfl
  have ht3 := lv_neT (a := 3) hc3 rfl
  refine qx_tsOut (pc := 14) 85 dX9_placePart_14 (by omega) (by decide) ?_
  refine qx_iload (pc := 85) 0 dX9_placePart_85 rfl ?_
  refine qx_if_eq (pc := 87) 100 h dX9_placePart_87 (by decide) (fun h => ?_) (fun h => ?_)
  · refine qx_iconst (pc := 100) 0 dX9_placePart_100 (by decide) ?_
    exact qx_iret h rfl dX9_placePart_101
  · refine qx_aload_n (pc := 90) 1 dX9_placePart_90 rfl ?_
    refine qx_iload_n (pc := 91) 2 dX9_placePart_91 rfl ?_
    refine qx_iload_n (pc := 92) 3 dX9_placePart_92 rfl ?_
    refine qx_iconst (pc := 93) (-1) dX9_placePart_93 (by decide) ?_
    obtain ⟨r1, hr1, h⟩ := qx_bindE h
    refine qx_callVi (pc := 94) 0 r1 σ [.int x1, .int x2, .int (-1)] [] rfl rfl rfl qcm_X9_clashes qcv_X9_clashes qwm_X9_108 rfl (Nat.le_of_ble_eq_true rfl) (Nat.le_of_ble_eq_true rfl) (by decide) dX9_placePart_94 (qM_clashes_ok hr1) ?_
    refine qx_goto (pc := 97) 101 dX9_placePart_97 (by decide) ?_
    exact qx_iret h rfl dX9_placePart_101
set_option maxHeartbeats 4000000 in
set_option maxRecDepth 100000 in
theorem qM_isSide_ok {σ : QS} {x0 : Int32} {r : Int32} (h : qM_isSide σ x0 = some r) : qx_E (qx_gM l D ci a) 2 mX9_isSide (some (.int r), σ) 0 [(0, .int x0)] [] σ := by
  unfold qM_isSide at h
  refine qx_iload_n (pc := 0) 0 dX9_isSide_0 rfl ?_
  refine qx_i2l (pc := 1) dX9_isSide_1 ?_
  refine qx_lconst (pc := 2) 0 dX9_isSide_2 (by decide) ?_
  refine qx_ldc2 (pc := 3) 7 dX9_isSide_3 qwc_X9_138 ?_
  obtain ⟨r1, hr1, h⟩ := qx_bindE h
  refine qx_callSi (pc := 6) r1 σ [.long (x0.toInt64), .long 0, .long 7] [] rfl qcm_X9_in qcs_X9_in qwm_X9_51 rfl (Nat.le_of_ble_eq_true rfl) (Nat.le_of_ble_eq_true rfl) (by decide) dX9_isSide_6 (qM_in_ok hr1) ?_
  exact qx_nret h rfl rfl dX9_isSide_9
end
