section
variable {l : Launch} {D : va_G} {ci : Nat → ClassId} {a z : Nat → Nat}
theorem dX9_sum_0 : decode cX9_sum 0 = .ok (.iconst 0, 1) := by decide +kernel
theorem dX9_sum_1 : decode cX9_sum 1 = .ok (.istore_n 2, 1) := by decide +kernel
theorem dX9_sum_2 : decode cX9_sum 2 = .ok (.iconst 0, 1) := by decide +kernel
theorem dX9_sum_3 : decode cX9_sum 3 = .ok (.istore_n 3, 1) := by decide +kernel
theorem dX9_sum_4 : decode cX9_sum 4 = .ok (.iload_n 3, 1) := by decide +kernel
theorem dX9_sum_5 : decode cX9_sum 5 = .ok (.iload_n 1, 1) := by decide +kernel
theorem dX9_sum_6 : decode cX9_sum 6 = .ok (.if_icmp .ge 41, 3) := by decide +kernel
theorem dX9_sum_9 : decode cX9_sum 9 = .ok (.iload_n 2, 1) := by decide +kernel
theorem dX9_sum_10 : decode cX9_sum 10 = .ok (.aload_n 0, 1) := by decide +kernel
theorem dX9_sum_11 : decode cX9_sum 11 = .ok (.getfield 27, 3) := by decide +kernel
theorem dX9_sum_14 : decode cX9_sum 14 = .ok (.iload_n 3, 1) := by decide +kernel
theorem dX9_sum_15 : decode cX9_sum 15 = .ok (.iaload, 1) := by decide +kernel
theorem dX9_sum_16 : decode cX9_sum 16 = .ok (.bipush 8, 2) := by decide +kernel
theorem dX9_sum_18 : decode cX9_sum 18 = .ok (.if_icmp .ge 20, 3) := by decide +kernel
theorem dX9_sum_21 : decode cX9_sum 21 = .ok (.aload_n 0, 1) := by decide +kernel
theorem dX9_sum_22 : decode cX9_sum 22 = .ok (.getfield 7, 3) := by decide +kernel
theorem dX9_sum_25 : decode cX9_sum 25 = .ok (.bipush 80, 2) := by decide +kernel
theorem dX9_sum_27 : decode cX9_sum 27 = .ok (.aload_n 0, 1) := by decide +kernel
theorem dX9_sum_28 : decode cX9_sum 28 = .ok (.getfield 30, 3) := by decide +kernel
theorem dX9_sum_31 : decode cX9_sum 31 = .ok (.iload_n 3, 1) := by decide +kernel
theorem dX9_sum_32 : decode cX9_sum 32 = .ok (.iaload, 1) := by decide +kernel
theorem dX9_sum_33 : decode cX9_sum 33 = .ok (.iadd, 1) := by decide +kernel
theorem dX9_sum_34 : decode cX9_sum 34 = .ok (.iaload, 1) := by decide +kernel
theorem dX9_sum_35 : decode cX9_sum 35 = .ok (.goto 4, 3) := by decide +kernel
theorem dX9_sum_38 : decode cX9_sum 38 = .ok (.iconst 0, 1) := by decide +kernel
theorem dX9_sum_39 : decode cX9_sum 39 = .ok (.iadd, 1) := by decide +kernel
theorem dX9_sum_40 : decode cX9_sum 40 = .ok (.istore_n 2, 1) := by decide +kernel
theorem dX9_sum_41 : decode cX9_sum 41 = .ok (.iinc 3 1, 3) := by decide +kernel
theorem dX9_sum_44 : decode cX9_sum 44 = .ok (.goto (-40), 3) := by decide +kernel
theorem dX9_sum_47 : decode cX9_sum 47 = .ok (.iload_n 2, 1) := by decide +kernel
theorem dX9_sum_48 : decode cX9_sum 48 = .ok (.ireturn, 1) := by decide +kernel
theorem dX9_greatest_0 : decode cX9_greatest 0 = .ok (.aload_n 0, 1) := by decide +kernel
theorem dX9_greatest_1 : decode cX9_greatest 1 = .ok (.invokevirtual 83, 3) := by decide +kernel
theorem dX9_greatest_4 : decode cX9_greatest 4 = .ok (.iconst 0, 1) := by decide +kernel
theorem dX9_greatest_5 : decode cX9_greatest 5 = .ok (.istore_n 1, 1) := by decide +kernel
theorem dX9_greatest_6 : decode cX9_greatest 6 = .ok (.iconst 0, 1) := by decide +kernel
theorem dX9_greatest_7 : decode cX9_greatest 7 = .ok (.istore_n 2, 1) := by decide +kernel
theorem dX9_greatest_8 : decode cX9_greatest 8 = .ok (.iload_n 2, 1) := by decide +kernel
theorem dX9_greatest_9 : decode cX9_greatest 9 = .ok (.aload_n 0, 1) := by decide +kernel
theorem dX9_greatest_10 : decode cX9_greatest 10 = .ok (.getfield 48, 3) := by decide +kernel
theorem dX9_greatest_13 : decode cX9_greatest 13 = .ok (.if_icmp .ge 36, 3) := by decide +kernel
theorem dX9_greatest_16 : decode cX9_greatest 16 = .ok (.aload_n 0, 1) := by decide +kernel
theorem dX9_greatest_17 : decode cX9_greatest 17 = .ok (.iload_n 2, 1) := by decide +kernel
theorem dX9_greatest_18 : decode cX9_greatest 18 = .ok (.invokevirtual 112, 3) := by decide +kernel
theorem dX9_greatest_21 : decode cX9_greatest 21 = .ok (.ifCond .le 22, 3) := by decide +kernel
theorem dX9_greatest_24 : decode cX9_greatest 24 = .ok (.iload_n 1, 1) := by decide +kernel
theorem dX9_greatest_25 : decode cX9_greatest 25 = .ok (.bipush 6, 2) := by decide +kernel
theorem dX9_greatest_27 : decode cX9_greatest 27 = .ok (.if_icmp .ne 6, 3) := by decide +kernel
theorem dX9_greatest_30 : decode cX9_greatest 30 = .ok (.bipush (-3), 2) := by decide +kernel
theorem dX9_greatest_32 : decode cX9_greatest 32 = .ok (.ireturn, 1) := by decide +kernel
theorem dX9_greatest_33 : decode cX9_greatest 33 = .ok (.aload_n 0, 1) := by decide +kernel
theorem dX9_greatest_34 : decode cX9_greatest 34 = .ok (.getfield 30, 3) := by decide +kernel
theorem dX9_greatest_37 : decode cX9_greatest 37 = .ok (.iload_n 1, 1) := by decide +kernel
theorem dX9_greatest_38 : decode cX9_greatest 38 = .ok (.iload_n 2, 1) := by decide +kernel
theorem dX9_greatest_39 : decode cX9_greatest 39 = .ok (.iastore, 1) := by decide +kernel
theorem dX9_greatest_40 : decode cX9_greatest 40 = .ok (.iinc 1 1, 3) := by decide +kernel
theorem dX9_greatest_43 : decode cX9_greatest 43 = .ok (.iinc 2 1, 3) := by decide +kernel
theorem dX9_greatest_46 : decode cX9_greatest 46 = .ok (.goto (-38), 3) := by decide +kernel
theorem dX9_greatest_49 : decode cX9_greatest 49 = .ok (.iconst 0, 1) := by decide +kernel
theorem dX9_greatest_50 : decode cX9_greatest 50 = .ok (.istore_n 2, 1) := by decide +kernel
theorem dX9_greatest_51 : decode cX9_greatest 51 = .ok (.iconst 0, 1) := by decide +kernel
theorem dX9_greatest_52 : decode cX9_greatest 52 = .ok (.istore_n 3, 1) := by decide +kernel
theorem dX9_greatest_53 : decode cX9_greatest 53 = .ok (.aload_n 0, 1) := by decide +kernel
theorem dX9_greatest_54 : decode cX9_greatest 54 = .ok (.getfield 27, 3) := by decide +kernel
theorem dX9_greatest_57 : decode cX9_greatest 57 = .ok (.iconst 0, 1) := by decide +kernel
theorem dX9_greatest_58 : decode cX9_greatest 58 = .ok (.iconst (-1), 1) := by decide +kernel
theorem dX9_greatest_59 : decode cX9_greatest 59 = .ok (.iastore, 1) := by decide +kernel
theorem dX9_greatest_60 : decode cX9_greatest 60 = .ok (.iload_n 3, 1) := by decide +kernel
theorem dX9_greatest_61 : decode cX9_greatest 61 = .ok (.ifCond .lt 147, 3) := by decide +kernel
theorem dX9_greatest_64 : decode cX9_greatest 64 = .ok (.iload_n 1, 1) := by decide +kernel
theorem dX9_greatest_65 : decode cX9_greatest 65 = .ok (.ifCond .le 143, 3) := by decide +kernel
theorem dX9_greatest_68 : decode cX9_greatest 68 = .ok (.aload_n 0, 1) := by decide +kernel
theorem dX9_greatest_69 : decode cX9_greatest 69 = .ok (.getfield 27, 3) := by decide +kernel
theorem dX9_greatest_72 : decode cX9_greatest 72 = .ok (.iload_n 3, 1) := by decide +kernel
theorem dX9_greatest_73 : decode cX9_greatest 73 = .ok (.dup2, 1) := by decide +kernel
theorem dX9_greatest_74 : decode cX9_greatest 74 = .ok (.iaload, 1) := by decide +kernel
theorem dX9_greatest_75 : decode cX9_greatest 75 = .ok (.iconst 1, 1) := by decide +kernel
theorem dX9_greatest_76 : decode cX9_greatest 76 = .ok (.iadd, 1) := by decide +kernel
theorem dX9_greatest_77 : decode cX9_greatest 77 = .ok (.iastore, 1) := by decide +kernel
theorem dX9_greatest_78 : decode cX9_greatest 78 = .ok (.aload_n 0, 1) := by decide +kernel
theorem dX9_greatest_79 : decode cX9_greatest 79 = .ok (.getfield 27, 3) := by decide +kernel
theorem dX9_greatest_82 : decode cX9_greatest 82 = .ok (.iload_n 3, 1) := by decide +kernel
theorem dX9_greatest_83 : decode cX9_greatest 83 = .ok (.iaload, 1) := by decide +kernel
theorem dX9_greatest_84 : decode cX9_greatest 84 = .ok (.bipush 8, 2) := by decide +kernel
theorem dX9_greatest_86 : decode cX9_greatest 86 = .ok (.if_icmp .eq 46, 3) := by decide +kernel
theorem dX9_greatest_89 : decode cX9_greatest 89 = .ok (.aload_n 0, 1) := by decide +kernel
theorem dX9_greatest_90 : decode cX9_greatest 90 = .ok (.getfield 27, 3) := by decide +kernel
theorem dX9_greatest_93 : decode cX9_greatest 93 = .ok (.iload_n 3, 1) := by decide +kernel
theorem dX9_greatest_94 : decode cX9_greatest 94 = .ok (.iaload, 1) := by decide +kernel
theorem dX9_greatest_95 : decode cX9_greatest 95 = .ok (.bipush 8, 2) := by decide +kernel
theorem dX9_greatest_97 : decode cX9_greatest 97 = .ok (.if_icmp .ge 39, 3) := by decide +kernel
theorem dX9_greatest_100 : decode cX9_greatest 100 = .ok (.aload_n 0, 1) := by decide +kernel
theorem dX9_greatest_101 : decode cX9_greatest 101 = .ok (.getfield 20, 3) := by decide +kernel
theorem dX9_greatest_104 : decode cX9_greatest 104 = .ok (.bipush 8, 2) := by decide +kernel
theorem dX9_greatest_106 : decode cX9_greatest 106 = .ok (.aload_n 0, 1) := by decide +kernel
theorem dX9_greatest_107 : decode cX9_greatest 107 = .ok (.getfield 30, 3) := by decide +kernel
theorem dX9_greatest_110 : decode cX9_greatest 110 = .ok (.iload_n 3, 1) := by decide +kernel
theorem dX9_greatest_111 : decode cX9_greatest 111 = .ok (.iaload, 1) := by decide +kernel
theorem dX9_greatest_112 : decode cX9_greatest 112 = .ok (.imul, 1) := by decide +kernel
theorem dX9_greatest_113 : decode cX9_greatest 113 = .ok (.aload_n 0, 1) := by decide +kernel
theorem dX9_greatest_114 : decode cX9_greatest 114 = .ok (.getfield 27, 3) := by decide +kernel
theorem dX9_greatest_117 : decode cX9_greatest 117 = .ok (.iload_n 3, 1) := by decide +kernel
theorem dX9_greatest_118 : decode cX9_greatest 118 = .ok (.iaload, 1) := by decide +kernel
theorem dX9_greatest_119 : decode cX9_greatest 119 = .ok (.iadd, 1) := by decide +kernel
theorem dX9_greatest_120 : decode cX9_greatest 120 = .ok (.baload, 1) := by decide +kernel
theorem dX9_greatest_121 : decode cX9_greatest 121 = .ok (.ifCond .eq 15, 3) := by decide +kernel
theorem dX9_greatest_124 : decode cX9_greatest 124 = .ok (.aload_n 0, 1) := by decide +kernel
theorem dX9_greatest_125 : decode cX9_greatest 125 = .ok (.iload_n 3, 1) := by decide +kernel
theorem dX9_greatest_126 : decode cX9_greatest 126 = .ok (.invokevirtual 173, 3) := by decide +kernel
theorem dX9_greatest_129 : decode cX9_greatest 129 = .ok (.ifCond .eq 7, 3) := by decide +kernel
theorem dX9_greatest_132 : decode cX9_greatest 132 = .ok (.iconst 1, 1) := by decide +kernel
theorem dX9_greatest_133 : decode cX9_greatest 133 = .ok (.goto 4, 3) := by decide +kernel
theorem dX9_greatest_136 : decode cX9_greatest 136 = .ok (.iconst 0, 1) := by decide +kernel
theorem dX9_greatest_137 : decode cX9_greatest 137 = .ok (.istore 4, 2) := by decide +kernel
theorem dX9_greatest_139 : decode cX9_greatest 139 = .ok (.aload_n 0, 1) := by decide +kernel
theorem dX9_greatest_140 : decode cX9_greatest 140 = .ok (.getfield 27, 3) := by decide +kernel
theorem dX9_greatest_143 : decode cX9_greatest 143 = .ok (.iload_n 3, 1) := by decide +kernel
theorem dX9_greatest_144 : decode cX9_greatest 144 = .ok (.iaload, 1) := by decide +kernel
theorem dX9_greatest_145 : decode cX9_greatest 145 = .ok (.bipush 8, 2) := by decide +kernel
theorem dX9_greatest_147 : decode cX9_greatest 147 = .ok (.if_icmp .le 9, 3) := by decide +kernel
theorem dX9_greatest_150 : decode cX9_greatest 150 = .ok (.iinc 3 (-1), 3) := by decide +kernel
theorem dX9_greatest_153 : decode cX9_greatest 153 = .ok (.goto 52, 3) := by decide +kernel
theorem dX9_greatest_156 : decode cX9_greatest 156 = .ok (.iload 4, 2) := by decide +kernel
theorem dX9_greatest_158 : decode cX9_greatest 158 = .ok (.ifCond .eq 32, 3) := by decide +kernel
theorem dX9_greatest_161 : decode cX9_greatest 161 = .ok (.iload_n 3, 1) := by decide +kernel
theorem dX9_greatest_162 : decode cX9_greatest 162 = .ok (.iload_n 1, 1) := by decide +kernel
theorem dX9_greatest_163 : decode cX9_greatest 163 = .ok (.iconst 1, 1) := by decide +kernel
theorem dX9_greatest_164 : decode cX9_greatest 164 = .ok (.isub, 1) := by decide +kernel
theorem dX9_greatest_165 : decode cX9_greatest 165 = .ok (.if_icmp .ne 25, 3) := by decide +kernel
theorem dX9_greatest_168 : decode cX9_greatest 168 = .ok (.aload_n 0, 1) := by decide +kernel
theorem dX9_greatest_169 : decode cX9_greatest 169 = .ok (.iload_n 1, 1) := by decide +kernel
theorem dX9_greatest_170 : decode cX9_greatest 170 = .ok (.invokevirtual 176, 3) := by decide +kernel
theorem dX9_greatest_173 : decode cX9_greatest 173 = .ok (.iload_n 2, 1) := by decide +kernel
theorem dX9_greatest_174 : decode cX9_greatest 174 = .ok (.if_icmp .le 11, 3) := by decide +kernel
theorem dX9_greatest_177 : decode cX9_greatest 177 = .ok (.aload_n 0, 1) := by decide +kernel
theorem dX9_greatest_178 : decode cX9_greatest 178 = .ok (.iload_n 1, 1) := by decide +kernel
theorem dX9_greatest_179 : decode cX9_greatest 179 = .ok (.invokevirtual 176, 3) := by decide +kernel
theorem dX9_greatest_182 : decode cX9_greatest 182 = .ok (.goto 4, 3) := by decide +kernel
theorem dX9_greatest_185 : decode cX9_greatest 185 = .ok (.iload_n 2, 1) := by decide +kernel
theorem dX9_greatest_186 : decode cX9_greatest 186 = .ok (.istore_n 2, 1) := by decide +kernel
theorem dX9_greatest_187 : decode cX9_greatest 187 = .ok (.goto 18, 3) := by decide +kernel
theorem dX9_greatest_190 : decode cX9_greatest 190 = .ok (.iload 4, 2) := by decide +kernel
theorem dX9_greatest_192 : decode cX9_greatest 192 = .ok (.ifCond .eq 13, 3) := by decide +kernel
theorem dX9_greatest_195 : decode cX9_greatest 195 = .ok (.iinc 3 1, 3) := by decide +kernel
theorem dX9_greatest_198 : decode cX9_greatest 198 = .ok (.aload_n 0, 1) := by decide +kernel
theorem dX9_greatest_199 : decode cX9_greatest 199 = .ok (.getfield 27, 3) := by decide +kernel
theorem dX9_greatest_202 : decode cX9_greatest 202 = .ok (.iload_n 3, 1) := by decide +kernel
theorem dX9_greatest_203 : decode cX9_greatest 203 = .ok (.iconst (-1), 1) := by decide +kernel
theorem dX9_greatest_204 : decode cX9_greatest 204 = .ok (.iastore, 1) := by decide +kernel
theorem dX9_greatest_205 : decode cX9_greatest 205 = .ok (.goto (-145), 3) := by decide +kernel
theorem dX9_greatest_208 : decode cX9_greatest 208 = .ok (.iload_n 2, 1) := by decide +kernel
theorem dX9_greatest_209 : decode cX9_greatest 209 = .ok (.ireturn, 1) := by decide +kernel
theorem dX9_isAhead_0 : decode cX9_isAhead 0 = .ok (.aload_n 0, 1) := by decide +kernel
theorem dX9_isAhead_1 : decode cX9_isAhead 1 = .ok (.getfield 7, 3) := by decide +kernel
theorem dX9_isAhead_4 : decode cX9_isAhead 4 = .ok (.bipush 20, 2) := by decide +kernel
theorem dX9_isAhead_6 : decode cX9_isAhead 6 = .ok (.iload_n 1, 1) := by decide +kernel
theorem dX9_isAhead_7 : decode cX9_isAhead 7 = .ok (.iadd, 1) := by decide +kernel
theorem dX9_isAhead_8 : decode cX9_isAhead 8 = .ok (.iaload, 1) := by decide +kernel
theorem dX9_isAhead_9 : decode cX9_isAhead 9 = .ok (.aload_n 0, 1) := by decide +kernel
theorem dX9_isAhead_10 : decode cX9_isAhead 10 = .ok (.getfield 7, 3) := by decide +kernel
theorem dX9_isAhead_13 : decode cX9_isAhead 13 = .ok (.bipush 20, 2) := by decide +kernel
theorem dX9_isAhead_15 : decode cX9_isAhead 15 = .ok (.iload_n 2, 1) := by decide +kernel
theorem dX9_isAhead_16 : decode cX9_isAhead 16 = .ok (.iadd, 1) := by decide +kernel
theorem dX9_isAhead_17 : decode cX9_isAhead 17 = .ok (.iaload, 1) := by decide +kernel
theorem dX9_isAhead_18 : decode cX9_isAhead 18 = .ok (.if_icmp .gt 43, 3) := by decide +kernel
theorem dX9_isAhead_21 : decode cX9_isAhead 21 = .ok (.aload_n 0, 1) := by decide +kernel
theorem dX9_isAhead_22 : decode cX9_isAhead 22 = .ok (.getfield 7, 3) := by decide +kernel
theorem dX9_isAhead_25 : decode cX9_isAhead 25 = .ok (.bipush 20, 2) := by decide +kernel
theorem dX9_isAhead_27 : decode cX9_isAhead 27 = .ok (.iload_n 1, 1) := by decide +kernel
theorem dX9_isAhead_28 : decode cX9_isAhead 28 = .ok (.iadd, 1) := by decide +kernel
theorem dX9_isAhead_29 : decode cX9_isAhead 29 = .ok (.iaload, 1) := by decide +kernel
theorem dX9_isAhead_30 : decode cX9_isAhead 30 = .ok (.aload_n 0, 1) := by decide +kernel
theorem dX9_isAhead_31 : decode cX9_isAhead 31 = .ok (.getfield 7, 3) := by decide +kernel
theorem dX9_isAhead_34 : decode cX9_isAhead 34 = .ok (.bipush 20, 2) := by decide +kernel
theorem dX9_isAhead_36 : decode cX9_isAhead 36 = .ok (.iload_n 2, 1) := by decide +kernel
theorem dX9_isAhead_37 : decode cX9_isAhead 37 = .ok (.iadd, 1) := by decide +kernel
theorem dX9_isAhead_38 : decode cX9_isAhead 38 = .ok (.iaload, 1) := by decide +kernel
theorem dX9_isAhead_39 : decode cX9_isAhead 39 = .ok (.if_icmp .ne 26, 3) := by decide +kernel
theorem dX9_isAhead_42 : decode cX9_isAhead 42 = .ok (.aload_n 0, 1) := by decide +kernel
theorem dX9_isAhead_43 : decode cX9_isAhead 43 = .ok (.getfield 7, 3) := by decide +kernel
theorem dX9_isAhead_46 : decode cX9_isAhead 46 = .ok (.iconst 0, 1) := by decide +kernel
theorem dX9_isAhead_47 : decode cX9_isAhead 47 = .ok (.iload_n 1, 1) := by decide +kernel
theorem dX9_isAhead_48 : decode cX9_isAhead 48 = .ok (.iadd, 1) := by decide +kernel
theorem dX9_isAhead_49 : decode cX9_isAhead 49 = .ok (.iaload, 1) := by decide +kernel
theorem dX9_isAhead_50 : decode cX9_isAhead 50 = .ok (.aload_n 0, 1) := by decide +kernel
theorem dX9_isAhead_51 : decode cX9_isAhead 51 = .ok (.getfield 7, 3) := by decide +kernel
theorem dX9_isAhead_54 : decode cX9_isAhead 54 = .ok (.iconst 0, 1) := by decide +kernel
theorem dX9_isAhead_55 : decode cX9_isAhead 55 = .ok (.iload_n 2, 1) := by decide +kernel
theorem dX9_isAhead_56 : decode cX9_isAhead 56 = .ok (.iadd, 1) := by decide +kernel
theorem dX9_isAhead_57 : decode cX9_isAhead 57 = .ok (.iaload, 1) := by decide +kernel
theorem dX9_isAhead_58 : decode cX9_isAhead 58 = .ok (.if_icmp .ge 7, 3) := by decide +kernel
theorem dX9_isAhead_61 : decode cX9_isAhead 61 = .ok (.iconst 1, 1) := by decide +kernel
theorem dX9_isAhead_62 : decode cX9_isAhead 62 = .ok (.goto 4, 3) := by decide +kernel
theorem dX9_isAhead_65 : decode cX9_isAhead 65 = .ok (.iconst 0, 1) := by decide +kernel
theorem dX9_isAhead_66 : decode cX9_isAhead 66 = .ok (.ireturn, 1) := by decide +kernel
theorem dX9_leaders_0 : decode cX9_leaders 0 = .ok (.iconst 0, 1) := by decide +kernel
theorem dX9_leaders_1 : decode cX9_leaders 1 = .ok (.istore_n 1, 1) := by decide +kernel
theorem dX9_leaders_2 : decode cX9_leaders 2 = .ok (.iconst 0, 1) := by decide +kernel
theorem dX9_leaders_3 : decode cX9_leaders 3 = .ok (.istore_n 2, 1) := by decide +kernel
theorem dX9_leaders_4 : decode cX9_leaders 4 = .ok (.iload_n 2, 1) := by decide +kernel
theorem dX9_leaders_5 : decode cX9_leaders 5 = .ok (.aload_n 0, 1) := by decide +kernel
theorem dX9_leaders_6 : decode cX9_leaders 6 = .ok (.getfield 48, 3) := by decide +kernel
theorem dX9_leaders_9 : decode cX9_leaders 9 = .ok (.if_icmp .ge 69, 3) := by decide +kernel
theorem dX9_leaders_12 : decode cX9_leaders 12 = .ok (.aload_n 0, 1) := by decide +kernel
theorem dX9_leaders_13 : decode cX9_leaders 13 = .ok (.iload_n 2, 1) := by decide +kernel
theorem dX9_leaders_14 : decode cX9_leaders 14 = .ok (.invokevirtual 151, 3) := by decide +kernel
theorem dX9_leaders_17 : decode cX9_leaders 17 = .ok (.ifCond .eq 55, 3) := by decide +kernel
theorem dX9_leaders_20 : decode cX9_leaders 20 = .ok (.iload_n 1, 1) := by decide +kernel
theorem dX9_leaders_21 : decode cX9_leaders 21 = .ok (.istore_n 3, 1) := by decide +kernel
theorem dX9_leaders_22 : decode cX9_leaders 22 = .ok (.iload_n 3, 1) := by decide +kernel
theorem dX9_leaders_23 : decode cX9_leaders 23 = .ok (.ifCond .le 39, 3) := by decide +kernel
theorem dX9_leaders_26 : decode cX9_leaders 26 = .ok (.aload_n 0, 1) := by decide +kernel
theorem dX9_leaders_27 : decode cX9_leaders 27 = .ok (.iload_n 2, 1) := by decide +kernel
theorem dX9_leaders_28 : decode cX9_leaders 28 = .ok (.aload_n 0, 1) := by decide +kernel
theorem dX9_leaders_29 : decode cX9_leaders 29 = .ok (.getfield 36, 3) := by decide +kernel
theorem dX9_leaders_32 : decode cX9_leaders 32 = .ok (.iload_n 3, 1) := by decide +kernel
theorem dX9_leaders_33 : decode cX9_leaders 33 = .ok (.iconst 1, 1) := by decide +kernel
theorem dX9_leaders_34 : decode cX9_leaders 34 = .ok (.isub, 1) := by decide +kernel
theorem dX9_leaders_35 : decode cX9_leaders 35 = .ok (.iaload, 1) := by decide +kernel
theorem dX9_leaders_36 : decode cX9_leaders 36 = .ok (.invokevirtual 179, 3) := by decide +kernel
theorem dX9_leaders_39 : decode cX9_leaders 39 = .ok (.ifCond .eq 23, 3) := by decide +kernel
theorem dX9_leaders_42 : decode cX9_leaders 42 = .ok (.aload_n 0, 1) := by decide +kernel
theorem dX9_leaders_43 : decode cX9_leaders 43 = .ok (.getfield 36, 3) := by decide +kernel
theorem dX9_leaders_46 : decode cX9_leaders 46 = .ok (.iload_n 3, 1) := by decide +kernel
theorem dX9_leaders_47 : decode cX9_leaders 47 = .ok (.aload_n 0, 1) := by decide +kernel
theorem dX9_leaders_48 : decode cX9_leaders 48 = .ok (.getfield 36, 3) := by decide +kernel
theorem dX9_leaders_51 : decode cX9_leaders 51 = .ok (.iload_n 3, 1) := by decide +kernel
theorem dX9_leaders_52 : decode cX9_leaders 52 = .ok (.iconst 1, 1) := by decide +kernel
theorem dX9_leaders_53 : decode cX9_leaders 53 = .ok (.isub, 1) := by decide +kernel
theorem dX9_leaders_54 : decode cX9_leaders 54 = .ok (.iaload, 1) := by decide +kernel
theorem dX9_leaders_55 : decode cX9_leaders 55 = .ok (.iastore, 1) := by decide +kernel
theorem dX9_leaders_56 : decode cX9_leaders 56 = .ok (.iinc 3 (-1), 3) := by decide +kernel
theorem dX9_leaders_59 : decode cX9_leaders 59 = .ok (.goto (-37), 3) := by decide +kernel
theorem dX9_leaders_62 : decode cX9_leaders 62 = .ok (.aload_n 0, 1) := by decide +kernel
theorem dX9_leaders_63 : decode cX9_leaders 63 = .ok (.getfield 36, 3) := by decide +kernel
theorem dX9_leaders_66 : decode cX9_leaders 66 = .ok (.iload_n 3, 1) := by decide +kernel
theorem dX9_leaders_67 : decode cX9_leaders 67 = .ok (.iload_n 2, 1) := by decide +kernel
theorem dX9_leaders_68 : decode cX9_leaders 68 = .ok (.iastore, 1) := by decide +kernel
theorem dX9_leaders_69 : decode cX9_leaders 69 = .ok (.iinc 1 1, 3) := by decide +kernel
theorem dX9_leaders_72 : decode cX9_leaders 72 = .ok (.iinc 2 1, 3) := by decide +kernel
theorem dX9_leaders_75 : decode cX9_leaders 75 = .ok (.goto (-71), 3) := by decide +kernel
theorem dX9_leaders_78 : decode cX9_leaders 78 = .ok (.iload_n 1, 1) := by decide +kernel
theorem dX9_leaders_79 : decode cX9_leaders 79 = .ok (.ifCond .le 21, 3) := by decide +kernel
theorem dX9_leaders_82 : decode cX9_leaders 82 = .ok (.aload_n 0, 1) := by decide +kernel
theorem dX9_leaders_83 : decode cX9_leaders 83 = .ok (.getfield 17, 3) := by decide +kernel
theorem dX9_leaders_86 : decode cX9_leaders 86 = .ok (.iconst 1, 1) := by decide +kernel
theorem dX9_leaders_87 : decode cX9_leaders 87 = .ok (.isub, 1) := by decide +kernel
theorem dX9_leaders_88 : decode cX9_leaders 88 = .ok (.iconst 2, 1) := by decide +kernel
theorem dX9_leaders_89 : decode cX9_leaders 89 = .ok (.iload_n 1, 1) := by decide +kernel
theorem dX9_leaders_90 : decode cX9_leaders 90 = .ok (.iconst 1, 1) := by decide +kernel
theorem dX9_leaders_91 : decode cX9_leaders 91 = .ok (.isub, 1) := by decide +kernel
theorem dX9_leaders_92 : decode cX9_leaders 92 = .ok (.imul, 1) := by decide +kernel
theorem dX9_leaders_93 : decode cX9_leaders 93 = .ok (.isub, 1) := by decide +kernel
theorem dX9_leaders_94 : decode cX9_leaders 94 = .ok (.ifCond .ge 6, 3) := by decide +kernel
theorem dX9_leaders_97 : decode cX9_leaders 97 = .ok (.bipush (-3), 2) := by decide +kernel
theorem dX9_leaders_99 : decode cX9_leaders 99 = .ok (.ireturn, 1) := by decide +kernel
theorem dX9_leaders_100 : decode cX9_leaders 100 = .ok (.aload_n 0, 1) := by decide +kernel
theorem dX9_leaders_101 : decode cX9_leaders 101 = .ok (.iload_n 1, 1) := by decide +kernel
theorem dX9_leaders_102 : decode cX9_leaders 102 = .ok (.putfield 182, 3) := by decide +kernel
theorem dX9_leaders_105 : decode cX9_leaders 105 = .ok (.iconst 0, 1) := by decide +kernel
theorem dX9_leaders_106 : decode cX9_leaders 106 = .ok (.istore_n 2, 1) := by decide +kernel
theorem dX9_leaders_107 : decode cX9_leaders 107 = .ok (.iload_n 2, 1) := by decide +kernel
theorem dX9_leaders_108 : decode cX9_leaders 108 = .ok (.iload_n 1, 1) := by decide +kernel
theorem dX9_leaders_109 : decode cX9_leaders 109 = .ok (.if_icmp .ge 177, 3) := by decide +kernel
theorem dX9_leaders_112 : decode cX9_leaders 112 = .ok (.aload_n 0, 1) := by decide +kernel
theorem dX9_leaders_113 : decode cX9_leaders 113 = .ok (.getfield 36, 3) := by decide +kernel
theorem dX9_leaders_116 : decode cX9_leaders 116 = .ok (.iload_n 2, 1) := by decide +kernel
theorem dX9_leaders_117 : decode cX9_leaders 117 = .ok (.iaload, 1) := by decide +kernel
theorem dX9_leaders_118 : decode cX9_leaders 118 = .ok (.istore_n 3, 1) := by decide +kernel
theorem dX9_leaders_119 : decode cX9_leaders 119 = .ok (.aload_n 0, 1) := by decide +kernel
theorem dX9_leaders_120 : decode cX9_leaders 120 = .ok (.getfield 58, 3) := by decide +kernel
theorem dX9_leaders_123 : decode cX9_leaders 123 = .ok (.aload_n 0, 1) := by decide +kernel
theorem dX9_leaders_124 : decode cX9_leaders 124 = .ok (.getfield 17, 3) := by decide +kernel
theorem dX9_leaders_127 : decode cX9_leaders 127 = .ok (.iadd, 1) := by decide +kernel
theorem dX9_leaders_128 : decode cX9_leaders 128 = .ok (.iconst 1, 1) := by decide +kernel
theorem dX9_leaders_129 : decode cX9_leaders 129 = .ok (.isub, 1) := by decide +kernel
theorem dX9_leaders_130 : decode cX9_leaders 130 = .ok (.iconst 2, 1) := by decide +kernel
theorem dX9_leaders_131 : decode cX9_leaders 131 = .ok (.iload_n 2, 1) := by decide +kernel
theorem dX9_leaders_132 : decode cX9_leaders 132 = .ok (.imul, 1) := by decide +kernel
theorem dX9_leaders_133 : decode cX9_leaders 133 = .ok (.isub, 1) := by decide +kernel
theorem dX9_leaders_134 : decode cX9_leaders 134 = .ok (.istore 4, 2) := by decide +kernel
theorem dX9_leaders_136 : decode cX9_leaders 136 = .ok (.aload_n 0, 1) := by decide +kernel
theorem dX9_leaders_137 : decode cX9_leaders 137 = .ok (.getfield 55, 3) := by decide +kernel
theorem dX9_leaders_140 : decode cX9_leaders 140 = .ok (.aload_n 0, 1) := by decide +kernel
theorem dX9_leaders_141 : decode cX9_leaders 141 = .ok (.getfield 13, 3) := by decide +kernel
theorem dX9_leaders_144 : decode cX9_leaders 144 = .ok (.iadd, 1) := by decide +kernel
theorem dX9_leaders_145 : decode cX9_leaders 145 = .ok (.iload_n 1, 1) := by decide +kernel
theorem dX9_leaders_146 : decode cX9_leaders 146 = .ok (.iadd, 1) := by decide +kernel
theorem dX9_leaders_147 : decode cX9_leaders 147 = .ok (.istore 5, 2) := by decide +kernel
theorem dX9_leaders_149 : decode cX9_leaders 149 = .ok (.iload 4, 2) := by decide +kernel
theorem dX9_leaders_151 : decode cX9_leaders 151 = .ok (.aload_n 0, 1) := by decide +kernel
theorem dX9_leaders_152 : decode cX9_leaders 152 = .ok (.getfield 7, 3) := by decide +kernel
theorem dX9_leaders_155 : decode cX9_leaders 155 = .ok (.bipush 20, 2) := by decide +kernel
theorem dX9_leaders_157 : decode cX9_leaders 157 = .ok (.iload_n 3, 1) := by decide +kernel
theorem dX9_leaders_158 : decode cX9_leaders 158 = .ok (.iadd, 1) := by decide +kernel
theorem dX9_leaders_159 : decode cX9_leaders 159 = .ok (.iaload, 1) := by decide +kernel
theorem dX9_leaders_160 : decode cX9_leaders 160 = .ok (.if_icmp .le 18, 3) := by decide +kernel
theorem dX9_leaders_163 : decode cX9_leaders 163 = .ok (.iload 4, 2) := by decide +kernel
theorem dX9_leaders_165 : decode cX9_leaders 165 = .ok (.aload_n 0, 1) := by decide +kernel
theorem dX9_leaders_166 : decode cX9_leaders 166 = .ok (.getfield 7, 3) := by decide +kernel
theorem dX9_leaders_169 : decode cX9_leaders 169 = .ok (.bipush 20, 2) := by decide +kernel
theorem dX9_leaders_171 : decode cX9_leaders 171 = .ok (.iload_n 3, 1) := by decide +kernel
theorem dX9_leaders_172 : decode cX9_leaders 172 = .ok (.iadd, 1) := by decide +kernel
theorem dX9_leaders_173 : decode cX9_leaders 173 = .ok (.iaload, 1) := by decide +kernel
theorem dX9_leaders_174 : decode cX9_leaders 174 = .ok (.isub, 1) := by decide +kernel
theorem dX9_leaders_175 : decode cX9_leaders 175 = .ok (.goto 15, 3) := by decide +kernel
theorem dX9_leaders_178 : decode cX9_leaders 178 = .ok (.aload_n 0, 1) := by decide +kernel
theorem dX9_leaders_179 : decode cX9_leaders 179 = .ok (.getfield 7, 3) := by decide +kernel
theorem dX9_leaders_182 : decode cX9_leaders 182 = .ok (.bipush 20, 2) := by decide +kernel
theorem dX9_leaders_184 : decode cX9_leaders 184 = .ok (.iload_n 3, 1) := by decide +kernel
theorem dX9_leaders_185 : decode cX9_leaders 185 = .ok (.iadd, 1) := by decide +kernel
theorem dX9_leaders_186 : decode cX9_leaders 186 = .ok (.iaload, 1) := by decide +kernel
theorem dX9_leaders_187 : decode cX9_leaders 187 = .ok (.iload 4, 2) := by decide +kernel
theorem dX9_leaders_189 : decode cX9_leaders 189 = .ok (.isub, 1) := by decide +kernel
theorem dX9_leaders_190 : decode cX9_leaders 190 = .ok (.istore 6, 2) := by decide +kernel
theorem dX9_leaders_192 : decode cX9_leaders 192 = .ok (.aload_n 0, 1) := by decide +kernel
theorem dX9_leaders_193 : decode cX9_leaders 193 = .ok (.getfield 33, 3) := by decide +kernel
theorem dX9_leaders_196 : decode cX9_leaders 196 = .ok (.iconst 4, 1) := by decide +kernel
theorem dX9_leaders_197 : decode cX9_leaders 197 = .ok (.iload_n 2, 1) := by decide +kernel
theorem dX9_leaders_198 : decode cX9_leaders 198 = .ok (.imul, 1) := by decide +kernel
theorem dX9_leaders_199 : decode cX9_leaders 199 = .ok (.iload_n 3, 1) := by decide +kernel
theorem dX9_leaders_200 : decode cX9_leaders 200 = .ok (.iastore, 1) := by decide +kernel
theorem dX9_leaders_201 : decode cX9_leaders 201 = .ok (.aload_n 0, 1) := by decide +kernel
theorem dX9_leaders_202 : decode cX9_leaders 202 = .ok (.getfield 33, 3) := by decide +kernel
theorem dX9_leaders_205 : decode cX9_leaders 205 = .ok (.iconst 4, 1) := by decide +kernel
theorem dX9_leaders_206 : decode cX9_leaders 206 = .ok (.iload_n 2, 1) := by decide +kernel
theorem dX9_leaders_207 : decode cX9_leaders 207 = .ok (.imul, 1) := by decide +kernel
theorem dX9_leaders_208 : decode cX9_leaders 208 = .ok (.iconst 1, 1) := by decide +kernel
theorem dX9_leaders_209 : decode cX9_leaders 209 = .ok (.iadd, 1) := by decide +kernel
theorem dX9_leaders_210 : decode cX9_leaders 210 = .ok (.iload 4, 2) := by decide +kernel
theorem dX9_leaders_212 : decode cX9_leaders 212 = .ok (.iastore, 1) := by decide +kernel
theorem dX9_leaders_213 : decode cX9_leaders 213 = .ok (.aload_n 0, 1) := by decide +kernel
theorem dX9_leaders_214 : decode cX9_leaders 214 = .ok (.getfield 33, 3) := by decide +kernel
theorem dX9_leaders_217 : decode cX9_leaders 217 = .ok (.iconst 4, 1) := by decide +kernel
theorem dX9_leaders_218 : decode cX9_leaders 218 = .ok (.iload_n 2, 1) := by decide +kernel
theorem dX9_leaders_219 : decode cX9_leaders 219 = .ok (.imul, 1) := by decide +kernel
theorem dX9_leaders_220 : decode cX9_leaders 220 = .ok (.iconst 2, 1) := by decide +kernel
theorem dX9_leaders_221 : decode cX9_leaders 221 = .ok (.iadd, 1) := by decide +kernel
theorem dX9_leaders_222 : decode cX9_leaders 222 = .ok (.aload_n 0, 1) := by decide +kernel
theorem dX9_leaders_223 : decode cX9_leaders 223 = .ok (.getfield 55, 3) := by decide +kernel
theorem dX9_leaders_226 : decode cX9_leaders 226 = .ok (.aload_n 0, 1) := by decide +kernel
theorem dX9_leaders_227 : decode cX9_leaders 227 = .ok (.getfield 13, 3) := by decide +kernel
theorem dX9_leaders_230 : decode cX9_leaders 230 = .ok (.iadd, 1) := by decide +kernel
theorem dX9_leaders_231 : decode cX9_leaders 231 = .ok (.iload 4, 2) := by decide +kernel
theorem dX9_leaders_233 : decode cX9_leaders 233 = .ok (.aload_n 0, 1) := by decide +kernel
theorem dX9_leaders_234 : decode cX9_leaders 234 = .ok (.getfield 7, 3) := by decide +kernel
theorem dX9_leaders_237 : decode cX9_leaders 237 = .ok (.bipush 20, 2) := by decide +kernel
theorem dX9_leaders_239 : decode cX9_leaders 239 = .ok (.iload_n 3, 1) := by decide +kernel
theorem dX9_leaders_240 : decode cX9_leaders 240 = .ok (.iadd, 1) := by decide +kernel
theorem dX9_leaders_241 : decode cX9_leaders 241 = .ok (.iaload, 1) := by decide +kernel
theorem dX9_leaders_242 : decode cX9_leaders 242 = .ok (.if_icmp .le 7, 3) := by decide +kernel
theorem dX9_leaders_245 : decode cX9_leaders 245 = .ok (.iload_n 2, 1) := by decide +kernel
theorem dX9_leaders_246 : decode cX9_leaders 246 = .ok (.goto 8, 3) := by decide +kernel
theorem dX9_leaders_249 : decode cX9_leaders 249 = .ok (.iload_n 1, 1) := by decide +kernel
theorem dX9_leaders_250 : decode cX9_leaders 250 = .ok (.iconst 1, 1) := by decide +kernel
theorem dX9_leaders_251 : decode cX9_leaders 251 = .ok (.isub, 1) := by decide +kernel
theorem dX9_leaders_252 : decode cX9_leaders 252 = .ok (.iload_n 2, 1) := by decide +kernel
theorem dX9_leaders_253 : decode cX9_leaders 253 = .ok (.isub, 1) := by decide +kernel
theorem dX9_leaders_254 : decode cX9_leaders 254 = .ok (.iadd, 1) := by decide +kernel
theorem dX9_leaders_255 : decode cX9_leaders 255 = .ok (.iastore, 1) := by decide +kernel
theorem dX9_leaders_256 : decode cX9_leaders 256 = .ok (.aload_n 0, 1) := by decide +kernel
theorem dX9_leaders_257 : decode cX9_leaders 257 = .ok (.getfield 33, 3) := by decide +kernel
theorem dX9_leaders_260 : decode cX9_leaders 260 = .ok (.iconst 4, 1) := by decide +kernel
theorem dX9_leaders_261 : decode cX9_leaders 261 = .ok (.iload_n 2, 1) := by decide +kernel
theorem dX9_leaders_262 : decode cX9_leaders 262 = .ok (.imul, 1) := by decide +kernel
theorem dX9_leaders_263 : decode cX9_leaders 263 = .ok (.iconst 3, 1) := by decide +kernel
theorem dX9_leaders_264 : decode cX9_leaders 264 = .ok (.iadd, 1) := by decide +kernel
theorem dX9_leaders_265 : decode cX9_leaders 265 = .ok (.iload 5, 2) := by decide +kernel
theorem dX9_leaders_267 : decode cX9_leaders 267 = .ok (.aload_n 0, 1) := by decide +kernel
theorem dX9_leaders_268 : decode cX9_leaders 268 = .ok (.getfield 7, 3) := by decide +kernel
theorem dX9_leaders_271 : decode cX9_leaders 271 = .ok (.iconst 0, 1) := by decide +kernel
theorem dX9_leaders_272 : decode cX9_leaders 272 = .ok (.iload_n 3, 1) := by decide +kernel
theorem dX9_leaders_273 : decode cX9_leaders 273 = .ok (.iadd, 1) := by decide +kernel
theorem dX9_leaders_274 : decode cX9_leaders 274 = .ok (.iaload, 1) := by decide +kernel
theorem dX9_leaders_275 : decode cX9_leaders 275 = .ok (.isub, 1) := by decide +kernel
theorem dX9_leaders_276 : decode cX9_leaders 276 = .ok (.iload 6, 2) := by decide +kernel
theorem dX9_leaders_278 : decode cX9_leaders 278 = .ok (.iadd, 1) := by decide +kernel
theorem dX9_leaders_279 : decode cX9_leaders 279 = .ok (.iastore, 1) := by decide +kernel
theorem dX9_leaders_280 : decode cX9_leaders 280 = .ok (.iinc 2 1, 3) := by decide +kernel
theorem dX9_leaders_283 : decode cX9_leaders 283 = .ok (.goto (-176), 3) := by decide +kernel
theorem dX9_leaders_286 : decode cX9_leaders 286 = .ok (.iload_n 1, 1) := by decide +kernel
theorem dX9_leaders_287 : decode cX9_leaders 287 = .ok (.ireturn, 1) := by decide +kernel
theorem dX9_leader_0 : decode cX9_leader 0 = .ok (.iload_n 1, 1) := by decide +kernel
theorem dX9_leader_1 : decode cX9_leader 1 = .ok (.ifCond .lt 15, 3) := by decide +kernel
theorem dX9_leader_4 : decode cX9_leader 4 = .ok (.iload_n 2, 1) := by decide +kernel
theorem dX9_leader_5 : decode cX9_leader 5 = .ok (.i2l, 1) := by decide +kernel
theorem dX9_leader_6 : decode cX9_leader 6 = .ok (.lconst 0, 1) := by decide +kernel
theorem dX9_leader_7 : decode cX9_leader 7 = .ok (.ldc2_w 185, 3) := by decide +kernel
theorem dX9_leader_10 : decode cX9_leader 10 = .ok (.invokestatic 51, 3) := by decide +kernel
theorem dX9_leader_13 : decode cX9_leader 13 = .ok (.ifCond .ne 6, 3) := by decide +kernel
theorem dX9_leader_16 : decode cX9_leader 16 = .ok (.bipush (-2), 2) := by decide +kernel
theorem dX9_leader_18 : decode cX9_leader 18 = .ok (.ireturn, 1) := by decide +kernel
theorem dX9_leader_19 : decode cX9_leader 19 = .ok (.iload_n 1, 1) := by decide +kernel
theorem dX9_leader_20 : decode cX9_leader 20 = .ok (.aload_n 0, 1) := by decide +kernel
theorem dX9_leader_21 : decode cX9_leader 21 = .ok (.getfield 182, 3) := by decide +kernel
theorem dX9_leader_24 : decode cX9_leader 24 = .ok (.if_icmp .ge 16, 3) := by decide +kernel
theorem dX9_leader_27 : decode cX9_leader 27 = .ok (.aload_n 0, 1) := by decide +kernel
theorem dX9_leader_28 : decode cX9_leader 28 = .ok (.getfield 33, 3) := by decide +kernel
theorem dX9_leader_31 : decode cX9_leader 31 = .ok (.iconst 4, 1) := by decide +kernel
theorem dX9_leader_32 : decode cX9_leader 32 = .ok (.iload_n 1, 1) := by decide +kernel
theorem dX9_leader_33 : decode cX9_leader 33 = .ok (.imul, 1) := by decide +kernel
theorem dX9_leader_34 : decode cX9_leader 34 = .ok (.iload_n 2, 1) := by decide +kernel
theorem dX9_leader_35 : decode cX9_leader 35 = .ok (.iadd, 1) := by decide +kernel
theorem dX9_leader_36 : decode cX9_leader 36 = .ok (.iaload, 1) := by decide +kernel
theorem dX9_leader_37 : decode cX9_leader 37 = .ok (.goto 4, 3) := by decide +kernel
theorem dX9_leader_40 : decode cX9_leader 40 = .ok (.iconst (-1), 1) := by decide +kernel
theorem dX9_leader_41 : decode cX9_leader 41 = .ok (.ireturn, 1) := by decide +kernel
theorem dX9_type_0 : decode cX9_type 0 = .ok (.iload_n 1, 1) := by decide +kernel
theorem dX9_type_1 : decode cX9_type 1 = .ok (.i2l, 1) := by decide +kernel
theorem dX9_type_2 : decode cX9_type 2 = .ok (.lconst 0, 1) := by decide +kernel
theorem dX9_type_3 : decode cX9_type 3 = .ok (.ldc2_w 187, 3) := by decide +kernel
theorem dX9_type_6 : decode cX9_type 6 = .ok (.invokestatic 51, 3) := by decide +kernel
theorem dX9_type_9 : decode cX9_type 9 = .ok (.ifCond .ne 6, 3) := by decide +kernel
theorem dX9_type_12 : decode cX9_type 12 = .ok (.bipush (-2), 2) := by decide +kernel
theorem dX9_type_14 : decode cX9_type 14 = .ok (.ireturn, 1) := by decide +kernel
theorem dX9_type_15 : decode cX9_type 15 = .ok (.aload_n 0, 1) := by decide +kernel
theorem dX9_type_16 : decode cX9_type 16 = .ok (.getfield 189, 3) := by decide +kernel
theorem dX9_type_19 : decode cX9_type 19 = .ok (.bipush 80, 2) := by decide +kernel
theorem dX9_type_21 : decode cX9_type 21 = .ok (.if_icmp .ne 6, 3) := by decide +kernel
theorem dX9_type_24 : decode cX9_type 24 = .ok (.bipush (-4), 2) := by decide +kernel
theorem dX9_type_26 : decode cX9_type 26 = .ok (.ireturn, 1) := by decide +kernel
theorem dX9_type_27 : decode cX9_type 27 = .ok (.aload_n 0, 1) := by decide +kernel
theorem dX9_type_28 : decode cX9_type 28 = .ok (.getfield 39, 3) := by decide +kernel
theorem dX9_type_31 : decode cX9_type 31 = .ok (.aload_n 0, 1) := by decide +kernel
theorem dX9_type_32 : decode cX9_type 32 = .ok (.getfield 189, 3) := by decide +kernel
theorem dX9_type_35 : decode cX9_type 35 = .ok (.iload_n 1, 1) := by decide +kernel
theorem dX9_type_36 : decode cX9_type 36 = .ok (.iastore, 1) := by decide +kernel
theorem dX9_type_37 : decode cX9_type 37 = .ok (.aload_n 0, 1) := by decide +kernel
theorem dX9_type_38 : decode cX9_type 38 = .ok (.dup, 1) := by decide +kernel
theorem dX9_type_39 : decode cX9_type 39 = .ok (.getfield 189, 3) := by decide +kernel
theorem dX9_type_42 : decode cX9_type 42 = .ok (.iconst 1, 1) := by decide +kernel
theorem dX9_type_43 : decode cX9_type 43 = .ok (.iadd, 1) := by decide +kernel
theorem dX9_type_44 : decode cX9_type 44 = .ok (.putfield 189, 3) := by decide +kernel
theorem dX9_type_47 : decode cX9_type 47 = .ok (.aload_n 0, 1) := by decide +kernel
theorem dX9_type_48 : decode cX9_type 48 = .ok (.getfield 189, 3) := by decide +kernel
theorem dX9_type_51 : decode cX9_type 51 = .ok (.ireturn, 1) := by decide +kernel
theorem dX9_clear_0 : decode cX9_clear 0 = .ok (.aload_n 0, 1) := by decide +kernel
theorem dX9_clear_1 : decode cX9_clear 1 = .ok (.getfield 189, 3) := by decide +kernel
theorem dX9_clear_4 : decode cX9_clear 4 = .ok (.istore_n 1, 1) := by decide +kernel
theorem dX9_clear_5 : decode cX9_clear 5 = .ok (.aload_n 0, 1) := by decide +kernel
theorem dX9_clear_6 : decode cX9_clear 6 = .ok (.iconst 0, 1) := by decide +kernel
theorem dX9_clear_7 : decode cX9_clear 7 = .ok (.putfield 189, 3) := by decide +kernel
theorem dX9_clear_10 : decode cX9_clear 10 = .ok (.iload_n 1, 1) := by decide +kernel
theorem dX9_clear_11 : decode cX9_clear 11 = .ok (.ireturn, 1) := by decide +kernel
theorem dX9_next_0 : decode cX9_next 0 = .ok (.aload_n 0, 1) := by decide +kernel
theorem dX9_next_1 : decode cX9_next 1 = .ok (.getfield 192, 3) := by decide +kernel
theorem dX9_next_4 : decode cX9_next 4 = .ok (.aload_n 0, 1) := by decide +kernel
theorem dX9_next_5 : decode cX9_next 5 = .ok (.getfield 189, 3) := by decide +kernel
theorem dX9_next_8 : decode cX9_next 8 = .ok (.if_icmp .ge 15, 3) := by decide +kernel
theorem dX9_next_11 : decode cX9_next 11 = .ok (.aload_n 0, 1) := by decide +kernel
theorem dX9_next_12 : decode cX9_next 12 = .ok (.getfield 39, 3) := by decide +kernel
theorem dX9_next_15 : decode cX9_next 15 = .ok (.aload_n 0, 1) := by decide +kernel
theorem dX9_next_16 : decode cX9_next 16 = .ok (.getfield 192, 3) := by decide +kernel
theorem dX9_next_19 : decode cX9_next 19 = .ok (.iaload, 1) := by decide +kernel
theorem dX9_next_20 : decode cX9_next 20 = .ok (.goto 4, 3) := by decide +kernel
theorem dX9_next_23 : decode cX9_next 23 = .ok (.iconst (-1), 1) := by decide +kernel
theorem dX9_next_24 : decode cX9_next 24 = .ok (.ireturn, 1) := by decide +kernel
theorem dX9_skips_0 : decode cX9_skips 0 = .ok (.aload_n 0, 1) := by decide +kernel
theorem dX9_skips_1 : decode cX9_skips 1 = .ok (.invokevirtual 195, 3) := by decide +kernel
theorem dX9_skips_4 : decode cX9_skips 4 = .ok (.bipush 32, 2) := by decide +kernel
theorem dX9_skips_6 : decode cX9_skips 6 = .ok (.if_icmp .ne 16, 3) := by decide +kernel
theorem dX9_skips_9 : decode cX9_skips 9 = .ok (.aload_n 0, 1) := by decide +kernel
theorem dX9_skips_10 : decode cX9_skips 10 = .ok (.dup, 1) := by decide +kernel
theorem dX9_skips_11 : decode cX9_skips 11 = .ok (.getfield 192, 3) := by decide +kernel
theorem dX9_skips_14 : decode cX9_skips 14 = .ok (.iconst 1, 1) := by decide +kernel
theorem dX9_skips_15 : decode cX9_skips 15 = .ok (.iadd, 1) := by decide +kernel
theorem dX9_skips_16 : decode cX9_skips 16 = .ok (.putfield 192, 3) := by decide +kernel
theorem dX9_skips_19 : decode cX9_skips 19 = .ok (.goto (-19), 3) := by decide +kernel
theorem dX9_skips_22 : decode cX9_skips 22 = .ok (.return_, 1) := by decide +kernel
theorem dX9_fails_0 : decode cX9_fails 0 = .ok (.aload_n 0, 1) := by decide +kernel
theorem dX9_fails_1 : decode cX9_fails 1 = .ok (.aload_n 0, 1) := by decide +kernel
theorem dX9_fails_2 : decode cX9_fails 2 = .ok (.getfield 198, 3) := by decide +kernel
theorem dX9_fails_5 : decode cX9_fails 5 = .ok (.iconst (-1), 1) := by decide +kernel
theorem dX9_fails_6 : decode cX9_fails 6 = .ok (.if_icmp .ne 7, 3) := by decide +kernel
theorem dX9_fails_9 : decode cX9_fails 9 = .ok (.iload_n 1, 1) := by decide +kernel
theorem dX9_fails_10 : decode cX9_fails 10 = .ok (.goto 7, 3) := by decide +kernel
theorem dX9_fails_13 : decode cX9_fails 13 = .ok (.aload_n 0, 1) := by decide +kernel
theorem dX9_fails_14 : decode cX9_fails 14 = .ok (.getfield 198, 3) := by decide +kernel
theorem dX9_fails_17 : decode cX9_fails 17 = .ok (.putfield 198, 3) := by decide +kernel
theorem dX9_fails_20 : decode cX9_fails 20 = .ok (.return_, 1) := by decide +kernel
theorem dX9_readsWord_0 : decode cX9_readsWord 0 = .ok (.aload_n 0, 1) := by decide +kernel
theorem dX9_readsWord_1 : decode cX9_readsWord 1 = .ok (.iconst 0, 1) := by decide +kernel
theorem dX9_readsWord_2 : decode cX9_readsWord 2 = .ok (.putfield 201, 3) := by decide +kernel
theorem dX9_readsWord_5 : decode cX9_readsWord 5 = .ok (.aload_n 0, 1) := by decide +kernel
theorem dX9_readsWord_6 : decode cX9_readsWord 6 = .ok (.invokevirtual 195, 3) := by decide +kernel
theorem dX9_readsWord_9 : decode cX9_readsWord 9 = .ok (.i2l, 1) := by decide +kernel
theorem dX9_readsWord_10 : decode cX9_readsWord 10 = .ok (.ldc2_w 204, 3) := by decide +kernel
theorem dX9_readsWord_13 : decode cX9_readsWord 13 = .ok (.ldc2_w 206, 3) := by decide +kernel
theorem dX9_readsWord_16 : decode cX9_readsWord 16 = .ok (.invokestatic 51, 3) := by decide +kernel
theorem dX9_readsWord_19 : decode cX9_readsWord 19 = .ok (.ifCond .eq 39, 3) := by decide +kernel
theorem dX9_readsWord_22 : decode cX9_readsWord 22 = .ok (.aload_n 0, 1) := by decide +kernel
theorem dX9_readsWord_23 : decode cX9_readsWord 23 = .ok (.getfield 42, 3) := by decide +kernel
theorem dX9_readsWord_26 : decode cX9_readsWord 26 = .ok (.aload_n 0, 1) := by decide +kernel
theorem dX9_readsWord_27 : decode cX9_readsWord 27 = .ok (.getfield 201, 3) := by decide +kernel
theorem dX9_readsWord_30 : decode cX9_readsWord 30 = .ok (.aload_n 0, 1) := by decide +kernel
theorem dX9_readsWord_31 : decode cX9_readsWord 31 = .ok (.invokevirtual 195, 3) := by decide +kernel
theorem dX9_readsWord_34 : decode cX9_readsWord 34 = .ok (.iastore, 1) := by decide +kernel
theorem dX9_readsWord_35 : decode cX9_readsWord 35 = .ok (.aload_n 0, 1) := by decide +kernel
theorem dX9_readsWord_36 : decode cX9_readsWord 36 = .ok (.dup, 1) := by decide +kernel
theorem dX9_readsWord_37 : decode cX9_readsWord 37 = .ok (.getfield 201, 3) := by decide +kernel
theorem dX9_readsWord_40 : decode cX9_readsWord 40 = .ok (.iconst 1, 1) := by decide +kernel
theorem dX9_readsWord_41 : decode cX9_readsWord 41 = .ok (.iadd, 1) := by decide +kernel
theorem dX9_readsWord_42 : decode cX9_readsWord 42 = .ok (.putfield 201, 3) := by decide +kernel
theorem dX9_readsWord_45 : decode cX9_readsWord 45 = .ok (.aload_n 0, 1) := by decide +kernel
theorem dX9_readsWord_46 : decode cX9_readsWord 46 = .ok (.dup, 1) := by decide +kernel
theorem dX9_readsWord_47 : decode cX9_readsWord 47 = .ok (.getfield 192, 3) := by decide +kernel
theorem dX9_readsWord_50 : decode cX9_readsWord 50 = .ok (.iconst 1, 1) := by decide +kernel
theorem dX9_readsWord_51 : decode cX9_readsWord 51 = .ok (.iadd, 1) := by decide +kernel
theorem dX9_readsWord_52 : decode cX9_readsWord 52 = .ok (.putfield 192, 3) := by decide +kernel
theorem dX9_readsWord_55 : decode cX9_readsWord 55 = .ok (.goto (-50), 3) := by decide +kernel
theorem dX9_readsWord_58 : decode cX9_readsWord 58 = .ok (.return_, 1) := by decide +kernel
theorem dX9_isWord_0 : decode cX9_isWord 0 = .ok (.iload 7, 2) := by decide +kernel
theorem dX9_isWord_2 : decode cX9_isWord 2 = .ok (.ifCond .le 8, 3) := by decide +kernel
theorem dX9_isWord_5 : decode cX9_isWord 5 = .ok (.bipush 7, 2) := by decide +kernel
theorem dX9_isWord_7 : decode cX9_isWord 7 = .ok (.goto 32, 3) := by decide +kernel
theorem dX9_isWord_10 : decode cX9_isWord 10 = .ok (.iload 6, 2) := by decide +kernel
theorem dX9_isWord_12 : decode cX9_isWord 12 = .ok (.ifCond .le 8, 3) := by decide +kernel
theorem dX9_isWord_15 : decode cX9_isWord 15 = .ok (.bipush 6, 2) := by decide +kernel
theorem dX9_isWord_17 : decode cX9_isWord 17 = .ok (.goto 22, 3) := by decide +kernel
theorem dX9_isWord_20 : decode cX9_isWord 20 = .ok (.iload 5, 2) := by decide +kernel
theorem dX9_isWord_22 : decode cX9_isWord 22 = .ok (.ifCond .le 7, 3) := by decide +kernel
theorem dX9_isWord_25 : decode cX9_isWord 25 = .ok (.iconst 5, 1) := by decide +kernel
theorem dX9_isWord_26 : decode cX9_isWord 26 = .ok (.goto 13, 3) := by decide +kernel
theorem dX9_isWord_29 : decode cX9_isWord 29 = .ok (.iload 4, 2) := by decide +kernel
theorem dX9_isWord_31 : decode cX9_isWord 31 = .ok (.ifCond .le 7, 3) := by decide +kernel
theorem dX9_isWord_34 : decode cX9_isWord 34 = .ok (.iconst 4, 1) := by decide +kernel
theorem dX9_isWord_35 : decode cX9_isWord 35 = .ok (.goto 4, 3) := by decide +kernel
theorem dX9_isWord_38 : decode cX9_isWord 38 = .ok (.iconst 3, 1) := by decide +kernel
theorem dX9_isWord_39 : decode cX9_isWord 39 = .ok (.istore 8, 2) := by decide +kernel
theorem dX9_isWord_41 : decode cX9_isWord 41 = .ok (.aload_n 0, 1) := by decide +kernel
theorem dX9_isWord_42 : decode cX9_isWord 42 = .ok (.getfield 201, 3) := by decide +kernel
theorem dX9_isWord_45 : decode cX9_isWord 45 = .ok (.iload 8, 2) := by decide +kernel
theorem dX9_isWord_47 : decode cX9_isWord 47 = .ok (.if_icmp .ne 37, 3) := by decide +kernel
theorem dX9_isWord_50 : decode cX9_isWord 50 = .ok (.aload_n 0, 1) := by decide +kernel
theorem dX9_isWord_51 : decode cX9_isWord 51 = .ok (.getfield 42, 3) := by decide +kernel
theorem dX9_isWord_54 : decode cX9_isWord 54 = .ok (.iconst 0, 1) := by decide +kernel
theorem dX9_isWord_55 : decode cX9_isWord 55 = .ok (.iaload, 1) := by decide +kernel
theorem dX9_isWord_56 : decode cX9_isWord 56 = .ok (.iload_n 1, 1) := by decide +kernel
theorem dX9_isWord_57 : decode cX9_isWord 57 = .ok (.if_icmp .ne 27, 3) := by decide +kernel
theorem dX9_isWord_60 : decode cX9_isWord 60 = .ok (.aload_n 0, 1) := by decide +kernel
theorem dX9_isWord_61 : decode cX9_isWord 61 = .ok (.getfield 42, 3) := by decide +kernel
theorem dX9_isWord_64 : decode cX9_isWord 64 = .ok (.iconst 1, 1) := by decide +kernel
theorem dX9_isWord_65 : decode cX9_isWord 65 = .ok (.iaload, 1) := by decide +kernel
theorem dX9_isWord_66 : decode cX9_isWord 66 = .ok (.iload_n 2, 1) := by decide +kernel
theorem dX9_isWord_67 : decode cX9_isWord 67 = .ok (.if_icmp .ne 17, 3) := by decide +kernel
theorem dX9_isWord_70 : decode cX9_isWord 70 = .ok (.aload_n 0, 1) := by decide +kernel
theorem dX9_isWord_71 : decode cX9_isWord 71 = .ok (.getfield 42, 3) := by decide +kernel
theorem dX9_isWord_74 : decode cX9_isWord 74 = .ok (.iconst 2, 1) := by decide +kernel
theorem dX9_isWord_75 : decode cX9_isWord 75 = .ok (.iaload, 1) := by decide +kernel
theorem dX9_isWord_76 : decode cX9_isWord 76 = .ok (.iload_n 3, 1) := by decide +kernel
theorem dX9_isWord_77 : decode cX9_isWord 77 = .ok (.if_icmp .ne 7, 3) := by decide +kernel
theorem dX9_isWord_80 : decode cX9_isWord 80 = .ok (.iconst 1, 1) := by decide +kernel
theorem dX9_isWord_81 : decode cX9_isWord 81 = .ok (.goto 4, 3) := by decide +kernel
theorem dX9_isWord_84 : decode cX9_isWord 84 = .ok (.iconst 0, 1) := by decide +kernel
theorem dX9_isWord_85 : decode cX9_isWord 85 = .ok (.istore 9, 2) := by decide +kernel
theorem dX9_isWord_87 : decode cX9_isWord 87 = .ok (.iload 9, 2) := by decide +kernel
theorem dX9_isWord_89 : decode cX9_isWord 89 = .ok (.ifCond .eq 41, 3) := by decide +kernel
theorem dX9_isWord_92 : decode cX9_isWord 92 = .ok (.iload 8, 2) := by decide +kernel
theorem dX9_isWord_94 : decode cX9_isWord 94 = .ok (.iconst 4, 1) := by decide +kernel
theorem dX9_isWord_95 : decode cX9_isWord 95 = .ok (.if_icmp .lt 14, 3) := by decide +kernel
theorem dX9_isWord_98 : decode cX9_isWord 98 = .ok (.aload_n 0, 1) := by decide +kernel
theorem dX9_isWord_99 : decode cX9_isWord 99 = .ok (.getfield 42, 3) := by decide +kernel
theorem dX9_isWord_102 : decode cX9_isWord 102 = .ok (.iconst 3, 1) := by decide +kernel
theorem dX9_isWord_103 : decode cX9_isWord 103 = .ok (.iaload, 1) := by decide +kernel
theorem dX9_isWord_104 : decode cX9_isWord 104 = .ok (.iload 4, 2) := by decide +kernel
theorem dX9_isWord_106 : decode cX9_isWord 106 = .ok (.if_icmp .ne 24, 3) := by decide +kernel
theorem dX9_isWord_109 : decode cX9_isWord 109 = .ok (.iload 8, 2) := by decide +kernel
theorem dX9_isWord_111 : decode cX9_isWord 111 = .ok (.iconst 5, 1) := by decide +kernel
theorem dX9_isWord_112 : decode cX9_isWord 112 = .ok (.if_icmp .lt 14, 3) := by decide +kernel
theorem dX9_isWord_115 : decode cX9_isWord 115 = .ok (.aload_n 0, 1) := by decide +kernel
theorem dX9_isWord_116 : decode cX9_isWord 116 = .ok (.getfield 42, 3) := by decide +kernel
theorem dX9_isWord_119 : decode cX9_isWord 119 = .ok (.iconst 4, 1) := by decide +kernel
theorem dX9_isWord_120 : decode cX9_isWord 120 = .ok (.iaload, 1) := by decide +kernel
theorem dX9_isWord_121 : decode cX9_isWord 121 = .ok (.iload 5, 2) := by decide +kernel
theorem dX9_isWord_123 : decode cX9_isWord 123 = .ok (.if_icmp .ne 7, 3) := by decide +kernel
theorem dX9_isWord_126 : decode cX9_isWord 126 = .ok (.iconst 1, 1) := by decide +kernel
theorem dX9_isWord_127 : decode cX9_isWord 127 = .ok (.goto 4, 3) := by decide +kernel
theorem dX9_isWord_130 : decode cX9_isWord 130 = .ok (.iconst 0, 1) := by decide +kernel
theorem dX9_isWord_131 : decode cX9_isWord 131 = .ok (.istore 9, 2) := by decide +kernel
theorem dX9_isWord_133 : decode cX9_isWord 133 = .ok (.iload 9, 2) := by decide +kernel
theorem dX9_isWord_135 : decode cX9_isWord 135 = .ok (.ifCond .eq 44, 3) := by decide +kernel
theorem dX9_isWord_138 : decode cX9_isWord 138 = .ok (.iload 8, 2) := by decide +kernel
theorem dX9_isWord_140 : decode cX9_isWord 140 = .ok (.bipush 6, 2) := by decide +kernel
theorem dX9_isWord_142 : decode cX9_isWord 142 = .ok (.if_icmp .lt 14, 3) := by decide +kernel
theorem dX9_isWord_145 : decode cX9_isWord 145 = .ok (.aload_n 0, 1) := by decide +kernel
theorem dX9_isWord_146 : decode cX9_isWord 146 = .ok (.getfield 42, 3) := by decide +kernel
theorem dX9_isWord_149 : decode cX9_isWord 149 = .ok (.iconst 5, 1) := by decide +kernel
theorem dX9_isWord_150 : decode cX9_isWord 150 = .ok (.iaload, 1) := by decide +kernel
theorem dX9_isWord_151 : decode cX9_isWord 151 = .ok (.iload 6, 2) := by decide +kernel
theorem dX9_isWord_153 : decode cX9_isWord 153 = .ok (.if_icmp .ne 26, 3) := by decide +kernel
theorem dX9_isWord_156 : decode cX9_isWord 156 = .ok (.iload 8, 2) := by decide +kernel
theorem dX9_isWord_158 : decode cX9_isWord 158 = .ok (.bipush 7, 2) := by decide +kernel
theorem dX9_isWord_160 : decode cX9_isWord 160 = .ok (.if_icmp .lt 15, 3) := by decide +kernel
theorem dX9_isWord_163 : decode cX9_isWord 163 = .ok (.aload_n 0, 1) := by decide +kernel
theorem dX9_isWord_164 : decode cX9_isWord 164 = .ok (.getfield 42, 3) := by decide +kernel
theorem dX9_isWord_167 : decode cX9_isWord 167 = .ok (.bipush 6, 2) := by decide +kernel
theorem dX9_isWord_169 : decode cX9_isWord 169 = .ok (.iaload, 1) := by decide +kernel
theorem dX9_isWord_170 : decode cX9_isWord 170 = .ok (.iload 7, 2) := by decide +kernel
theorem dX9_isWord_172 : decode cX9_isWord 172 = .ok (.if_icmp .ne 7, 3) := by decide +kernel
theorem dX9_isWord_175 : decode cX9_isWord 175 = .ok (.iconst 1, 1) := by decide +kernel
theorem dX9_isWord_176 : decode cX9_isWord 176 = .ok (.goto 4, 3) := by decide +kernel
theorem dX9_isWord_179 : decode cX9_isWord 179 = .ok (.iconst 0, 1) := by decide +kernel
theorem dX9_isWord_180 : decode cX9_isWord 180 = .ok (.ireturn, 1) := by decide +kernel
set_option maxHeartbeats 4000000 in
set_option maxRecDepth 100000 in
theorem qM_sum_L4_ok {σ : QS} {x1 : Int32} : ∀ (n : Nat) (x2 : Int32) (x3 : Int32) (r : Int32), qM_sum_L4 σ x1 n x2 x3 = some r → qx_E (qx_gM l D ci a) 1 mX9_sum (some (.int r), σ) 4 [(0, .ref (a 0)), (1, .int x1), (2, .int x2), (3, .int x3)] [] σ := by
  intro n
  induction n with
  | zero =>
    intro x2 x3 r h
    exact (qx_none h).elim
  | succ n ih =>
    intro x2 x3 r h
    unfold qM_sum_L4 at h
    refine qx_iload_n (pc := 4) 3 dX9_sum_4 rfl ?_
    refine qx_iload_n (pc := 5) 1 dX9_sum_5 rfl ?_
    refine qx_icmp_ge (pc := 6) 47 h dX9_sum_6 (by decide) (fun h => ?_) (fun h => ?_)
    · refine qx_iload_n (pc := 47) 2 dX9_sum_47 rfl ?_
      exact qx_iret h rfl dX9_sum_48
    · refine qx_iload_n (pc := 9) 2 dX9_sum_9 rfl ?_
      refine qx_aload_n (pc := 10) 0 dX9_sum_10 rfl ?_
      refine qgM0_8 (pc := 11) qwf_X9_27 dX9_sum_11 ?_
      refine qx_iload_n (pc := 14) 3 dX9_sum_14 rfl ?_
      refine qlM4 (pc := 15) h dX9_sum_15 (fun h => ?_)
      refine qx_bipush (pc := 16) 8 dX9_sum_16 (by decide) ?_
      refine qx_icmp_ge (pc := 18) 38 h dX9_sum_18 (by decide) (fun h => ?_) (fun h => ?_)
      · refine qx_iconst (pc := 38) 0 dX9_sum_38 (by decide) ?_
        refine qx_iadd (pc := 39) dX9_sum_39 ?_
        refine qx_istore_n (pc := 40) (lv' := [(2, .int (x2 + 0)), (0, .ref (a 0)), (1, .int x1), (3, .int x3)]) dX9_sum_40 (Nat.le_of_ble_eq_true rfl) rfl ?_
        refine qx_iinc (pc := 41) (lv' := [(3, .int (x3 + 1)), (2, .int (x2 + 0)), (0, .ref (a 0)), (1, .int x1)]) 3 (x3 + 1) dX9_sum_41 rfl rfl (Nat.le_of_ble_eq_true rfl) rfl ?_
        refine qx_goto (pc := 44) 4 dX9_sum_44 (by decide) ?_
        exact qx_sub [2, 3, 1, 0] rfl (ih _ _ _ h)
      · refine qx_aload_n (pc := 21) 0 dX9_sum_21 rfl ?_
        refine qgM0_0 (pc := 22) qwf_X9_7 dX9_sum_22 ?_
        refine qx_bipush (pc := 25) 80 dX9_sum_25 (by decide) ?_
        refine qx_aload_n (pc := 27) 0 dX9_sum_27 rfl ?_
        refine qgM0_9 (pc := 28) qwf_X9_30 dX9_sum_28 ?_
        refine qx_iload_n (pc := 31) 3 dX9_sum_31 rfl ?_
        refine qlM5 (pc := 32) h dX9_sum_32 (fun h => ?_)
        refine qx_iadd (pc := 33) dX9_sum_33 ?_
        refine qlM1 (pc := 34) h dX9_sum_34 (fun h => ?_)
        refine qx_goto (pc := 35) 39 dX9_sum_35 (by decide) ?_
        refine qx_iadd (pc := 39) dX9_sum_39 ?_
        refine qx_istore_n (pc := 40) (lv' := [(2, .int (x2 + (σ.1 1 (80 + (σ.1 5 x3.toNatClampNeg)).toNatClampNeg))), (0, .ref (a 0)), (1, .int x1), (3, .int x3)]) dX9_sum_40 (Nat.le_of_ble_eq_true rfl) rfl ?_
        refine qx_iinc (pc := 41) (lv' := [(3, .int (x3 + 1)), (2, .int (x2 + (σ.1 1 (80 + (σ.1 5 x3.toNatClampNeg)).toNatClampNeg))), (0, .ref (a 0)), (1, .int x1)]) 3 (x3 + 1) dX9_sum_41 rfl rfl (Nat.le_of_ble_eq_true rfl) rfl ?_
        refine qx_goto (pc := 44) 4 dX9_sum_44 (by decide) ?_
        exact qx_sub [2, 3, 1, 0] rfl (ih _ _ _ h)
set_option maxHeartbeats 4000000 in
set_option maxRecDepth 100000 in
theorem qM_sum_ok {σ : QS} {x1 : Int32} {r : Int32} (h : qM_sum σ x1 = some r) : qx_E (qx_gM l D ci a) 1 mX9_sum (some (.int r), σ) 0 [(0, .ref (a 0)), (1, .int x1)] [] σ := by
  unfold qM_sum at h
  refine qx_iconst (pc := 0) 0 dX9_sum_0 (by decide) ?_
  refine qx_istore_n (pc := 1) (lv' := [(2, .int 0), (0, .ref (a 0)), (1, .int x1)]) dX9_sum_1 (Nat.le_of_ble_eq_true rfl) rfl ?_
  refine qx_iconst (pc := 2) 0 dX9_sum_2 (by decide) ?_
  refine qx_istore_n (pc := 3) (lv' := [(3, .int 0), (2, .int 0), (0, .ref (a 0)), (1, .int x1)]) dX9_sum_3 (Nat.le_of_ble_eq_true rfl) rfl ?_
  exact qx_sub [2, 3, 1, 0] rfl (qM_sum_L4_ok qx_F _ _ _ h)
set_option maxHeartbeats 4000000 in
set_option maxRecDepth 100000 in
theorem qM_greatest_J190_ok {σ : QS} {x1 : Int32} {x2 : Int32} {x3 : Int32} {x4 : Int32} {k60 : QS → Int32 → Int32 → Option (Int32 × QS)} (hk60 : ∀ (σ : QS) (x2 : Int32) (x3 : Int32) (r : Int32 × QS), k60 σ x2 x3 = some r → qx_E (qx_gM l D ci a) 5 mX9_greatest (some (.int r.1), r.2) 60 [(0, .ref (a 0)), (1, .int x1), (2, .int x2), (3, .int x3)] [] σ) {r : Int32 × QS} (h : qM_greatest_J190 σ k60 x1 x2 x3 x4 = some r) : qx_E (qx_gM l D ci a) 5 mX9_greatest (some (.int r.1), r.2) 190 [(0, .ref (a 0)), (1, .int x1), (2, .int x2), (3, .int x3), (4, .int x4)] [] σ := by
  unfold qM_greatest_J190 at h
  refine qx_iload (pc := 190) 4 dX9_greatest_190 rfl ?_
  refine qx_if_eq (pc := 192) 205 h dX9_greatest_192 (by decide) (fun h => ?_) (fun h => ?_)
  · refine qx_goto (pc := 205) 60 dX9_greatest_205 (by decide) ?_
    exact qx_sub [0, 1, 2, 3] rfl (hk60 _ _ _ _ h)
  · refine qx_iinc (pc := 195) (lv' := [(3, .int (x3 + 1)), (0, .ref (a 0)), (1, .int x1), (2, .int x2), (4, .int x4)]) 3 (x3 + 1) dX9_greatest_195 rfl rfl (Nat.le_of_ble_eq_true rfl) rfl ?_
    refine qx_aload_n (pc := 198) 1 dX9_greatest_198 rfl ?_
    refine qgM0_8 (pc := 199) qwf_X9_27 dX9_greatest_199 ?_
    refine qx_iload_n (pc := 202) 0 dX9_greatest_202 rfl ?_
    refine qx_iconst (pc := 203) (-1) dX9_greatest_203 (by decide) ?_
    refine qsM4 (pc := 204) h dX9_greatest_204 (fun h => ?_)
    refine qx_goto (pc := 205) 60 dX9_greatest_205 (by decide) ?_
    exact qx_sub [1, 2, 3, 0] rfl (hk60 _ _ _ _ h)
set_option maxHeartbeats 4000000 in
set_option maxRecDepth 100000 in
theorem qM_greatest_J137_ok {σ : QS} {x1 : Int32} {x2 : Int32} {x3 : Int32} {s0 : Int32} {k60 : QS → Int32 → Int32 → Option (Int32 × QS)} (hk60 : ∀ (σ : QS) (x2 : Int32) (x3 : Int32) (r : Int32 × QS), k60 σ x2 x3 = some r → qx_E (qx_gM l D ci a) 5 mX9_greatest (some (.int r.1), r.2) 60 [(0, .ref (a 0)), (1, .int x1), (2, .int x2), (3, .int x3)] [] σ) {r : Int32 × QS} (h : qM_greatest_J137 σ k60 x1 x2 x3 s0 = some r) : qx_E (qx_gM l D ci a) 5 mX9_greatest (some (.int r.1), r.2) 137 [(0, .ref (a 0)), (1, .int x1), (2, .int x2), (3, .int x3)] [.int s0] σ := by
  unfold qM_greatest_J137 at h
  refine qx_istore (pc := 137) (lv' := [(4, .int s0), (0, .ref (a 0)), (1, .int x1), (2, .int x2), (3, .int x3)]) dX9_greatest_137 (Nat.le_of_ble_eq_true rfl) rfl ?_
  refine qx_aload_n (pc := 139) 1 dX9_greatest_139 rfl ?_
  refine qgM0_8 (pc := 140) qwf_X9_27 dX9_greatest_140 ?_
  refine qx_iload_n (pc := 143) 4 dX9_greatest_143 rfl ?_
  refine qlM4 (pc := 144) h dX9_greatest_144 (fun h => ?_)
  refine qx_bipush (pc := 145) 8 dX9_greatest_145 (by decide) ?_
  refine qx_icmp_le (pc := 147) 156 h dX9_greatest_147 (by decide) (fun h => ?_) (fun h => ?_)
  · refine qx_iload (pc := 156) 0 dX9_greatest_156 rfl ?_
    refine qx_if_eq (pc := 158) 190 h dX9_greatest_158 (by decide) (fun h => ?_) (fun h => ?_)
    · exact qx_sub [1, 2, 3, 4, 0] rfl (qM_greatest_J190_ok hk60 h)
    · refine qx_iload_n (pc := 161) 4 dX9_greatest_161 rfl ?_
      refine qx_iload_n (pc := 162) 2 dX9_greatest_162 rfl ?_
      refine qx_iconst (pc := 163) 1 dX9_greatest_163 (by decide) ?_
      refine qx_isub (pc := 164) dX9_greatest_164 ?_
      refine qx_icmp_ne (pc := 165) 190 h dX9_greatest_165 (by decide) (fun h => ?_) (fun h => ?_)
      · exact qx_sub [1, 2, 3, 4, 0] rfl (qM_greatest_J190_ok hk60 h)
      · refine qx_aload_n (pc := 168) 1 dX9_greatest_168 rfl ?_
        refine qx_iload_n (pc := 169) 2 dX9_greatest_169 rfl ?_
        obtain ⟨r1, hr1, h⟩ := qx_bindE h
        refine qx_callVi (pc := 170) 0 r1 σ [.int x1] [] rfl rfl rfl qcm_X9_sum qcv_X9_sum qwm_X9_176 rfl (Nat.le_of_ble_eq_true rfl) (Nat.le_of_ble_eq_true rfl) (by decide) dX9_greatest_170 (qM_sum_ok hr1) ?_
        refine qx_iload_n (pc := 173) 3 dX9_greatest_173 rfl ?_
        refine qx_icmp_le (pc := 174) 185 h dX9_greatest_174 (by decide) (fun h => ?_) (fun h => ?_)
        · refine qx_iload_n (pc := 185) 3 dX9_greatest_185 rfl ?_
          refine qx_istore_n (pc := 186) (lv' := [(2, .int x2), (4, .int s0), (0, .ref (a 0)), (1, .int x1), (3, .int x3)]) dX9_greatest_186 (Nat.le_of_ble_eq_true rfl) rfl ?_
          refine qx_goto (pc := 187) 205 dX9_greatest_187 (by decide) ?_
          refine qx_goto (pc := 205) 60 dX9_greatest_205 (by decide) ?_
          exact qx_sub [2, 3, 0, 4] rfl (hk60 _ _ _ _ h)
        · refine qx_aload_n (pc := 177) 1 dX9_greatest_177 rfl ?_
          refine qx_iload_n (pc := 178) 2 dX9_greatest_178 rfl ?_
          obtain ⟨r2, hr2, h⟩ := qx_bindE h
          refine qx_callVi (pc := 179) 0 r2 σ [.int x1] [] rfl rfl rfl qcm_X9_sum qcv_X9_sum qwm_X9_176 rfl (Nat.le_of_ble_eq_true rfl) (Nat.le_of_ble_eq_true rfl) (by decide) dX9_greatest_179 (qM_sum_ok hr2) ?_
          refine qx_goto (pc := 182) 186 dX9_greatest_182 (by decide) ?_
          refine qx_istore_n (pc := 186) (lv' := [(2, .int r2), (4, .int s0), (0, .ref (a 0)), (1, .int x1), (3, .int x3)]) dX9_greatest_186 (Nat.le_of_ble_eq_true rfl) rfl ?_
          refine qx_goto (pc := 187) 205 dX9_greatest_187 (by decide) ?_
          refine qx_goto (pc := 205) 60 dX9_greatest_205 (by decide) ?_
          exact qx_sub [2, 3, 0, 4] rfl (hk60 _ _ _ _ h)
  · refine qx_iinc (pc := 150) (lv' := [(3, .int (x3 + (-1))), (4, .int s0), (0, .ref (a 0)), (1, .int x1), (2, .int x2)]) 4 (x3 + (-1)) dX9_greatest_150 rfl rfl (Nat.le_of_ble_eq_true rfl) rfl ?_
    refine qx_goto (pc := 153) 205 dX9_greatest_153 (by decide) ?_
    refine qx_goto (pc := 205) 60 dX9_greatest_205 (by decide) ?_
    exact qx_sub [2, 3, 4, 0] rfl (hk60 _ _ _ _ h)
set_option maxHeartbeats 4000000 in
set_option maxRecDepth 100000 in
theorem qM_greatest_L60_ok {x1 : Int32} : ∀ (n : Nat) (σ : QS) (x2 : Int32) (x3 : Int32) (r : Int32 × QS), qM_greatest_L60 x1 n σ x2 x3 = some r → qx_E (qx_gM l D ci a) 5 mX9_greatest (some (.int r.1), r.2) 60 [(0, .ref (a 0)), (1, .int x1), (2, .int x2), (3, .int x3)] [] σ := by
  intro n
  induction n with
  | zero =>
    intro σ x2 x3 r h
    exact (qx_none h).elim
  | succ n ih =>
    intro σ x2 x3 r h
    unfold qM_greatest_L60 at h
    refine qx_iload_n (pc := 60) 3 dX9_greatest_60 rfl ?_
    refine qx_if_lt (pc := 61) 208 h dX9_greatest_61 (by decide) (fun h => ?_) (fun h => ?_)
    · refine qx_iload_n (pc := 208) 2 dX9_greatest_208 rfl ?_
      exact qx_iretS h rfl dX9_greatest_209
    · refine qx_iload_n (pc := 64) 1 dX9_greatest_64 rfl ?_
      refine qx_if_le (pc := 65) 208 h dX9_greatest_65 (by decide) (fun h => ?_) (fun h => ?_)
      · refine qx_iload_n (pc := 208) 2 dX9_greatest_208 rfl ?_
        exact qx_iretS h rfl dX9_greatest_209
      · refine qx_aload_n (pc := 68) 0 dX9_greatest_68 rfl ?_
        refine qgM0_8 (pc := 69) qwf_X9_27 dX9_greatest_69 ?_
        refine qx_iload_n (pc := 72) 3 dX9_greatest_72 rfl ?_
        refine qx_dup2 (pc := 73) dX9_greatest_73 rfl rfl ?_
        refine qlM4 (pc := 74) h dX9_greatest_74 (fun h => ?_)
        refine qx_iconst (pc := 75) 1 dX9_greatest_75 (by decide) ?_
        refine qx_iadd (pc := 76) dX9_greatest_76 ?_
        refine qsM4 (pc := 77) h dX9_greatest_77 (fun h => ?_)
        refine qx_aload_n (pc := 78) 0 dX9_greatest_78 rfl ?_
        refine qgM0_8 (pc := 79) qwf_X9_27 dX9_greatest_79 ?_
        refine qx_iload_n (pc := 82) 3 dX9_greatest_82 rfl ?_
        refine qlM4 (pc := 83) h dX9_greatest_83 (fun h => ?_)
        refine qx_bipush (pc := 84) 8 dX9_greatest_84 (by decide) ?_
        refine qx_icmp_eq (pc := 86) 132 h dX9_greatest_86 (by decide) (fun h => ?_) (fun h => ?_)
        · refine qx_iconst (pc := 132) 1 dX9_greatest_132 (by decide) ?_
          refine qx_goto (pc := 133) 137 dX9_greatest_133 (by decide) ?_
          exact (qM_greatest_J137_ok ih h)
        · refine qx_aload_n (pc := 89) 0 dX9_greatest_89 rfl ?_
          refine qgM0_8 (pc := 90) qwf_X9_27 dX9_greatest_90 ?_
          refine qx_iload_n (pc := 93) 3 dX9_greatest_93 rfl ?_
          refine qlM4 (pc := 94) h dX9_greatest_94 (fun h => ?_)
          refine qx_bipush (pc := 95) 8 dX9_greatest_95 (by decide) ?_
          refine qx_icmp_ge (pc := 97) 136 h dX9_greatest_97 (by decide) (fun h => ?_) (fun h => ?_)
          · refine qx_iconst (pc := 136) 0 dX9_greatest_136 (by decide) ?_
            exact (qM_greatest_J137_ok ih h)
          · refine qx_aload_n (pc := 100) 0 dX9_greatest_100 rfl ?_
            refine qgM0_6 (pc := 101) qwf_X9_20 dX9_greatest_101 ?_
            refine qx_bipush (pc := 104) 8 dX9_greatest_104 (by decide) ?_
            refine qx_aload_n (pc := 106) 0 dX9_greatest_106 rfl ?_
            refine qgM0_9 (pc := 107) qwf_X9_30 dX9_greatest_107 ?_
            refine qx_iload_n (pc := 110) 3 dX9_greatest_110 rfl ?_
            refine qlM5 (pc := 111) h dX9_greatest_111 (fun h => ?_)
            refine qx_imul (pc := 112) dX9_greatest_112 ?_
            refine qx_aload_n (pc := 113) 0 dX9_greatest_113 rfl ?_
            refine qgM0_8 (pc := 114) qwf_X9_27 dX9_greatest_114 ?_
            refine qx_iload_n (pc := 117) 3 dX9_greatest_117 rfl ?_
            refine qlM4 (pc := 118) h dX9_greatest_118 (fun h => ?_)
            refine qx_iadd (pc := 119) dX9_greatest_119 ?_
            refine qlM2 (pc := 120) h dX9_greatest_120 (fun h => ?_)
            refine qx_if_eq (pc := 121) 136 h dX9_greatest_121 (by decide) (fun h => ?_) (fun h => ?_)
            · refine qx_iconst (pc := 136) 0 dX9_greatest_136 (by decide) ?_
              exact (qM_greatest_J137_ok ih h)
            · refine qx_aload_n (pc := 124) 0 dX9_greatest_124 rfl ?_
              refine qx_iload_n (pc := 125) 3 dX9_greatest_125 rfl ?_
              obtain ⟨r3, hr3, h⟩ := qx_bindE h
              refine qx_callVi (pc := 126) 0 r3 (qx_up σ 4 x3.toNatClampNeg ((σ.1 4 x3.toNatClampNeg) + 1)) [.int x3] [] rfl rfl rfl qcm_X9_fitsWith qcv_X9_fitsWith qwm_X9_173 rfl (Nat.le_of_ble_eq_true rfl) (Nat.le_of_ble_eq_true rfl) (by decide) dX9_greatest_126 (qM_fitsWith_ok hr3) ?_
              refine qx_if_eq (pc := 129) 136 h dX9_greatest_129 (by decide) (fun h => ?_) (fun h => ?_)
              · refine qx_iconst (pc := 136) 0 dX9_greatest_136 (by decide) ?_
                exact (qM_greatest_J137_ok ih h)
              · refine qx_iconst (pc := 132) 1 dX9_greatest_132 (by decide) ?_
                refine qx_goto (pc := 133) 137 dX9_greatest_133 (by decide) ?_
                exact (qM_greatest_J137_ok ih h)
set_option maxHeartbeats 4000000 in
set_option maxRecDepth 100000 in
theorem qM_greatest_L8_ok : ∀ (n : Nat) (σ : QS) (x1 : Int32) (x2 : Int32) (r : Int32 × QS), qM_greatest_L8 n σ x1 x2 = some r → qx_E (qx_gM l D ci a) 5 mX9_greatest (some (.int r.1), r.2) 8 [(0, .ref (a 0)), (1, .int x1), (2, .int x2)] [] σ := by
  intro n
  induction n with
  | zero =>
    intro σ x1 x2 r h
    exact (qx_none h).elim
  | succ n ih =>
    intro σ x1 x2 r h
    unfold qM_greatest_L8 at h
    refine qx_iload_n (pc := 8) 2 dX9_greatest_8 rfl ?_
    refine qx_aload_n (pc := 9) 0 dX9_greatest_9 rfl ?_
    refine qgM0_1 (pc := 10) qwf_X9_48 dX9_greatest_10 ?_
    refine qx_icmp_ge (pc := 13) 49 h dX9_greatest_13 (by decide) (fun h => ?_) (fun h => ?_)
    · refine qx_iconst (pc := 49) 0 dX9_greatest_49 (by decide) ?_
      refine qx_istore_n (pc := 50) (lv' := [(2, .int 0), (0, .ref (a 0)), (1, .int x1)]) dX9_greatest_50 (Nat.le_of_ble_eq_true rfl) rfl ?_
      refine qx_iconst (pc := 51) 0 dX9_greatest_51 (by decide) ?_
      refine qx_istore_n (pc := 52) (lv' := [(3, .int 0), (2, .int 0), (0, .ref (a 0)), (1, .int x1)]) dX9_greatest_52 (Nat.le_of_ble_eq_true rfl) rfl ?_
      refine qx_aload_n (pc := 53) 2 dX9_greatest_53 rfl ?_
      refine qgM0_8 (pc := 54) qwf_X9_27 dX9_greatest_54 ?_
      refine qx_iconst (pc := 57) 0 dX9_greatest_57 (by decide) ?_
      refine qx_iconst (pc := 58) (-1) dX9_greatest_58 (by decide) ?_
      refine qsM4 (pc := 59) h dX9_greatest_59 (fun h => ?_)
      exact qx_sub [2, 3, 1, 0] rfl (qM_greatest_L60_ok qx_F _ _ _ _ h)
    · refine qx_aload_n (pc := 16) 0 dX9_greatest_16 rfl ?_
      refine qx_iload_n (pc := 17) 2 dX9_greatest_17 rfl ?_
      obtain ⟨r4, hr4, h⟩ := qx_bindE h
      refine qx_callVi (pc := 18) 0 r4 σ [.int x2] [] rfl rfl rfl qcm_X9_placesOf qcv_X9_placesOf qwm_X9_112 rfl (Nat.le_of_ble_eq_true rfl) (Nat.le_of_ble_eq_true rfl) (by decide) dX9_greatest_18 (qM_placesOf_ok hr4) ?_
      refine qx_if_le (pc := 21) 43 h dX9_greatest_21 (by decide) (fun h => ?_) (fun h => ?_)
      · refine qx_iinc (pc := 43) (lv' := [(2, .int (x2 + 1)), (0, .ref (a 0)), (1, .int x1)]) 2 (x2 + 1) dX9_greatest_43 rfl rfl (Nat.le_of_ble_eq_true rfl) rfl ?_
        refine qx_goto (pc := 46) 8 dX9_greatest_46 (by decide) ?_
        exact qx_sub [1, 2, 0] rfl (ih _ _ _ _ h)
      · refine qx_iload_n (pc := 24) 1 dX9_greatest_24 rfl ?_
        refine qx_bipush (pc := 25) 6 dX9_greatest_25 (by decide) ?_
        refine qx_icmp_ne (pc := 27) 33 h dX9_greatest_27 (by decide) (fun h => ?_) (fun h => ?_)
        · refine qx_aload_n (pc := 33) 0 dX9_greatest_33 rfl ?_
          refine qgM0_9 (pc := 34) qwf_X9_30 dX9_greatest_34 ?_
          refine qx_iload_n (pc := 37) 1 dX9_greatest_37 rfl ?_
          refine qx_iload_n (pc := 38) 2 dX9_greatest_38 rfl ?_
          refine qsM5 (pc := 39) h dX9_greatest_39 (fun h => ?_)
          refine qx_iinc (pc := 40) (lv' := [(1, .int (x1 + 1)), (0, .ref (a 0)), (2, .int x2)]) 1 (x1 + 1) dX9_greatest_40 rfl rfl (Nat.le_of_ble_eq_true rfl) rfl ?_
          refine qx_iinc (pc := 43) (lv' := [(2, .int (x2 + 1)), (1, .int (x1 + 1)), (0, .ref (a 0))]) 2 (x2 + 1) dX9_greatest_43 rfl rfl (Nat.le_of_ble_eq_true rfl) rfl ?_
          refine qx_goto (pc := 46) 8 dX9_greatest_46 (by decide) ?_
          exact qx_sub [2, 1, 0] rfl (ih _ _ _ _ h)
        · refine qx_bipush (pc := 30) (-3) dX9_greatest_30 (by decide) ?_
          exact qx_iretS h rfl dX9_greatest_32
set_option maxHeartbeats 4000000 in
set_option maxRecDepth 100000 in
theorem qM_greatest_ok {σ : QS} {r : Int32 × QS} (h : qM_greatest σ = some r) : qx_E (qx_gM l D ci a) 5 mX9_greatest (some (.int r.1), r.2) 0 [(0, .ref (a 0))] [] σ := by
  unfold qM_greatest at h
  refine qx_aload_n (pc := 0) 0 dX9_greatest_0 rfl ?_
  obtain ⟨r5, hr5, h⟩ := qx_bindE h
  refine qx_callVv (pc := 1) 0 r5 [] [] rfl rfl rfl qcm_X9_findsAll qcv_X9_findsAll qwm_X9_83 rfl (Nat.le_of_ble_eq_true rfl) (Nat.le_of_ble_eq_true rfl) (by decide) dX9_greatest_1 (qM_findsAll_ok hr5) ?_
  refine qx_iconst (pc := 4) 0 dX9_greatest_4 (by decide) ?_
  refine qx_istore_n (pc := 5) (lv' := [(1, .int 0), (0, .ref (a 0))]) dX9_greatest_5 (Nat.le_of_ble_eq_true rfl) rfl ?_
  refine qx_iconst (pc := 6) 0 dX9_greatest_6 (by decide) ?_
  refine qx_istore_n (pc := 7) (lv' := [(2, .int 0), (1, .int 0), (0, .ref (a 0))]) dX9_greatest_7 (Nat.le_of_ble_eq_true rfl) rfl ?_
  exact qx_sub [2, 1, 0] rfl (qM_greatest_L8_ok qx_F _ _ _ _ h)
set_option maxHeartbeats 4000000 in
set_option maxRecDepth 100000 in
theorem qM_isAhead_ok {σ : QS} {x1 : Int32} {x2 : Int32} {r : Int32} (h : qM_isAhead σ x1 x2 = some r) : qx_E (qx_gM l D ci a) 1 mX9_isAhead (some (.int r), σ) 0 [(0, .ref (a 0)), (1, .int x1), (2, .int x2)] [] σ := by
  unfold qM_isAhead at h
  refine qx_aload_n (pc := 0) 0 dX9_isAhead_0 rfl ?_
  refine qgM0_0 (pc := 1) qwf_X9_7 dX9_isAhead_1 ?_
  refine qx_bipush (pc := 4) 20 dX9_isAhead_4 (by decide) ?_
  refine qx_iload_n (pc := 6) 1 dX9_isAhead_6 rfl ?_
  refine qx_iadd (pc := 7) dX9_isAhead_7 ?_
  refine qlM1 (pc := 8) h dX9_isAhead_8 (fun h => ?_)
  refine qx_aload_n (pc := 9) 0 dX9_isAhead_9 rfl ?_
  refine qgM0_0 (pc := 10) qwf_X9_7 dX9_isAhead_10 ?_
  refine qx_bipush (pc := 13) 20 dX9_isAhead_13 (by decide) ?_
  refine qx_iload_n (pc := 15) 2 dX9_isAhead_15 rfl ?_
  refine qx_iadd (pc := 16) dX9_isAhead_16 ?_
  refine qlM1 (pc := 17) h dX9_isAhead_17 (fun h => ?_)
  refine qx_icmp_gt (pc := 18) 61 h dX9_isAhead_18 (by decide) (fun h => ?_) (fun h => ?_)
  · refine qx_iconst (pc := 61) 1 dX9_isAhead_61 (by decide) ?_
    refine qx_goto (pc := 62) 66 dX9_isAhead_62 (by decide) ?_
    exact qx_nret h rfl rfl dX9_isAhead_66
  · refine qx_aload_n (pc := 21) 0 dX9_isAhead_21 rfl ?_
    refine qgM0_0 (pc := 22) qwf_X9_7 dX9_isAhead_22 ?_
    refine qx_bipush (pc := 25) 20 dX9_isAhead_25 (by decide) ?_
    refine qx_iload_n (pc := 27) 1 dX9_isAhead_27 rfl ?_
    refine qx_iadd (pc := 28) dX9_isAhead_28 ?_
    refine qlM1 (pc := 29) h dX9_isAhead_29 (fun h => ?_)
    refine qx_aload_n (pc := 30) 0 dX9_isAhead_30 rfl ?_
    refine qgM0_0 (pc := 31) qwf_X9_7 dX9_isAhead_31 ?_
    refine qx_bipush (pc := 34) 20 dX9_isAhead_34 (by decide) ?_
    refine qx_iload_n (pc := 36) 2 dX9_isAhead_36 rfl ?_
    refine qx_iadd (pc := 37) dX9_isAhead_37 ?_
    refine qlM1 (pc := 38) h dX9_isAhead_38 (fun h => ?_)
    refine qx_icmp_ne (pc := 39) 65 h dX9_isAhead_39 (by decide) (fun h => ?_) (fun h => ?_)
    · refine qx_iconst (pc := 65) 0 dX9_isAhead_65 (by decide) ?_
      exact qx_nret h rfl rfl dX9_isAhead_66
    · refine qx_aload_n (pc := 42) 0 dX9_isAhead_42 rfl ?_
      refine qgM0_0 (pc := 43) qwf_X9_7 dX9_isAhead_43 ?_
      refine qx_iconst (pc := 46) 0 dX9_isAhead_46 (by decide) ?_
      refine qx_iload_n (pc := 47) 1 dX9_isAhead_47 rfl ?_
      refine qx_iadd (pc := 48) dX9_isAhead_48 ?_
      refine qlM1 (pc := 49) h dX9_isAhead_49 (fun h => ?_)
      refine qx_aload_n (pc := 50) 0 dX9_isAhead_50 rfl ?_
      refine qgM0_0 (pc := 51) qwf_X9_7 dX9_isAhead_51 ?_
      refine qx_iconst (pc := 54) 0 dX9_isAhead_54 (by decide) ?_
      refine qx_iload_n (pc := 55) 2 dX9_isAhead_55 rfl ?_
      refine qx_iadd (pc := 56) dX9_isAhead_56 ?_
      refine qlM1 (pc := 57) h dX9_isAhead_57 (fun h => ?_)
      refine qx_icmp_ge (pc := 58) 65 h dX9_isAhead_58 (by decide) (fun h => ?_) (fun h => ?_)
      · refine qx_iconst (pc := 65) 0 dX9_isAhead_65 (by decide) ?_
        exact qx_nret h rfl rfl dX9_isAhead_66
      · refine qx_iconst (pc := 61) 1 dX9_isAhead_61 (by decide) ?_
        refine qx_goto (pc := 62) 66 dX9_isAhead_62 (by decide) ?_
        exact qx_nret h rfl rfl dX9_isAhead_66
set_option maxHeartbeats 4000000 in
set_option maxRecDepth 100000 in
theorem qM_leaders_L22_ok {x1 : Int32} {x2 : Int32} {k4 : QS → Int32 → Int32 → Option (Int32 × QS)} (hk4 : ∀ (σ : QS) (x1 : Int32) (x2 : Int32) (r : Int32 × QS), k4 σ x1 x2 = some r → qx_E (qx_gM l D ci a) 4 mX9_leaders (some (.int r.1), r.2) 4 [(0, .ref (a 0)), (1, .int x1), (2, .int x2)] [] σ) : ∀ (n : Nat) (σ : QS) (x3 : Int32) (r : Int32 × QS), qM_leaders_L22 x1 x2 k4 n σ x3 = some r → qx_E (qx_gM l D ci a) 4 mX9_leaders (some (.int r.1), r.2) 22 [(0, .ref (a 0)), (1, .int x1), (2, .int x2), (3, .int x3)] [] σ := by
  intro n
  induction n with
  | zero =>
    intro σ x3 r h
    exact (qx_none h).elim
  | succ n ih =>
    intro σ x3 r h
    unfold qM_leaders_L22 at h
    refine qx_iload_n (pc := 22) 3 dX9_leaders_22 rfl ?_
    refine qx_if_le (pc := 23) 62 h dX9_leaders_23 (by decide) (fun h => ?_) (fun h => ?_)
    · refine qx_aload_n (pc := 62) 0 dX9_leaders_62 rfl ?_
      refine qgM0_12 (pc := 63) qwf_X9_36 dX9_leaders_63 ?_
      refine qx_iload_n (pc := 66) 3 dX9_leaders_66 rfl ?_
      refine qx_iload_n (pc := 67) 2 dX9_leaders_67 rfl ?_
      refine qsM7 (pc := 68) h dX9_leaders_68 (fun h => ?_)
      refine qx_iinc (pc := 69) (lv' := [(1, .int (x1 + 1)), (0, .ref (a 0)), (2, .int x2), (3, .int x3)]) 1 (x1 + 1) dX9_leaders_69 rfl rfl (Nat.le_of_ble_eq_true rfl) rfl ?_
      refine qx_iinc (pc := 72) (lv' := [(2, .int (x2 + 1)), (1, .int (x1 + 1)), (0, .ref (a 0)), (3, .int x3)]) 2 (x2 + 1) dX9_leaders_72 rfl rfl (Nat.le_of_ble_eq_true rfl) rfl ?_
      refine qx_goto (pc := 75) 4 dX9_leaders_75 (by decide) ?_
      exact qx_sub [2, 1, 0] rfl (hk4 _ _ _ _ h)
    · refine qx_aload_n (pc := 26) 0 dX9_leaders_26 rfl ?_
      refine qx_iload_n (pc := 27) 2 dX9_leaders_27 rfl ?_
      refine qx_aload_n (pc := 28) 0 dX9_leaders_28 rfl ?_
      refine qgM0_12 (pc := 29) qwf_X9_36 dX9_leaders_29 ?_
      refine qx_iload_n (pc := 32) 3 dX9_leaders_32 rfl ?_
      refine qx_iconst (pc := 33) 1 dX9_leaders_33 (by decide) ?_
      refine qx_isub (pc := 34) dX9_leaders_34 ?_
      refine qlM7 (pc := 35) h dX9_leaders_35 (fun h => ?_)
      obtain ⟨r1, hr1, h⟩ := qx_bindE h
      refine qx_callVi (pc := 36) 0 r1 σ [.int x2, .int (σ.1 7 (x3 - 1).toNatClampNeg)] [] rfl rfl rfl qcm_X9_isAhead qcv_X9_isAhead qwm_X9_179 rfl (Nat.le_of_ble_eq_true rfl) (Nat.le_of_ble_eq_true rfl) (by decide) dX9_leaders_36 (qM_isAhead_ok hr1) ?_
      refine qx_if_eq (pc := 39) 62 h dX9_leaders_39 (by decide) (fun h => ?_) (fun h => ?_)
      · refine qx_aload_n (pc := 62) 0 dX9_leaders_62 rfl ?_
        refine qgM0_12 (pc := 63) qwf_X9_36 dX9_leaders_63 ?_
        refine qx_iload_n (pc := 66) 3 dX9_leaders_66 rfl ?_
        refine qx_iload_n (pc := 67) 2 dX9_leaders_67 rfl ?_
        refine qsM7 (pc := 68) h dX9_leaders_68 (fun h => ?_)
        refine qx_iinc (pc := 69) (lv' := [(1, .int (x1 + 1)), (0, .ref (a 0)), (2, .int x2), (3, .int x3)]) 1 (x1 + 1) dX9_leaders_69 rfl rfl (Nat.le_of_ble_eq_true rfl) rfl ?_
        refine qx_iinc (pc := 72) (lv' := [(2, .int (x2 + 1)), (1, .int (x1 + 1)), (0, .ref (a 0)), (3, .int x3)]) 2 (x2 + 1) dX9_leaders_72 rfl rfl (Nat.le_of_ble_eq_true rfl) rfl ?_
        refine qx_goto (pc := 75) 4 dX9_leaders_75 (by decide) ?_
        exact qx_sub [2, 1, 0] rfl (hk4 _ _ _ _ h)
      · refine qx_aload_n (pc := 42) 0 dX9_leaders_42 rfl ?_
        refine qgM0_12 (pc := 43) qwf_X9_36 dX9_leaders_43 ?_
        refine qx_iload_n (pc := 46) 3 dX9_leaders_46 rfl ?_
        refine qx_aload_n (pc := 47) 0 dX9_leaders_47 rfl ?_
        refine qgM0_12 (pc := 48) qwf_X9_36 dX9_leaders_48 ?_
        refine qx_iload_n (pc := 51) 3 dX9_leaders_51 rfl ?_
        refine qx_iconst (pc := 52) 1 dX9_leaders_52 (by decide) ?_
        refine qx_isub (pc := 53) dX9_leaders_53 ?_
        refine qlM7 (pc := 54) h dX9_leaders_54 (fun h => ?_)
        refine qsM7 (pc := 55) h dX9_leaders_55 (fun h => ?_)
        refine qx_iinc (pc := 56) (lv' := [(3, .int (x3 + (-1))), (0, .ref (a 0)), (1, .int x1), (2, .int x2)]) 3 (x3 + (-1)) dX9_leaders_56 rfl rfl (Nat.le_of_ble_eq_true rfl) rfl ?_
        refine qx_goto (pc := 59) 22 dX9_leaders_59 (by decide) ?_
        exact qx_sub [1, 2, 3, 0] rfl (ih _ _ _ h)
set_option maxHeartbeats 4000000 in
set_option maxRecDepth 100000 in
theorem qM_leaders_J254_ok {σ : QS} {x1 : Int32} {x2 : Int32} {x3 : Int32} {x5 : Int32} {x6 : Int32} {s0 : Int32} {s1 : Int32} {s2 : Int32} {k107 : QS → Int32 → Option (Int32 × QS)} (hk107 : ∀ (σ : QS) (x2 : Int32) (r : Int32 × QS), k107 σ x2 = some r → qx_E (qx_gM l D ci a) 4 mX9_leaders (some (.int r.1), r.2) 107 [(0, .ref (a 0)), (1, .int x1), (2, .int x2)] [] σ) {r : Int32 × QS} (h : qM_leaders_J254 σ k107 x1 x2 x3 x5 x6 s0 s1 s2 = some r) : qx_E (qx_gM l D ci a) 4 mX9_leaders (some (.int r.1), r.2) 254 [(0, .ref (a 0)), (1, .int x1), (2, .int x2), (3, .int x3), (5, .int x5), (6, .int x6)] [.int s0, .int s1, .int s2, .ref (a 6)] σ := by
  unfold qM_leaders_J254 at h
  refine qx_iadd (pc := 254) dX9_leaders_254 ?_
  refine qsM6 (pc := 255) h dX9_leaders_255 (fun h => ?_)
  refine qx_aload_n (pc := 256) 0 dX9_leaders_256 rfl ?_
  refine qgM0_10 (pc := 257) qwf_X9_33 dX9_leaders_257 ?_
  refine qx_iconst (pc := 260) 4 dX9_leaders_260 (by decide) ?_
  refine qx_iload_n (pc := 261) 2 dX9_leaders_261 rfl ?_
  refine qx_imul (pc := 262) dX9_leaders_262 ?_
  refine qx_iconst (pc := 263) 3 dX9_leaders_263 (by decide) ?_
  refine qx_iadd (pc := 264) dX9_leaders_264 ?_
  refine qx_iload (pc := 265) 4 dX9_leaders_265 rfl ?_
  refine qx_aload_n (pc := 267) 0 dX9_leaders_267 rfl ?_
  refine qgM0_0 (pc := 268) qwf_X9_7 dX9_leaders_268 ?_
  refine qx_iconst (pc := 271) 0 dX9_leaders_271 (by decide) ?_
  refine qx_iload_n (pc := 272) 3 dX9_leaders_272 rfl ?_
  refine qx_iadd (pc := 273) dX9_leaders_273 ?_
  refine qlM1 (pc := 274) h dX9_leaders_274 (fun h => ?_)
  refine qx_isub (pc := 275) dX9_leaders_275 ?_
  refine qx_iload (pc := 276) 5 dX9_leaders_276 rfl ?_
  refine qx_iadd (pc := 278) dX9_leaders_278 ?_
  refine qsM6 (pc := 279) h dX9_leaders_279 (fun h => ?_)
  refine qx_iinc (pc := 280) (lv' := [(2, .int (x2 + 1)), (0, .ref (a 0)), (1, .int x1), (3, .int x3), (5, .int x5), (6, .int x6)]) 2 (x2 + 1) dX9_leaders_280 rfl rfl (Nat.le_of_ble_eq_true rfl) rfl ?_
  refine qx_goto (pc := 283) 107 dX9_leaders_283 (by decide) ?_
  exact qx_sub [1, 2, 0] rfl (hk107 _ _ _ h)
set_option maxHeartbeats 4000000 in
set_option maxRecDepth 100000 in
theorem qM_leaders_J190_ok {σ : QS} {x1 : Int32} {x2 : Int32} {x3 : Int32} {x4 : Int32} {x5 : Int32} {s0 : Int32} {k107 : QS → Int32 → Option (Int32 × QS)} (hk107 : ∀ (σ : QS) (x2 : Int32) (r : Int32 × QS), k107 σ x2 = some r → qx_E (qx_gM l D ci a) 4 mX9_leaders (some (.int r.1), r.2) 107 [(0, .ref (a 0)), (1, .int x1), (2, .int x2)] [] σ) {r : Int32 × QS} (h : qM_leaders_J190 σ k107 x1 x2 x3 x4 x5 s0 = some r) : qx_E (qx_gM l D ci a) 4 mX9_leaders (some (.int r.1), r.2) 190 [(0, .ref (a 0)), (1, .int x1), (2, .int x2), (3, .int x3), (4, .int x4), (5, .int x5)] [.int s0] σ := by
  unfold qM_leaders_J190 at h
  refine qx_istore (pc := 190) (lv' := [(6, .int s0), (0, .ref (a 0)), (1, .int x1), (2, .int x2), (3, .int x3), (4, .int x4), (5, .int x5)]) dX9_leaders_190 (Nat.le_of_ble_eq_true rfl) rfl ?_
  refine qx_aload_n (pc := 192) 1 dX9_leaders_192 rfl ?_
  refine qgM0_10 (pc := 193) qwf_X9_33 dX9_leaders_193 ?_
  refine qx_iconst (pc := 196) 4 dX9_leaders_196 (by decide) ?_
  refine qx_iload_n (pc := 197) 3 dX9_leaders_197 rfl ?_
  refine qx_imul (pc := 198) dX9_leaders_198 ?_
  refine qx_iload_n (pc := 199) 4 dX9_leaders_199 rfl ?_
  refine qsM6 (pc := 200) h dX9_leaders_200 (fun h => ?_)
  refine qx_aload_n (pc := 201) 1 dX9_leaders_201 rfl ?_
  refine qgM0_10 (pc := 202) qwf_X9_33 dX9_leaders_202 ?_
  refine qx_iconst (pc := 205) 4 dX9_leaders_205 (by decide) ?_
  refine qx_iload_n (pc := 206) 3 dX9_leaders_206 rfl ?_
  refine qx_imul (pc := 207) dX9_leaders_207 ?_
  refine qx_iconst (pc := 208) 1 dX9_leaders_208 (by decide) ?_
  refine qx_iadd (pc := 209) dX9_leaders_209 ?_
  refine qx_iload (pc := 210) 5 dX9_leaders_210 rfl ?_
  refine qsM6 (pc := 212) h dX9_leaders_212 (fun h => ?_)
  refine qx_aload_n (pc := 213) 1 dX9_leaders_213 rfl ?_
  refine qgM0_10 (pc := 214) qwf_X9_33 dX9_leaders_214 ?_
  refine qx_iconst (pc := 217) 4 dX9_leaders_217 (by decide) ?_
  refine qx_iload_n (pc := 218) 3 dX9_leaders_218 rfl ?_
  refine qx_imul (pc := 219) dX9_leaders_219 ?_
  refine qx_iconst (pc := 220) 2 dX9_leaders_220 (by decide) ?_
  refine qx_iadd (pc := 221) dX9_leaders_221 ?_
  refine qx_aload_n (pc := 222) 1 dX9_leaders_222 rfl ?_
  refine qgM0_2 (pc := 223) qwf_X9_55 dX9_leaders_223 ?_
  refine qx_aload_n (pc := 226) 1 dX9_leaders_226 rfl ?_
  refine qgM0_4 (pc := 227) qwf_X9_13 dX9_leaders_227 ?_
  refine qx_iadd (pc := 230) dX9_leaders_230 ?_
  refine qx_iload (pc := 231) 5 dX9_leaders_231 rfl ?_
  refine qx_aload_n (pc := 233) 1 dX9_leaders_233 rfl ?_
  refine qgM0_0 (pc := 234) qwf_X9_7 dX9_leaders_234 ?_
  refine qx_bipush (pc := 237) 20 dX9_leaders_237 (by decide) ?_
  refine qx_iload_n (pc := 239) 4 dX9_leaders_239 rfl ?_
  refine qx_iadd (pc := 240) dX9_leaders_240 ?_
  refine qlM1 (pc := 241) h dX9_leaders_241 (fun h => ?_)
  refine qx_icmp_le (pc := 242) 249 h dX9_leaders_242 (by decide) (fun h => ?_) (fun h => ?_)
  · refine qx_iload_n (pc := 249) 2 dX9_leaders_249 rfl ?_
    refine qx_iconst (pc := 250) 1 dX9_leaders_250 (by decide) ?_
    refine qx_isub (pc := 251) dX9_leaders_251 ?_
    refine qx_iload_n (pc := 252) 3 dX9_leaders_252 rfl ?_
    refine qx_isub (pc := 253) dX9_leaders_253 ?_
    exact qx_sub [1, 2, 3, 4, 6, 0] rfl (qM_leaders_J254_ok hk107 h)
  · refine qx_iload_n (pc := 245) 3 dX9_leaders_245 rfl ?_
    refine qx_goto (pc := 246) 254 dX9_leaders_246 (by decide) ?_
    exact qx_sub [1, 2, 3, 4, 6, 0] rfl (qM_leaders_J254_ok hk107 h)
set_option maxHeartbeats 4000000 in
set_option maxRecDepth 100000 in
theorem qM_leaders_L107_ok {x1 : Int32} : ∀ (n : Nat) (σ : QS) (x2 : Int32) (r : Int32 × QS), qM_leaders_L107 x1 n σ x2 = some r → qx_E (qx_gM l D ci a) 4 mX9_leaders (some (.int r.1), r.2) 107 [(0, .ref (a 0)), (1, .int x1), (2, .int x2)] [] σ := by
  intro n
  induction n with
  | zero =>
    intro σ x2 r h
    exact (qx_none h).elim
  | succ n ih =>
    intro σ x2 r h
    unfold qM_leaders_L107 at h
    refine qx_iload_n (pc := 107) 2 dX9_leaders_107 rfl ?_
    refine qx_iload_n (pc := 108) 1 dX9_leaders_108 rfl ?_
    refine qx_icmp_ge (pc := 109) 286 h dX9_leaders_109 (by decide) (fun h => ?_) (fun h => ?_)
    · refine qx_iload_n (pc := 286) 1 dX9_leaders_286 rfl ?_
      exact qx_iretS h rfl dX9_leaders_287
    · refine qx_aload_n (pc := 112) 0 dX9_leaders_112 rfl ?_
      refine qgM0_12 (pc := 113) qwf_X9_36 dX9_leaders_113 ?_
      refine qx_iload_n (pc := 116) 2 dX9_leaders_116 rfl ?_
      refine qlM7 (pc := 117) h dX9_leaders_117 (fun h => ?_)
      refine qx_istore_n (pc := 118) (lv' := [(3, .int (σ.1 7 x2.toNatClampNeg)), (0, .ref (a 0)), (1, .int x1), (2, .int x2)]) dX9_leaders_118 (Nat.le_of_ble_eq_true rfl) rfl ?_
      refine qx_aload_n (pc := 119) 1 dX9_leaders_119 rfl ?_
      refine qgM0_3 (pc := 120) qwf_X9_58 dX9_leaders_120 ?_
      refine qx_aload_n (pc := 123) 1 dX9_leaders_123 rfl ?_
      refine qgM0_5 (pc := 124) qwf_X9_17 dX9_leaders_124 ?_
      refine qx_iadd (pc := 127) dX9_leaders_127 ?_
      refine qx_iconst (pc := 128) 1 dX9_leaders_128 (by decide) ?_
      refine qx_isub (pc := 129) dX9_leaders_129 ?_
      refine qx_iconst (pc := 130) 2 dX9_leaders_130 (by decide) ?_
      refine qx_iload_n (pc := 131) 3 dX9_leaders_131 rfl ?_
      refine qx_imul (pc := 132) dX9_leaders_132 ?_
      refine qx_isub (pc := 133) dX9_leaders_133 ?_
      refine qx_istore (pc := 134) (lv' := [(4, .int ((((σ.1 0 3) + (σ.1 0 5)) - 1) - (2 * x2))), (3, .int (σ.1 7 x2.toNatClampNeg)), (0, .ref (a 0)), (1, .int x1), (2, .int x2)]) dX9_leaders_134 (Nat.le_of_ble_eq_true rfl) rfl ?_
      refine qx_aload_n (pc := 136) 2 dX9_leaders_136 rfl ?_
      refine qgM0_2 (pc := 137) qwf_X9_55 dX9_leaders_137 ?_
      refine qx_aload_n (pc := 140) 2 dX9_leaders_140 rfl ?_
      refine qgM0_4 (pc := 141) qwf_X9_13 dX9_leaders_141 ?_
      refine qx_iadd (pc := 144) dX9_leaders_144 ?_
      refine qx_iload_n (pc := 145) 3 dX9_leaders_145 rfl ?_
      refine qx_iadd (pc := 146) dX9_leaders_146 ?_
      refine qx_istore (pc := 147) (lv' := [(5, .int (((σ.1 0 2) + (σ.1 0 4)) + x1)), (4, .int ((((σ.1 0 3) + (σ.1 0 5)) - 1) - (2 * x2))), (3, .int (σ.1 7 x2.toNatClampNeg)), (0, .ref (a 0)), (1, .int x1), (2, .int x2)]) dX9_leaders_147 (Nat.le_of_ble_eq_true rfl) rfl ?_
      refine qx_iload (pc := 149) 1 dX9_leaders_149 rfl ?_
      refine qx_aload_n (pc := 151) 3 dX9_leaders_151 rfl ?_
      refine qgM0_0 (pc := 152) qwf_X9_7 dX9_leaders_152 ?_
      refine qx_bipush (pc := 155) 20 dX9_leaders_155 (by decide) ?_
      refine qx_iload_n (pc := 157) 2 dX9_leaders_157 rfl ?_
      refine qx_iadd (pc := 158) dX9_leaders_158 ?_
      refine qlM1 (pc := 159) h dX9_leaders_159 (fun h => ?_)
      refine qx_icmp_le (pc := 160) 178 h dX9_leaders_160 (by decide) (fun h => ?_) (fun h => ?_)
      · refine qx_aload_n (pc := 178) 3 dX9_leaders_178 rfl ?_
        refine qgM0_0 (pc := 179) qwf_X9_7 dX9_leaders_179 ?_
        refine qx_bipush (pc := 182) 20 dX9_leaders_182 (by decide) ?_
        refine qx_iload_n (pc := 184) 2 dX9_leaders_184 rfl ?_
        refine qx_iadd (pc := 185) dX9_leaders_185 ?_
        refine qlM1 (pc := 186) h dX9_leaders_186 (fun h => ?_)
        refine qx_iload (pc := 187) 1 dX9_leaders_187 rfl ?_
        refine qx_isub (pc := 189) dX9_leaders_189 ?_
        exact qx_sub [3, 4, 5, 2, 1, 0] rfl (qM_leaders_J190_ok ih h)
      · refine qx_iload (pc := 163) 1 dX9_leaders_163 rfl ?_
        refine qx_aload_n (pc := 165) 3 dX9_leaders_165 rfl ?_
        refine qgM0_0 (pc := 166) qwf_X9_7 dX9_leaders_166 ?_
        refine qx_bipush (pc := 169) 20 dX9_leaders_169 (by decide) ?_
        refine qx_iload_n (pc := 171) 2 dX9_leaders_171 rfl ?_
        refine qx_iadd (pc := 172) dX9_leaders_172 ?_
        refine qlM1 (pc := 173) h dX9_leaders_173 (fun h => ?_)
        refine qx_isub (pc := 174) dX9_leaders_174 ?_
        refine qx_goto (pc := 175) 190 dX9_leaders_175 (by decide) ?_
        exact qx_sub [3, 4, 5, 2, 1, 0] rfl (qM_leaders_J190_ok ih h)
set_option maxHeartbeats 4000000 in
set_option maxRecDepth 100000 in
theorem qM_leaders_L4_ok : ∀ (n : Nat) (σ : QS) (x1 : Int32) (x2 : Int32) (r : Int32 × QS), qM_leaders_L4 n σ x1 x2 = some r → qx_E (qx_gM l D ci a) 4 mX9_leaders (some (.int r.1), r.2) 4 [(0, .ref (a 0)), (1, .int x1), (2, .int x2)] [] σ := by
  intro n
  induction n with
  | zero =>
    intro σ x1 x2 r h
    exact (qx_none h).elim
  | succ n ih =>
    intro σ x1 x2 r h
    unfold qM_leaders_L4 at h
    refine qx_iload_n (pc := 4) 2 dX9_leaders_4 rfl ?_
    refine qx_aload_n (pc := 5) 0 dX9_leaders_5 rfl ?_
    refine qgM0_1 (pc := 6) qwf_X9_48 dX9_leaders_6 ?_
    refine qx_icmp_ge (pc := 9) 78 h dX9_leaders_9 (by decide) (fun h => ?_) (fun h => ?_)
    · refine qx_iload_n (pc := 78) 1 dX9_leaders_78 rfl ?_
      refine qx_if_le (pc := 79) 100 h dX9_leaders_79 (by decide) (fun h => ?_) (fun h => ?_)
      · refine qx_aload_n (pc := 100) 0 dX9_leaders_100 rfl ?_
        refine qx_iload_n (pc := 101) 1 dX9_leaders_101 rfl ?_
        refine qpM0_11 (pc := 102) qwf_X9_182 dX9_leaders_102 ?_
        refine qx_iconst (pc := 105) 0 dX9_leaders_105 (by decide) ?_
        refine qx_istore_n (pc := 106) (lv' := [(2, .int 0), (0, .ref (a 0)), (1, .int x1)]) dX9_leaders_106 (Nat.le_of_ble_eq_true rfl) rfl ?_
        exact qx_sub [1, 2, 0] rfl (qM_leaders_L107_ok qx_F _ _ _ h)
      · refine qx_aload_n (pc := 82) 0 dX9_leaders_82 rfl ?_
        refine qgM0_5 (pc := 83) qwf_X9_17 dX9_leaders_83 ?_
        refine qx_iconst (pc := 86) 1 dX9_leaders_86 (by decide) ?_
        refine qx_isub (pc := 87) dX9_leaders_87 ?_
        refine qx_iconst (pc := 88) 2 dX9_leaders_88 (by decide) ?_
        refine qx_iload_n (pc := 89) 1 dX9_leaders_89 rfl ?_
        refine qx_iconst (pc := 90) 1 dX9_leaders_90 (by decide) ?_
        refine qx_isub (pc := 91) dX9_leaders_91 ?_
        refine qx_imul (pc := 92) dX9_leaders_92 ?_
        refine qx_isub (pc := 93) dX9_leaders_93 ?_
        refine qx_if_ge (pc := 94) 100 h dX9_leaders_94 (by decide) (fun h => ?_) (fun h => ?_)
        · refine qx_aload_n (pc := 100) 0 dX9_leaders_100 rfl ?_
          refine qx_iload_n (pc := 101) 1 dX9_leaders_101 rfl ?_
          refine qpM0_11 (pc := 102) qwf_X9_182 dX9_leaders_102 ?_
          refine qx_iconst (pc := 105) 0 dX9_leaders_105 (by decide) ?_
          refine qx_istore_n (pc := 106) (lv' := [(2, .int 0), (0, .ref (a 0)), (1, .int x1)]) dX9_leaders_106 (Nat.le_of_ble_eq_true rfl) rfl ?_
          exact qx_sub [1, 2, 0] rfl (qM_leaders_L107_ok qx_F _ _ _ h)
        · refine qx_bipush (pc := 97) (-3) dX9_leaders_97 (by decide) ?_
          exact qx_iretS h rfl dX9_leaders_99
    · refine qx_aload_n (pc := 12) 0 dX9_leaders_12 rfl ?_
      refine qx_iload_n (pc := 13) 2 dX9_leaders_13 rfl ?_
      obtain ⟨r2, hr2, h⟩ := qx_bindE h
      refine qx_callVi (pc := 14) 0 r2 σ [.int x2] [] rfl rfl rfl qcm_X9_wants qcv_X9_wants qwm_X9_151 rfl (Nat.le_of_ble_eq_true rfl) (Nat.le_of_ble_eq_true rfl) (by decide) dX9_leaders_14 (qM_wants_ok hr2) ?_
      refine qx_if_eq (pc := 17) 72 h dX9_leaders_17 (by decide) (fun h => ?_) (fun h => ?_)
      · refine qx_iinc (pc := 72) (lv' := [(2, .int (x2 + 1)), (0, .ref (a 0)), (1, .int x1)]) 2 (x2 + 1) dX9_leaders_72 rfl rfl (Nat.le_of_ble_eq_true rfl) rfl ?_
        refine qx_goto (pc := 75) 4 dX9_leaders_75 (by decide) ?_
        exact qx_sub [1, 2, 0] rfl (ih _ _ _ _ h)
      · refine qx_iload_n (pc := 20) 1 dX9_leaders_20 rfl ?_
        refine qx_istore_n (pc := 21) (lv' := [(3, .int x1), (0, .ref (a 0)), (1, .int x1), (2, .int x2)]) dX9_leaders_21 (Nat.le_of_ble_eq_true rfl) rfl ?_
        exact qx_sub [1, 2, 3, 0] rfl (qM_leaders_L22_ok ih qx_F _ _ _ h)
set_option maxHeartbeats 4000000 in
set_option maxRecDepth 100000 in
theorem qM_leaders_ok {σ : QS} {r : Int32 × QS} (h : qM_leaders σ = some r) : qx_E (qx_gM l D ci a) 4 mX9_leaders (some (.int r.1), r.2) 0 [(0, .ref (a 0))] [] σ := by
  unfold qM_leaders at h
  refine qx_iconst (pc := 0) 0 dX9_leaders_0 (by decide) ?_
  refine qx_istore_n (pc := 1) (lv' := [(1, .int 0), (0, .ref (a 0))]) dX9_leaders_1 (Nat.le_of_ble_eq_true rfl) rfl ?_
  refine qx_iconst (pc := 2) 0 dX9_leaders_2 (by decide) ?_
  refine qx_istore_n (pc := 3) (lv' := [(2, .int 0), (1, .int 0), (0, .ref (a 0))]) dX9_leaders_3 (Nat.le_of_ble_eq_true rfl) rfl ?_
  exact qx_sub [2, 1, 0] rfl (qM_leaders_L4_ok qx_F _ _ _ _ h)
set_option maxHeartbeats 4000000 in
set_option maxRecDepth 100000 in
theorem qM_leader_ok {σ : QS} {x1 : Int32} {x2 : Int32} {r : Int32} (h : qM_leader σ x1 x2 = some r) : qx_E (qx_gM l D ci a) 2 mX9_leader (some (.int r), σ) 0 [(0, .ref (a 0)), (1, .int x1), (2, .int x2)] [] σ := by
  unfold qM_leader at h
  refine qx_iload_n (pc := 0) 1 dX9_leader_0 rfl ?_
  refine qx_if_lt (pc := 1) 16 h dX9_leader_1 (by decide) (fun h => ?_) (fun h => ?_)
  · refine qx_bipush (pc := 16) (-2) dX9_leader_16 (by decide) ?_
    exact qx_iret h rfl dX9_leader_18
  · refine qx_iload_n (pc := 4) 2 dX9_leader_4 rfl ?_
    refine qx_i2l (pc := 5) dX9_leader_5 ?_
    refine qx_lconst (pc := 6) 0 dX9_leader_6 (by decide) ?_
    refine qx_ldc2 (pc := 7) 3 dX9_leader_7 qwc_X9_185 ?_
    obtain ⟨r1, hr1, h⟩ := qx_bindE h
    refine qx_callSi (pc := 10) r1 σ [.long (x2.toInt64), .long 0, .long 3] [] rfl qcm_X9_in qcs_X9_in qwm_X9_51 rfl (Nat.le_of_ble_eq_true rfl) (Nat.le_of_ble_eq_true rfl) (by decide) dX9_leader_10 (qM_in_ok hr1) ?_
    refine qx_if_ne (pc := 13) 19 h dX9_leader_13 (by decide) (fun h => ?_) (fun h => ?_)
    · refine qx_iload_n (pc := 19) 1 dX9_leader_19 rfl ?_
      refine qx_aload_n (pc := 20) 0 dX9_leader_20 rfl ?_
      refine qgM0_11 (pc := 21) qwf_X9_182 dX9_leader_21 ?_
      refine qx_icmp_ge (pc := 24) 40 h dX9_leader_24 (by decide) (fun h => ?_) (fun h => ?_)
      · refine qx_iconst (pc := 40) (-1) dX9_leader_40 (by decide) ?_
        exact qx_iret h rfl dX9_leader_41
      · refine qx_aload_n (pc := 27) 0 dX9_leader_27 rfl ?_
        refine qgM0_10 (pc := 28) qwf_X9_33 dX9_leader_28 ?_
        refine qx_iconst (pc := 31) 4 dX9_leader_31 (by decide) ?_
        refine qx_iload_n (pc := 32) 1 dX9_leader_32 rfl ?_
        refine qx_imul (pc := 33) dX9_leader_33 ?_
        refine qx_iload_n (pc := 34) 2 dX9_leader_34 rfl ?_
        refine qx_iadd (pc := 35) dX9_leader_35 ?_
        refine qlM6 (pc := 36) h dX9_leader_36 (fun h => ?_)
        refine qx_goto (pc := 37) 41 dX9_leader_37 (by decide) ?_
        exact qx_iret h rfl dX9_leader_41
    · refine qx_bipush (pc := 16) (-2) dX9_leader_16 (by decide) ?_
      exact qx_iret h rfl dX9_leader_18
set_option maxHeartbeats 4000000 in
set_option maxRecDepth 100000 in
theorem qM_type_ok {σ : QS} {x1 : Int32} {r : Int32 × QS} (h : qM_type σ x1 = some r) : qx_E (qx_gM l D ci a) 2 mX9_type (some (.int r.1), r.2) 0 [(0, .ref (a 0)), (1, .int x1)] [] σ := by
  unfold qM_type at h
  refine qx_iload_n (pc := 0) 1 dX9_type_0 rfl ?_
  refine qx_i2l (pc := 1) dX9_type_1 ?_
  refine qx_lconst (pc := 2) 0 dX9_type_2 (by decide) ?_
  refine qx_ldc2 (pc := 3) 127 dX9_type_3 qwc_X9_187 ?_
  obtain ⟨r1, hr1, h⟩ := qx_bindE h
  refine qx_callSi (pc := 6) r1 σ [.long (x1.toInt64), .long 0, .long 127] [] rfl qcm_X9_in qcs_X9_in qwm_X9_51 rfl (Nat.le_of_ble_eq_true rfl) (Nat.le_of_ble_eq_true rfl) (by decide) dX9_type_6 (qM_in_ok hr1) ?_
  refine qx_if_ne (pc := 9) 15 h dX9_type_9 (by decide) (fun h => ?_) (fun h => ?_)
  · refine qx_aload_n (pc := 15) 0 dX9_type_15 rfl ?_
    refine qgM0_14 (pc := 16) qwf_X9_189 dX9_type_16 ?_
    refine qx_bipush (pc := 19) 80 dX9_type_19 (by decide) ?_
    refine qx_icmp_ne (pc := 21) 27 h dX9_type_21 (by decide) (fun h => ?_) (fun h => ?_)
    · refine qx_aload_n (pc := 27) 0 dX9_type_27 rfl ?_
      refine qgM0_13 (pc := 28) qwf_X9_39 dX9_type_28 ?_
      refine qx_aload_n (pc := 31) 0 dX9_type_31 rfl ?_
      refine qgM0_14 (pc := 32) qwf_X9_189 dX9_type_32 ?_
      refine qx_iload_n (pc := 35) 1 dX9_type_35 rfl ?_
      refine qsM8 (pc := 36) h dX9_type_36 (fun h => ?_)
      refine qx_aload_n (pc := 37) 0 dX9_type_37 rfl ?_
      refine qx_dup (pc := 38) dX9_type_38 rfl ?_
      refine qgM0_14 (pc := 39) qwf_X9_189 dX9_type_39 ?_
      refine qx_iconst (pc := 42) 1 dX9_type_42 (by decide) ?_
      refine qx_iadd (pc := 43) dX9_type_43 ?_
      refine qpM0_14 (pc := 44) qwf_X9_189 dX9_type_44 ?_
      refine qx_aload_n (pc := 47) 0 dX9_type_47 rfl ?_
      refine qgM0_14 (pc := 48) qwf_X9_189 dX9_type_48 ?_
      exact qx_iretS h rfl dX9_type_51
    · refine qx_bipush (pc := 24) (-4) dX9_type_24 (by decide) ?_
      exact qx_iretS h rfl dX9_type_26
  · refine qx_bipush (pc := 12) (-2) dX9_type_12 (by decide) ?_
    exact qx_iretS h rfl dX9_type_14
set_option maxHeartbeats 4000000 in
set_option maxRecDepth 100000 in
theorem qM_clear_ok {σ : QS} {r : Int32 × QS} (h : qM_clear σ = some r) : qx_E (qx_gM l D ci a) 1 mX9_clear (some (.int r.1), r.2) 0 [(0, .ref (a 0))] [] σ := by
  unfold qM_clear at h
  refine qx_aload_n (pc := 0) 0 dX9_clear_0 rfl ?_
  refine qgM0_14 (pc := 1) qwf_X9_189 dX9_clear_1 ?_
  refine qx_istore_n (pc := 4) (lv' := [(1, .int (σ.1 0 14)), (0, .ref (a 0))]) dX9_clear_4 (Nat.le_of_ble_eq_true rfl) rfl ?_
  refine qx_aload_n (pc := 5) 1 dX9_clear_5 rfl ?_
  refine qx_iconst (pc := 6) 0 dX9_clear_6 (by decide) ?_
  refine qpM0_14 (pc := 7) qwf_X9_189 dX9_clear_7 ?_
  refine qx_iload_n (pc := 10) 0 dX9_clear_10 rfl ?_
  exact qx_iretS h rfl dX9_clear_11
set_option maxHeartbeats 4000000 in
set_option maxRecDepth 100000 in
theorem qM_next_ok {σ : QS} {r : Int32} (h : qM_next σ = some r) : qx_E (qx_gM l D ci a) 1 mX9_next (some (.int r), σ) 0 [(0, .ref (a 0))] [] σ := by
  unfold qM_next at h
  refine qx_aload_n (pc := 0) 0 dX9_next_0 rfl ?_
  refine qgM0_15 (pc := 1) qwf_X9_192 dX9_next_1 ?_
  refine qx_aload_n (pc := 4) 0 dX9_next_4 rfl ?_
  refine qgM0_14 (pc := 5) qwf_X9_189 dX9_next_5 ?_
  refine qx_icmp_ge (pc := 8) 23 h dX9_next_8 (by decide) (fun h => ?_) (fun h => ?_)
  · refine qx_iconst (pc := 23) (-1) dX9_next_23 (by decide) ?_
    exact qx_iret h rfl dX9_next_24
  · refine qx_aload_n (pc := 11) 0 dX9_next_11 rfl ?_
    refine qgM0_13 (pc := 12) qwf_X9_39 dX9_next_12 ?_
    refine qx_aload_n (pc := 15) 0 dX9_next_15 rfl ?_
    refine qgM0_15 (pc := 16) qwf_X9_192 dX9_next_16 ?_
    refine qlM8 (pc := 19) h dX9_next_19 (fun h => ?_)
    refine qx_goto (pc := 20) 24 dX9_next_20 (by decide) ?_
    exact qx_iret h rfl dX9_next_24
set_option maxHeartbeats 4000000 in
set_option maxRecDepth 100000 in
theorem qM_skips_L0_ok : ∀ (n : Nat) (σ : QS) (r : QS), qM_skips_L0 n σ = some r → qx_E (qx_gM l D ci a) 2 mX9_skips (none, r) 0 [(0, .ref (a 0))] [] σ := by
  intro n
  induction n with
  | zero =>
    intro σ r h
    exact (qx_none h).elim
  | succ n ih =>
    intro σ r h
    unfold qM_skips_L0 at h
    refine qx_aload_n (pc := 0) 0 dX9_skips_0 rfl ?_
    obtain ⟨r1, hr1, h⟩ := qx_bindE h
    refine qx_callVi (pc := 1) 0 r1 σ [] [] rfl rfl rfl qcm_X9_next qcv_X9_next qwm_X9_195 rfl (Nat.le_of_ble_eq_true rfl) (Nat.le_of_ble_eq_true rfl) (by decide) dX9_skips_1 (qM_next_ok hr1) ?_
    refine qx_bipush (pc := 4) 32 dX9_skips_4 (by decide) ?_
    refine qx_icmp_ne (pc := 6) 22 h dX9_skips_6 (by decide) (fun h => ?_) (fun h => ?_)
    · exact qx_vret h rfl dX9_skips_22
    · refine qx_aload_n (pc := 9) 0 dX9_skips_9 rfl ?_
      refine qx_dup (pc := 10) dX9_skips_10 rfl ?_
      refine qgM0_15 (pc := 11) qwf_X9_192 dX9_skips_11 ?_
      refine qx_iconst (pc := 14) 1 dX9_skips_14 (by decide) ?_
      refine qx_iadd (pc := 15) dX9_skips_15 ?_
      refine qpM0_15 (pc := 16) qwf_X9_192 dX9_skips_16 ?_
      refine qx_goto (pc := 19) 0 dX9_skips_19 (by decide) ?_
      exact (ih _ _ h)
set_option maxHeartbeats 4000000 in
set_option maxRecDepth 100000 in
theorem qM_skips_ok {σ : QS} {r : QS} (h : qM_skips σ = some r) : qx_E (qx_gM l D ci a) 2 mX9_skips (none, r) 0 [(0, .ref (a 0))] [] σ := by
  unfold qM_skips at h
  exact (qM_skips_L0_ok qx_F _ _ h)
set_option maxHeartbeats 4000000 in
set_option maxRecDepth 100000 in
theorem qM_fails_ok {σ : QS} {x1 : Int32} {r : QS} (h : qM_fails σ x1 = some r) : qx_E (qx_gM l D ci a) 1 mX9_fails (none, r) 0 [(0, .ref (a 0)), (1, .int x1)] [] σ := by
  unfold qM_fails at h
  refine qx_aload_n (pc := 0) 0 dX9_fails_0 rfl ?_
  refine qx_aload_n (pc := 1) 0 dX9_fails_1 rfl ?_
  refine qgM0_16 (pc := 2) qwf_X9_198 dX9_fails_2 ?_
  refine qx_iconst (pc := 5) (-1) dX9_fails_5 (by decide) ?_
  refine qx_icmp_ne (pc := 6) 13 h dX9_fails_6 (by decide) (fun h => ?_) (fun h => ?_)
  · refine qx_aload_n (pc := 13) 0 dX9_fails_13 rfl ?_
    refine qgM0_16 (pc := 14) qwf_X9_198 dX9_fails_14 ?_
    refine qpM0_16 (pc := 17) qwf_X9_198 dX9_fails_17 ?_
    exact qx_vret h rfl dX9_fails_20
  · refine qx_iload_n (pc := 9) 1 dX9_fails_9 rfl ?_
    refine qx_goto (pc := 10) 17 dX9_fails_10 (by decide) ?_
    refine qpM0_16 (pc := 17) qwf_X9_198 dX9_fails_17 ?_
    exact qx_vret h rfl dX9_fails_20
set_option maxHeartbeats 4000000 in
set_option maxRecDepth 100000 in
theorem qM_readsWord_L5_ok : ∀ (n : Nat) (σ : QS) (r : QS), qM_readsWord_L5 n σ = some r → qx_E (qx_gM l D ci a) 2 mX9_readsWord (none, r) 5 [(0, .ref (a 0))] [] σ := by
  intro n
  induction n with
  | zero =>
    intro σ r h
    exact (qx_none h).elim
  | succ n ih =>
    intro σ r h
    unfold qM_readsWord_L5 at h
    refine qx_aload_n (pc := 5) 0 dX9_readsWord_5 rfl ?_
    obtain ⟨r1, hr1, h⟩ := qx_bindE h
    refine qx_callVi (pc := 6) 0 r1 σ [] [] rfl rfl rfl qcm_X9_next qcv_X9_next qwm_X9_195 rfl (Nat.le_of_ble_eq_true rfl) (Nat.le_of_ble_eq_true rfl) (by decide) dX9_readsWord_6 (qM_next_ok hr1) ?_
    refine qx_i2l (pc := 9) dX9_readsWord_9 ?_
    refine qx_ldc2 (pc := 10) 97 dX9_readsWord_10 qwc_X9_204 ?_
    refine qx_ldc2 (pc := 13) 122 dX9_readsWord_13 qwc_X9_206 ?_
    obtain ⟨r2, hr2, h⟩ := qx_bindE h
    refine qx_callSi (pc := 16) r2 σ [.long (r1.toInt64), .long 97, .long 122] [] rfl qcm_X9_in qcs_X9_in qwm_X9_51 rfl (Nat.le_of_ble_eq_true rfl) (Nat.le_of_ble_eq_true rfl) (by decide) dX9_readsWord_16 (qM_in_ok hr2) ?_
    refine qx_if_eq (pc := 19) 58 h dX9_readsWord_19 (by decide) (fun h => ?_) (fun h => ?_)
    · exact qx_vret h rfl dX9_readsWord_58
    · refine qx_aload_n (pc := 22) 0 dX9_readsWord_22 rfl ?_
      refine qgM0_17 (pc := 23) qwf_X9_42 dX9_readsWord_23 ?_
      refine qx_aload_n (pc := 26) 0 dX9_readsWord_26 rfl ?_
      refine qgM0_18 (pc := 27) qwf_X9_201 dX9_readsWord_27 ?_
      refine qx_aload_n (pc := 30) 0 dX9_readsWord_30 rfl ?_
      obtain ⟨r3, hr3, h⟩ := qx_bindE h
      refine qx_callVi (pc := 31) 0 r3 σ [] [.int (σ.1 0 18), .ref (a 9)] rfl rfl rfl qcm_X9_next qcv_X9_next qwm_X9_195 rfl (Nat.le_of_ble_eq_true rfl) (Nat.le_of_ble_eq_true rfl) (by decide) dX9_readsWord_31 (qM_next_ok hr3) ?_
      refine qsM9 (pc := 34) h dX9_readsWord_34 (fun h => ?_)
      refine qx_aload_n (pc := 35) 0 dX9_readsWord_35 rfl ?_
      refine qx_dup (pc := 36) dX9_readsWord_36 rfl ?_
      refine qgM0_18 (pc := 37) qwf_X9_201 dX9_readsWord_37 ?_
      refine qx_iconst (pc := 40) 1 dX9_readsWord_40 (by decide) ?_
      refine qx_iadd (pc := 41) dX9_readsWord_41 ?_
      refine qpM0_18 (pc := 42) qwf_X9_201 dX9_readsWord_42 ?_
      refine qx_aload_n (pc := 45) 0 dX9_readsWord_45 rfl ?_
      refine qx_dup (pc := 46) dX9_readsWord_46 rfl ?_
      refine qgM0_15 (pc := 47) qwf_X9_192 dX9_readsWord_47 ?_
      refine qx_iconst (pc := 50) 1 dX9_readsWord_50 (by decide) ?_
      refine qx_iadd (pc := 51) dX9_readsWord_51 ?_
      refine qpM0_15 (pc := 52) qwf_X9_192 dX9_readsWord_52 ?_
      refine qx_goto (pc := 55) 5 dX9_readsWord_55 (by decide) ?_
      exact (ih _ _ h)
set_option maxHeartbeats 4000000 in
set_option maxRecDepth 100000 in
theorem qM_readsWord_ok {σ : QS} {r : QS} (h : qM_readsWord σ = some r) : qx_E (qx_gM l D ci a) 2 mX9_readsWord (none, r) 0 [(0, .ref (a 0))] [] σ := by
  unfold qM_readsWord at h
  refine qx_aload_n (pc := 0) 0 dX9_readsWord_0 rfl ?_
  refine qx_iconst (pc := 1) 0 dX9_readsWord_1 (by decide) ?_
  refine qpM0_18 (pc := 2) qwf_X9_201 dX9_readsWord_2 ?_
  exact (qM_readsWord_L5_ok qx_F _ _ h)
set_option maxHeartbeats 4000000 in
set_option maxRecDepth 100000 in
theorem qM_isWord_J156_ok {σ : QS} {x7 : Int32} {x8 : Int32} {r : Int32} (h : qM_isWord_J156 σ x7 x8 = some r) : qx_E (qx_gM l D ci a) 1 mX9_isWord (some (.int r), σ) 156 [(0, .ref (a 0)), (7, .int x7), (8, .int x8)] [] σ := by
  unfold qM_isWord_J156 at h
  refine qx_iload (pc := 156) 2 dX9_isWord_156 rfl ?_
  refine qx_bipush (pc := 158) 7 dX9_isWord_158 (by decide) ?_
  refine qx_icmp_lt (pc := 160) 175 h dX9_isWord_160 (by decide) (fun h => ?_) (fun h => ?_)
  · refine qx_iconst (pc := 175) 1 dX9_isWord_175 (by decide) ?_
    refine qx_goto (pc := 176) 180 dX9_isWord_176 (by decide) ?_
    exact qx_nret h rfl rfl dX9_isWord_180
  · refine qx_aload_n (pc := 163) 0 dX9_isWord_163 rfl ?_
    refine qgM0_17 (pc := 164) qwf_X9_42 dX9_isWord_164 ?_
    refine qx_bipush (pc := 167) 6 dX9_isWord_167 (by decide) ?_
    refine qlM9 (pc := 169) h dX9_isWord_169 (fun h => ?_)
    refine qx_iload (pc := 170) 1 dX9_isWord_170 rfl ?_
    refine qx_icmp_ne (pc := 172) 179 h dX9_isWord_172 (by decide) (fun h => ?_) (fun h => ?_)
    · refine qx_iconst (pc := 179) 0 dX9_isWord_179 (by decide) ?_
      exact qx_nret h rfl rfl dX9_isWord_180
    · refine qx_iconst (pc := 175) 1 dX9_isWord_175 (by decide) ?_
      refine qx_goto (pc := 176) 180 dX9_isWord_176 (by decide) ?_
      exact qx_nret h rfl rfl dX9_isWord_180
set_option maxHeartbeats 4000000 in
set_option maxRecDepth 100000 in
theorem qM_isWord_J131_ok {σ : QS} {x6 : Int32} {x7 : Int32} {x8 : Int32} {s0 : Int32} {r : Int32} (h : qM_isWord_J131 σ x6 x7 x8 s0 = some r) : qx_E (qx_gM l D ci a) 1 mX9_isWord (some (.int r), σ) 131 [(0, .ref (a 0)), (6, .int x6), (7, .int x7), (8, .int x8)] [.int s0] σ := by
  unfold qM_isWord_J131 at h
  refine qx_istore (pc := 131) (lv' := [(9, .int s0), (0, .ref (a 0)), (6, .int x6), (7, .int x7), (8, .int x8)]) dX9_isWord_131 (Nat.le_of_ble_eq_true rfl) rfl ?_
  refine qx_iload (pc := 133) 0 dX9_isWord_133 rfl ?_
  refine qx_if_eq (pc := 135) 179 h dX9_isWord_135 (by decide) (fun h => ?_) (fun h => ?_)
  · refine qx_iconst (pc := 179) 0 dX9_isWord_179 (by decide) ?_
    exact qx_nret h rfl rfl dX9_isWord_180
  · refine qx_iload (pc := 138) 4 dX9_isWord_138 rfl ?_
    refine qx_bipush (pc := 140) 6 dX9_isWord_140 (by decide) ?_
    refine qx_icmp_lt (pc := 142) 156 h dX9_isWord_142 (by decide) (fun h => ?_) (fun h => ?_)
    · exact qx_sub [1, 3, 4] rfl (qM_isWord_J156_ok h)
    · refine qx_aload_n (pc := 145) 1 dX9_isWord_145 rfl ?_
      refine qgM0_17 (pc := 146) qwf_X9_42 dX9_isWord_146 ?_
      refine qx_iconst (pc := 149) 5 dX9_isWord_149 (by decide) ?_
      refine qlM9 (pc := 150) h dX9_isWord_150 (fun h => ?_)
      refine qx_iload (pc := 151) 2 dX9_isWord_151 rfl ?_
      refine qx_icmp_ne (pc := 153) 179 h dX9_isWord_153 (by decide) (fun h => ?_) (fun h => ?_)
      · refine qx_iconst (pc := 179) 0 dX9_isWord_179 (by decide) ?_
        exact qx_nret h rfl rfl dX9_isWord_180
      · exact qx_sub [1, 3, 4] rfl (qM_isWord_J156_ok h)
set_option maxHeartbeats 4000000 in
set_option maxRecDepth 100000 in
theorem qM_isWord_J109_ok {σ : QS} {x5 : Int32} {x6 : Int32} {x7 : Int32} {x8 : Int32} {r : Int32} (h : qM_isWord_J109 σ x5 x6 x7 x8 = some r) : qx_E (qx_gM l D ci a) 1 mX9_isWord (some (.int r), σ) 109 [(0, .ref (a 0)), (5, .int x5), (6, .int x6), (7, .int x7), (8, .int x8)] [] σ := by
  unfold qM_isWord_J109 at h
  refine qx_iload (pc := 109) 4 dX9_isWord_109 rfl ?_
  refine qx_iconst (pc := 111) 5 dX9_isWord_111 (by decide) ?_
  refine qx_icmp_lt (pc := 112) 126 h dX9_isWord_112 (by decide) (fun h => ?_) (fun h => ?_)
  · refine qx_iconst (pc := 126) 1 dX9_isWord_126 (by decide) ?_
    refine qx_goto (pc := 127) 131 dX9_isWord_127 (by decide) ?_
    exact qx_sub [0, 2, 3, 4] rfl (qM_isWord_J131_ok h)
  · refine qx_aload_n (pc := 115) 0 dX9_isWord_115 rfl ?_
    refine qgM0_17 (pc := 116) qwf_X9_42 dX9_isWord_116 ?_
    refine qx_iconst (pc := 119) 4 dX9_isWord_119 (by decide) ?_
    refine qlM9 (pc := 120) h dX9_isWord_120 (fun h => ?_)
    refine qx_iload (pc := 121) 1 dX9_isWord_121 rfl ?_
    refine qx_icmp_ne (pc := 123) 130 h dX9_isWord_123 (by decide) (fun h => ?_) (fun h => ?_)
    · refine qx_iconst (pc := 130) 0 dX9_isWord_130 (by decide) ?_
      exact qx_sub [0, 2, 3, 4] rfl (qM_isWord_J131_ok h)
    · refine qx_iconst (pc := 126) 1 dX9_isWord_126 (by decide) ?_
      refine qx_goto (pc := 127) 131 dX9_isWord_127 (by decide) ?_
      exact qx_sub [0, 2, 3, 4] rfl (qM_isWord_J131_ok h)
set_option maxHeartbeats 4000000 in
set_option maxRecDepth 100000 in
theorem qM_isWord_J85_ok {σ : QS} {x4 : Int32} {x5 : Int32} {x6 : Int32} {x7 : Int32} {x8 : Int32} {s0 : Int32} {r : Int32} (h : qM_isWord_J85 σ x4 x5 x6 x7 x8 s0 = some r) : qx_E (qx_gM l D ci a) 1 mX9_isWord (some (.int r), σ) 85 [(0, .ref (a 0)), (4, .int x4), (5, .int x5), (6, .int x6), (7, .int x7), (8, .int x8)] [.int s0] σ := by
  unfold qM_isWord_J85 at h
  refine qx_istore (pc := 85) (lv' := [(9, .int s0), (0, .ref (a 0)), (4, .int x4), (5, .int x5), (6, .int x6), (7, .int x7), (8, .int x8)]) dX9_isWord_85 (Nat.le_of_ble_eq_true rfl) rfl ?_
  refine qx_iload (pc := 87) 0 dX9_isWord_87 rfl ?_
  refine qx_if_eq (pc := 89) 130 h dX9_isWord_89 (by decide) (fun h => ?_) (fun h => ?_)
  · refine qx_iconst (pc := 130) 0 dX9_isWord_130 (by decide) ?_
    exact qx_sub [1, 4, 5, 6] rfl (qM_isWord_J131_ok h)
  · refine qx_iload (pc := 92) 6 dX9_isWord_92 rfl ?_
    refine qx_iconst (pc := 94) 4 dX9_isWord_94 (by decide) ?_
    refine qx_icmp_lt (pc := 95) 109 h dX9_isWord_95 (by decide) (fun h => ?_) (fun h => ?_)
    · exact qx_sub [1, 3, 4, 5, 6] rfl (qM_isWord_J109_ok h)
    · refine qx_aload_n (pc := 98) 1 dX9_isWord_98 rfl ?_
      refine qgM0_17 (pc := 99) qwf_X9_42 dX9_isWord_99 ?_
      refine qx_iconst (pc := 102) 3 dX9_isWord_102 (by decide) ?_
      refine qlM9 (pc := 103) h dX9_isWord_103 (fun h => ?_)
      refine qx_iload (pc := 104) 2 dX9_isWord_104 rfl ?_
      refine qx_icmp_ne (pc := 106) 130 h dX9_isWord_106 (by decide) (fun h => ?_) (fun h => ?_)
      · refine qx_iconst (pc := 130) 0 dX9_isWord_130 (by decide) ?_
        exact qx_sub [1, 4, 5, 6] rfl (qM_isWord_J131_ok h)
      · exact qx_sub [1, 3, 4, 5, 6] rfl (qM_isWord_J109_ok h)
set_option maxHeartbeats 4000000 in
set_option maxRecDepth 100000 in
theorem qM_isWord_J39_ok {σ : QS} {x1 : Int32} {x2 : Int32} {x3 : Int32} {x4 : Int32} {x5 : Int32} {x6 : Int32} {x7 : Int32} {s0 : Int32} {r : Int32} (h : qM_isWord_J39 σ x1 x2 x3 x4 x5 x6 x7 s0 = some r) : qx_E (qx_gM l D ci a) 1 mX9_isWord (some (.int r), σ) 39 [(0, .ref (a 0)), (1, .int x1), (2, .int x2), (3, .int x3), (4, .int x4), (5, .int x5), (6, .int x6), (7, .int x7)] [.int s0] σ := by
  unfold qM_isWord_J39 at h
  refine qx_istore (pc := 39) (lv' := [(8, .int s0), (0, .ref (a 0)), (1, .int x1), (2, .int x2), (3, .int x3), (4, .int x4), (5, .int x5), (6, .int x6), (7, .int x7)]) dX9_isWord_39 (Nat.le_of_ble_eq_true rfl) rfl ?_
  refine qx_aload_n (pc := 41) 1 dX9_isWord_41 rfl ?_
  refine qgM0_18 (pc := 42) qwf_X9_201 dX9_isWord_42 ?_
  refine qx_iload (pc := 45) 0 dX9_isWord_45 rfl ?_
  refine qx_icmp_ne (pc := 47) 84 h dX9_isWord_47 (by decide) (fun h => ?_) (fun h => ?_)
  · refine qx_iconst (pc := 84) 0 dX9_isWord_84 (by decide) ?_
    exact qx_sub [1, 5, 6, 7, 8, 0] rfl (qM_isWord_J85_ok h)
  · refine qx_aload_n (pc := 50) 1 dX9_isWord_50 rfl ?_
    refine qgM0_17 (pc := 51) qwf_X9_42 dX9_isWord_51 ?_
    refine qx_iconst (pc := 54) 0 dX9_isWord_54 (by decide) ?_
    refine qlM9 (pc := 55) h dX9_isWord_55 (fun h => ?_)
    refine qx_iload_n (pc := 56) 2 dX9_isWord_56 rfl ?_
    refine qx_icmp_ne (pc := 57) 84 h dX9_isWord_57 (by decide) (fun h => ?_) (fun h => ?_)
    · refine qx_iconst (pc := 84) 0 dX9_isWord_84 (by decide) ?_
      exact qx_sub [1, 5, 6, 7, 8, 0] rfl (qM_isWord_J85_ok h)
    · refine qx_aload_n (pc := 60) 1 dX9_isWord_60 rfl ?_
      refine qgM0_17 (pc := 61) qwf_X9_42 dX9_isWord_61 ?_
      refine qx_iconst (pc := 64) 1 dX9_isWord_64 (by decide) ?_
      refine qlM9 (pc := 65) h dX9_isWord_65 (fun h => ?_)
      refine qx_iload_n (pc := 66) 3 dX9_isWord_66 rfl ?_
      refine qx_icmp_ne (pc := 67) 84 h dX9_isWord_67 (by decide) (fun h => ?_) (fun h => ?_)
      · refine qx_iconst (pc := 84) 0 dX9_isWord_84 (by decide) ?_
        exact qx_sub [1, 5, 6, 7, 8, 0] rfl (qM_isWord_J85_ok h)
      · refine qx_aload_n (pc := 70) 1 dX9_isWord_70 rfl ?_
        refine qgM0_17 (pc := 71) qwf_X9_42 dX9_isWord_71 ?_
        refine qx_iconst (pc := 74) 2 dX9_isWord_74 (by decide) ?_
        refine qlM9 (pc := 75) h dX9_isWord_75 (fun h => ?_)
        refine qx_iload_n (pc := 76) 4 dX9_isWord_76 rfl ?_
        refine qx_icmp_ne (pc := 77) 84 h dX9_isWord_77 (by decide) (fun h => ?_) (fun h => ?_)
        · refine qx_iconst (pc := 84) 0 dX9_isWord_84 (by decide) ?_
          exact qx_sub [1, 5, 6, 7, 8, 0] rfl (qM_isWord_J85_ok h)
        · refine qx_iconst (pc := 80) 1 dX9_isWord_80 (by decide) ?_
          refine qx_goto (pc := 81) 85 dX9_isWord_81 (by decide) ?_
          exact qx_sub [1, 5, 6, 7, 8, 0] rfl (qM_isWord_J85_ok h)
set_option maxHeartbeats 4000000 in
set_option maxRecDepth 100000 in
theorem qM_isWord_ok {σ : QS} {x1 : Int32} {x2 : Int32} {x3 : Int32} {x4 : Int32} {x5 : Int32} {x6 : Int32} {x7 : Int32} {r : Int32} (h : qM_isWord σ x1 x2 x3 x4 x5 x6 x7 = some r) : qx_E (qx_gM l D ci a) 1 mX9_isWord (some (.int r), σ) 0 [(0, .ref (a 0)), (1, .int x1), (2, .int x2), (3, .int x3), (4, .int x4), (5, .int x5), (6, .int x6), (7, .int x7)] [] σ := by
  unfold qM_isWord at h
  refine qx_iload (pc := 0) 7 dX9_isWord_0 rfl ?_
  refine qx_if_le (pc := 2) 10 h dX9_isWord_2 (by decide) (fun h => ?_) (fun h => ?_)
  · refine qx_iload (pc := 10) 6 dX9_isWord_10 rfl ?_
    refine qx_if_le (pc := 12) 20 h dX9_isWord_12 (by decide) (fun h => ?_) (fun h => ?_)
    · refine qx_iload (pc := 20) 5 dX9_isWord_20 rfl ?_
      refine qx_if_le (pc := 22) 29 h dX9_isWord_22 (by decide) (fun h => ?_) (fun h => ?_)
      · refine qx_iload (pc := 29) 4 dX9_isWord_29 rfl ?_
        refine qx_if_le (pc := 31) 38 h dX9_isWord_31 (by decide) (fun h => ?_) (fun h => ?_)
        · refine qx_iconst (pc := 38) 3 dX9_isWord_38 (by decide) ?_
          exact (qM_isWord_J39_ok h)
        · refine qx_iconst (pc := 34) 4 dX9_isWord_34 (by decide) ?_
          refine qx_goto (pc := 35) 39 dX9_isWord_35 (by decide) ?_
          exact (qM_isWord_J39_ok h)
      · refine qx_iconst (pc := 25) 5 dX9_isWord_25 (by decide) ?_
        refine qx_goto (pc := 26) 39 dX9_isWord_26 (by decide) ?_
        exact (qM_isWord_J39_ok h)
    · refine qx_bipush (pc := 15) 6 dX9_isWord_15 (by decide) ?_
      refine qx_goto (pc := 17) 39 dX9_isWord_17 (by decide) ?_
      exact (qM_isWord_J39_ok h)
  · refine qx_bipush (pc := 5) 7 dX9_isWord_5 (by decide) ?_
    refine qx_goto (pc := 7) 39 dX9_isWord_7 (by decide) ?_
    exact (qM_isWord_J39_ok h)
end
