section
variable {l : Launch} {D : va_G} {ci : Nat → ClassId} {a z : Nat → Nat}
theorem dX6_at_0 : decode cX6_at 0 = .ok (.iload_n 1, 1) := by decide +kernel
theorem dX6_at_1 : decode cX6_at 1 = .ok (.ifCond .lt 20, 3) := by decide +kernel
theorem dX6_at_4 : decode cX6_at 4 = .ok (.iload_n 1, 1) := by decide +kernel
theorem dX6_at_5 : decode cX6_at 5 = .ok (.aload_n 0, 1) := by decide +kernel
theorem dX6_at_6 : decode cX6_at 6 = .ok (.getfield 9, 3) := by decide +kernel
theorem dX6_at_9 : decode cX6_at 9 = .ok (.if_icmp .ge 12, 3) := by decide +kernel
theorem dX6_at_12 : decode cX6_at 12 = .ok (.aload_n 0, 1) := by decide +kernel
theorem dX6_at_13 : decode cX6_at 13 = .ok (.getfield 15, 3) := by decide +kernel
theorem dX6_at_16 : decode cX6_at 16 = .ok (.iload_n 1, 1) := by decide +kernel
theorem dX6_at_17 : decode cX6_at 17 = .ok (.baload, 1) := by decide +kernel
theorem dX6_at_18 : decode cX6_at 18 = .ok (.goto 4, 3) := by decide +kernel
theorem dX6_at_21 : decode cX6_at 21 = .ok (.iconst (-1), 1) := by decide +kernel
theorem dX6_at_22 : decode cX6_at 22 = .ok (.ireturn, 1) := by decide +kernel
theorem dX6_isWord_0 : decode cX6_isWord 0 = .ok (.iload_n 2, 1) := by decide +kernel
theorem dX6_isWord_1 : decode cX6_isWord 1 = .ok (.iload_n 1, 1) := by decide +kernel
theorem dX6_isWord_2 : decode cX6_isWord 2 = .ok (.isub, 1) := by decide +kernel
theorem dX6_isWord_3 : decode cX6_isWord 3 = .ok (.aload_n 3, 1) := by decide +kernel
theorem dX6_isWord_4 : decode cX6_isWord 4 = .ok (.invokevirtual 23, 3) := by decide +kernel
theorem dX6_isWord_7 : decode cX6_isWord 7 = .ok (.if_icmp .eq 5, 3) := by decide +kernel
theorem dX6_isWord_10 : decode cX6_isWord 10 = .ok (.iconst 0, 1) := by decide +kernel
theorem dX6_isWord_11 : decode cX6_isWord 11 = .ok (.ireturn, 1) := by decide +kernel
theorem dX6_isWord_12 : decode cX6_isWord 12 = .ok (.iconst 0, 1) := by decide +kernel
theorem dX6_isWord_13 : decode cX6_isWord 13 = .ok (.istore 4, 2) := by decide +kernel
theorem dX6_isWord_15 : decode cX6_isWord 15 = .ok (.iload 4, 2) := by decide +kernel
theorem dX6_isWord_17 : decode cX6_isWord 17 = .ok (.aload_n 3, 1) := by decide +kernel
theorem dX6_isWord_18 : decode cX6_isWord 18 = .ok (.invokevirtual 23, 3) := by decide +kernel
theorem dX6_isWord_21 : decode cX6_isWord 21 = .ok (.if_icmp .ge 28, 3) := by decide +kernel
theorem dX6_isWord_24 : decode cX6_isWord 24 = .ok (.aload_n 0, 1) := by decide +kernel
theorem dX6_isWord_25 : decode cX6_isWord 25 = .ok (.iload_n 1, 1) := by decide +kernel
theorem dX6_isWord_26 : decode cX6_isWord 26 = .ok (.iload 4, 2) := by decide +kernel
theorem dX6_isWord_28 : decode cX6_isWord 28 = .ok (.iadd, 1) := by decide +kernel
theorem dX6_isWord_29 : decode cX6_isWord 29 = .ok (.invokevirtual 19, 3) := by decide +kernel
theorem dX6_isWord_32 : decode cX6_isWord 32 = .ok (.aload_n 3, 1) := by decide +kernel
theorem dX6_isWord_33 : decode cX6_isWord 33 = .ok (.iload 4, 2) := by decide +kernel
theorem dX6_isWord_35 : decode cX6_isWord 35 = .ok (.invokevirtual 28, 3) := by decide +kernel
theorem dX6_isWord_38 : decode cX6_isWord 38 = .ok (.if_icmp .eq 5, 3) := by decide +kernel
theorem dX6_isWord_41 : decode cX6_isWord 41 = .ok (.iconst 0, 1) := by decide +kernel
theorem dX6_isWord_42 : decode cX6_isWord 42 = .ok (.ireturn, 1) := by decide +kernel
theorem dX6_isWord_43 : decode cX6_isWord 43 = .ok (.iinc 4 1, 3) := by decide +kernel
theorem dX6_isWord_46 : decode cX6_isWord 46 = .ok (.goto (-31), 3) := by decide +kernel
theorem dX6_isWord_49 : decode cX6_isWord 49 = .ok (.iconst 1, 1) := by decide +kernel
theorem dX6_isWord_50 : decode cX6_isWord 50 = .ok (.ireturn, 1) := by decide +kernel
theorem dX0_kindOf_0 : decode cX0_kindOf 0 = .ok (.aload_n 0, 1) := by decide +kernel
theorem dX0_kindOf_1 : decode cX0_kindOf 1 = .ok (.iload_n 1, 1) := by decide +kernel
theorem dX0_kindOf_2 : decode cX0_kindOf 2 = .ok (.iload_n 2, 1) := by decide +kernel
theorem dX0_kindOf_3 : decode cX0_kindOf 3 = .ok (.ldc 46, 2) := by decide +kernel
theorem dX0_kindOf_5 : decode cX0_kindOf 5 = .ok (.invokevirtual 48, 3) := by decide +kernel
theorem dX0_kindOf_8 : decode cX0_kindOf 8 = .ok (.ifCond .eq 5, 3) := by decide +kernel
theorem dX0_kindOf_11 : decode cX0_kindOf 11 = .ok (.iconst 0, 1) := by decide +kernel
theorem dX0_kindOf_12 : decode cX0_kindOf 12 = .ok (.ireturn, 1) := by decide +kernel
theorem dX0_kindOf_13 : decode cX0_kindOf 13 = .ok (.aload_n 0, 1) := by decide +kernel
theorem dX0_kindOf_14 : decode cX0_kindOf 14 = .ok (.iload_n 1, 1) := by decide +kernel
theorem dX0_kindOf_15 : decode cX0_kindOf 15 = .ok (.iload_n 2, 1) := by decide +kernel
theorem dX0_kindOf_16 : decode cX0_kindOf 16 = .ok (.ldc 52, 2) := by decide +kernel
theorem dX0_kindOf_18 : decode cX0_kindOf 18 = .ok (.invokevirtual 48, 3) := by decide +kernel
theorem dX0_kindOf_21 : decode cX0_kindOf 21 = .ok (.ifCond .eq 5, 3) := by decide +kernel
theorem dX0_kindOf_24 : decode cX0_kindOf 24 = .ok (.iconst 1, 1) := by decide +kernel
theorem dX0_kindOf_25 : decode cX0_kindOf 25 = .ok (.ireturn, 1) := by decide +kernel
theorem dX0_kindOf_26 : decode cX0_kindOf 26 = .ok (.aload_n 0, 1) := by decide +kernel
theorem dX0_kindOf_27 : decode cX0_kindOf 27 = .ok (.iload_n 1, 1) := by decide +kernel
theorem dX0_kindOf_28 : decode cX0_kindOf 28 = .ok (.iload_n 2, 1) := by decide +kernel
theorem dX0_kindOf_29 : decode cX0_kindOf 29 = .ok (.ldc 54, 2) := by decide +kernel
theorem dX0_kindOf_31 : decode cX0_kindOf 31 = .ok (.invokevirtual 48, 3) := by decide +kernel
theorem dX0_kindOf_34 : decode cX0_kindOf 34 = .ok (.ifCond .eq 5, 3) := by decide +kernel
theorem dX0_kindOf_37 : decode cX0_kindOf 37 = .ok (.iconst 2, 1) := by decide +kernel
theorem dX0_kindOf_38 : decode cX0_kindOf 38 = .ok (.ireturn, 1) := by decide +kernel
theorem dX0_kindOf_39 : decode cX0_kindOf 39 = .ok (.aload_n 0, 1) := by decide +kernel
theorem dX0_kindOf_40 : decode cX0_kindOf 40 = .ok (.iload_n 1, 1) := by decide +kernel
theorem dX0_kindOf_41 : decode cX0_kindOf 41 = .ok (.iload_n 2, 1) := by decide +kernel
theorem dX0_kindOf_42 : decode cX0_kindOf 42 = .ok (.ldc 56, 2) := by decide +kernel
theorem dX0_kindOf_44 : decode cX0_kindOf 44 = .ok (.invokevirtual 48, 3) := by decide +kernel
theorem dX0_kindOf_47 : decode cX0_kindOf 47 = .ok (.ifCond .eq 5, 3) := by decide +kernel
theorem dX0_kindOf_50 : decode cX0_kindOf 50 = .ok (.iconst 3, 1) := by decide +kernel
theorem dX0_kindOf_51 : decode cX0_kindOf 51 = .ok (.ireturn, 1) := by decide +kernel
theorem dX0_kindOf_52 : decode cX0_kindOf 52 = .ok (.aload_n 0, 1) := by decide +kernel
theorem dX0_kindOf_53 : decode cX0_kindOf 53 = .ok (.iload_n 1, 1) := by decide +kernel
theorem dX0_kindOf_54 : decode cX0_kindOf 54 = .ok (.iload_n 2, 1) := by decide +kernel
theorem dX0_kindOf_55 : decode cX0_kindOf 55 = .ok (.ldc 58, 2) := by decide +kernel
theorem dX0_kindOf_57 : decode cX0_kindOf 57 = .ok (.invokevirtual 48, 3) := by decide +kernel
theorem dX0_kindOf_60 : decode cX0_kindOf 60 = .ok (.ifCond .eq 5, 3) := by decide +kernel
theorem dX0_kindOf_63 : decode cX0_kindOf 63 = .ok (.iconst 4, 1) := by decide +kernel
theorem dX0_kindOf_64 : decode cX0_kindOf 64 = .ok (.ireturn, 1) := by decide +kernel
theorem dX0_kindOf_65 : decode cX0_kindOf 65 = .ok (.aload_n 0, 1) := by decide +kernel
theorem dX0_kindOf_66 : decode cX0_kindOf 66 = .ok (.iload_n 1, 1) := by decide +kernel
theorem dX0_kindOf_67 : decode cX0_kindOf 67 = .ok (.iload_n 2, 1) := by decide +kernel
theorem dX0_kindOf_68 : decode cX0_kindOf 68 = .ok (.ldc 60, 2) := by decide +kernel
theorem dX0_kindOf_70 : decode cX0_kindOf 70 = .ok (.invokevirtual 48, 3) := by decide +kernel
theorem dX0_kindOf_73 : decode cX0_kindOf 73 = .ok (.ifCond .eq 7, 3) := by decide +kernel
theorem dX0_kindOf_76 : decode cX0_kindOf 76 = .ok (.iconst 5, 1) := by decide +kernel
theorem dX0_kindOf_77 : decode cX0_kindOf 77 = .ok (.goto 4, 3) := by decide +kernel
theorem dX0_kindOf_80 : decode cX0_kindOf 80 = .ok (.iconst (-1), 1) := by decide +kernel
theorem dX0_kindOf_81 : decode cX0_kindOf 81 = .ok (.ireturn, 1) := by decide +kernel
theorem dX0_skipBlanks_0 : decode cX0_skipBlanks 0 = .ok (.aload_n 0, 1) := by decide +kernel
theorem dX0_skipBlanks_1 : decode cX0_skipBlanks 1 = .ok (.getfield 19, 3) := by decide +kernel
theorem dX0_skipBlanks_4 : decode cX0_skipBlanks 4 = .ok (.aload_n 1, 1) := by decide +kernel
theorem dX0_skipBlanks_5 : decode cX0_skipBlanks 5 = .ok (.getfield 26, 3) := by decide +kernel
theorem dX0_skipBlanks_8 : decode cX0_skipBlanks 8 = .ok (.if_icmp .ge 29, 3) := by decide +kernel
theorem dX0_skipBlanks_11 : decode cX0_skipBlanks 11 = .ok (.aload_n 1, 1) := by decide +kernel
theorem dX0_skipBlanks_12 : decode cX0_skipBlanks 12 = .ok (.aload_n 0, 1) := by decide +kernel
theorem dX0_skipBlanks_13 : decode cX0_skipBlanks 13 = .ok (.getfield 19, 3) := by decide +kernel
theorem dX0_skipBlanks_16 : decode cX0_skipBlanks 16 = .ok (.invokevirtual 62, 3) := by decide +kernel
theorem dX0_skipBlanks_19 : decode cX0_skipBlanks 19 = .ok (.bipush 32, 2) := by decide +kernel
theorem dX0_skipBlanks_21 : decode cX0_skipBlanks 21 = .ok (.if_icmp .ne 16, 3) := by decide +kernel
theorem dX0_skipBlanks_24 : decode cX0_skipBlanks 24 = .ok (.aload_n 0, 1) := by decide +kernel
theorem dX0_skipBlanks_25 : decode cX0_skipBlanks 25 = .ok (.dup, 1) := by decide +kernel
theorem dX0_skipBlanks_26 : decode cX0_skipBlanks 26 = .ok (.getfield 19, 3) := by decide +kernel
theorem dX0_skipBlanks_29 : decode cX0_skipBlanks 29 = .ok (.iconst 1, 1) := by decide +kernel
theorem dX0_skipBlanks_30 : decode cX0_skipBlanks 30 = .ok (.iadd, 1) := by decide +kernel
theorem dX0_skipBlanks_31 : decode cX0_skipBlanks 31 = .ok (.putfield 19, 3) := by decide +kernel
theorem dX0_skipBlanks_34 : decode cX0_skipBlanks 34 = .ok (.goto (-34), 3) := by decide +kernel
theorem dX0_skipBlanks_37 : decode cX0_skipBlanks 37 = .ok (.return_, 1) := by decide +kernel
theorem dX6_isDigit_0 : decode cX6_isDigit 0 = .ok (.aload_n 0, 1) := by decide +kernel
theorem dX6_isDigit_1 : decode cX6_isDigit 1 = .ok (.iload_n 1, 1) := by decide +kernel
theorem dX6_isDigit_2 : decode cX6_isDigit 2 = .ok (.invokevirtual 19, 3) := by decide +kernel
theorem dX6_isDigit_5 : decode cX6_isDigit 5 = .ok (.bipush 48, 2) := by decide +kernel
theorem dX6_isDigit_7 : decode cX6_isDigit 7 = .ok (.if_icmp .lt 17, 3) := by decide +kernel
theorem dX6_isDigit_10 : decode cX6_isDigit 10 = .ok (.aload_n 0, 1) := by decide +kernel
theorem dX6_isDigit_11 : decode cX6_isDigit 11 = .ok (.iload_n 1, 1) := by decide +kernel
theorem dX6_isDigit_12 : decode cX6_isDigit 12 = .ok (.invokevirtual 19, 3) := by decide +kernel
theorem dX6_isDigit_15 : decode cX6_isDigit 15 = .ok (.bipush 57, 2) := by decide +kernel
theorem dX6_isDigit_17 : decode cX6_isDigit 17 = .ok (.if_icmp .gt 7, 3) := by decide +kernel
theorem dX6_isDigit_20 : decode cX6_isDigit 20 = .ok (.iconst 1, 1) := by decide +kernel
theorem dX6_isDigit_21 : decode cX6_isDigit 21 = .ok (.goto 4, 3) := by decide +kernel
theorem dX6_isDigit_24 : decode cX6_isDigit 24 = .ok (.iconst 0, 1) := by decide +kernel
theorem dX6_isDigit_25 : decode cX6_isDigit 25 = .ok (.ireturn, 1) := by decide +kernel
theorem dX0_readNumber_0 : decode cX0_readNumber 0 = .ok (.aload_n 0, 1) := by decide +kernel
theorem dX0_readNumber_1 : decode cX0_readNumber 1 = .ok (.aload_n 1, 1) := by decide +kernel
theorem dX0_readNumber_2 : decode cX0_readNumber 2 = .ok (.invokevirtual 22, 3) := by decide +kernel
theorem dX0_readNumber_5 : decode cX0_readNumber 5 = .ok (.aload_n 0, 1) := by decide +kernel
theorem dX0_readNumber_6 : decode cX0_readNumber 6 = .ok (.getfield 9, 3) := by decide +kernel
theorem dX0_readNumber_9 : decode cX0_readNumber 9 = .ok (.iconst 2, 1) := by decide +kernel
theorem dX0_readNumber_10 : decode cX0_readNumber 10 = .ok (.if_icmp .ne 20, 3) := by decide +kernel
theorem dX0_readNumber_13 : decode cX0_readNumber 13 = .ok (.aload_n 1, 1) := by decide +kernel
theorem dX0_readNumber_14 : decode cX0_readNumber 14 = .ok (.aload_n 0, 1) := by decide +kernel
theorem dX0_readNumber_15 : decode cX0_readNumber 15 = .ok (.getfield 19, 3) := by decide +kernel
theorem dX0_readNumber_18 : decode cX0_readNumber 18 = .ok (.invokevirtual 62, 3) := by decide +kernel
theorem dX0_readNumber_21 : decode cX0_readNumber 21 = .ok (.bipush 45, 2) := by decide +kernel
theorem dX0_readNumber_23 : decode cX0_readNumber 23 = .ok (.if_icmp .ne 7, 3) := by decide +kernel
theorem dX0_readNumber_26 : decode cX0_readNumber 26 = .ok (.iconst 1, 1) := by decide +kernel
theorem dX0_readNumber_27 : decode cX0_readNumber 27 = .ok (.goto 4, 3) := by decide +kernel
theorem dX0_readNumber_30 : decode cX0_readNumber 30 = .ok (.iconst 0, 1) := by decide +kernel
theorem dX0_readNumber_31 : decode cX0_readNumber 31 = .ok (.istore_n 3, 1) := by decide +kernel
theorem dX0_readNumber_32 : decode cX0_readNumber 32 = .ok (.iload_n 3, 1) := by decide +kernel
theorem dX0_readNumber_33 : decode cX0_readNumber 33 = .ok (.ifCond .eq 18, 3) := by decide +kernel
theorem dX0_readNumber_36 : decode cX0_readNumber 36 = .ok (.aload_n 0, 1) := by decide +kernel
theorem dX0_readNumber_37 : decode cX0_readNumber 37 = .ok (.dup, 1) := by decide +kernel
theorem dX0_readNumber_38 : decode cX0_readNumber 38 = .ok (.getfield 19, 3) := by decide +kernel
theorem dX0_readNumber_41 : decode cX0_readNumber 41 = .ok (.iconst 1, 1) := by decide +kernel
theorem dX0_readNumber_42 : decode cX0_readNumber 42 = .ok (.iadd, 1) := by decide +kernel
theorem dX0_readNumber_43 : decode cX0_readNumber 43 = .ok (.putfield 19, 3) := by decide +kernel
theorem dX0_readNumber_46 : decode cX0_readNumber 46 = .ok (.aload_n 0, 1) := by decide +kernel
theorem dX0_readNumber_47 : decode cX0_readNumber 47 = .ok (.aload_n 1, 1) := by decide +kernel
theorem dX0_readNumber_48 : decode cX0_readNumber 48 = .ok (.invokevirtual 22, 3) := by decide +kernel
theorem dX0_readNumber_51 : decode cX0_readNumber 51 = .ok (.aload_n 1, 1) := by decide +kernel
theorem dX0_readNumber_52 : decode cX0_readNumber 52 = .ok (.aload_n 0, 1) := by decide +kernel
theorem dX0_readNumber_53 : decode cX0_readNumber 53 = .ok (.getfield 19, 3) := by decide +kernel
theorem dX0_readNumber_56 : decode cX0_readNumber 56 = .ok (.invokevirtual 66, 3) := by decide +kernel
theorem dX0_readNumber_59 : decode cX0_readNumber 59 = .ok (.ifCond .eq 16, 3) := by decide +kernel
theorem dX0_readNumber_62 : decode cX0_readNumber 62 = .ok (.aload_n 1, 1) := by decide +kernel
theorem dX0_readNumber_63 : decode cX0_readNumber 63 = .ok (.aload_n 0, 1) := by decide +kernel
theorem dX0_readNumber_64 : decode cX0_readNumber 64 = .ok (.getfield 19, 3) := by decide +kernel
theorem dX0_readNumber_67 : decode cX0_readNumber 67 = .ok (.iconst 1, 1) := by decide +kernel
theorem dX0_readNumber_68 : decode cX0_readNumber 68 = .ok (.isub, 1) := by decide +kernel
theorem dX0_readNumber_69 : decode cX0_readNumber 69 = .ok (.invokevirtual 66, 3) := by decide +kernel
theorem dX0_readNumber_72 : decode cX0_readNumber 72 = .ok (.ifCond .eq 5, 3) := by decide +kernel
theorem dX0_readNumber_75 : decode cX0_readNumber 75 = .ok (.iconst 0, 1) := by decide +kernel
theorem dX0_readNumber_76 : decode cX0_readNumber 76 = .ok (.ireturn, 1) := by decide +kernel
theorem dX0_readNumber_77 : decode cX0_readNumber 77 = .ok (.iconst 0, 1) := by decide +kernel
theorem dX0_readNumber_78 : decode cX0_readNumber 78 = .ok (.istore 4, 2) := by decide +kernel
theorem dX0_readNumber_80 : decode cX0_readNumber 80 = .ok (.iconst 0, 1) := by decide +kernel
theorem dX0_readNumber_81 : decode cX0_readNumber 81 = .ok (.istore 5, 2) := by decide +kernel
theorem dX0_readNumber_83 : decode cX0_readNumber 83 = .ok (.iload 5, 2) := by decide +kernel
theorem dX0_readNumber_85 : decode cX0_readNumber 85 = .ok (.iconst 3, 1) := by decide +kernel
theorem dX0_readNumber_86 : decode cX0_readNumber 86 = .ok (.if_icmp .ge 49, 3) := by decide +kernel
theorem dX0_readNumber_89 : decode cX0_readNumber 89 = .ok (.aload_n 1, 1) := by decide +kernel
theorem dX0_readNumber_90 : decode cX0_readNumber 90 = .ok (.aload_n 0, 1) := by decide +kernel
theorem dX0_readNumber_91 : decode cX0_readNumber 91 = .ok (.getfield 19, 3) := by decide +kernel
theorem dX0_readNumber_94 : decode cX0_readNumber 94 = .ok (.invokevirtual 66, 3) := by decide +kernel
theorem dX0_readNumber_97 : decode cX0_readNumber 97 = .ok (.ifCond .eq 38, 3) := by decide +kernel
theorem dX0_readNumber_100 : decode cX0_readNumber 100 = .ok (.bipush 10, 2) := by decide +kernel
theorem dX0_readNumber_102 : decode cX0_readNumber 102 = .ok (.iload 4, 2) := by decide +kernel
theorem dX0_readNumber_104 : decode cX0_readNumber 104 = .ok (.imul, 1) := by decide +kernel
theorem dX0_readNumber_105 : decode cX0_readNumber 105 = .ok (.aload_n 1, 1) := by decide +kernel
theorem dX0_readNumber_106 : decode cX0_readNumber 106 = .ok (.aload_n 0, 1) := by decide +kernel
theorem dX0_readNumber_107 : decode cX0_readNumber 107 = .ok (.getfield 19, 3) := by decide +kernel
theorem dX0_readNumber_110 : decode cX0_readNumber 110 = .ok (.invokevirtual 62, 3) := by decide +kernel
theorem dX0_readNumber_113 : decode cX0_readNumber 113 = .ok (.iadd, 1) := by decide +kernel
theorem dX0_readNumber_114 : decode cX0_readNumber 114 = .ok (.bipush 48, 2) := by decide +kernel
theorem dX0_readNumber_116 : decode cX0_readNumber 116 = .ok (.isub, 1) := by decide +kernel
theorem dX0_readNumber_117 : decode cX0_readNumber 117 = .ok (.istore 4, 2) := by decide +kernel
theorem dX0_readNumber_119 : decode cX0_readNumber 119 = .ok (.aload_n 0, 1) := by decide +kernel
theorem dX0_readNumber_120 : decode cX0_readNumber 120 = .ok (.dup, 1) := by decide +kernel
theorem dX0_readNumber_121 : decode cX0_readNumber 121 = .ok (.getfield 19, 3) := by decide +kernel
theorem dX0_readNumber_124 : decode cX0_readNumber 124 = .ok (.iconst 1, 1) := by decide +kernel
theorem dX0_readNumber_125 : decode cX0_readNumber 125 = .ok (.iadd, 1) := by decide +kernel
theorem dX0_readNumber_126 : decode cX0_readNumber 126 = .ok (.putfield 19, 3) := by decide +kernel
theorem dX0_readNumber_129 : decode cX0_readNumber 129 = .ok (.iinc 5 1, 3) := by decide +kernel
theorem dX0_readNumber_132 : decode cX0_readNumber 132 = .ok (.goto (-49), 3) := by decide +kernel
theorem dX0_readNumber_135 : decode cX0_readNumber 135 = .ok (.aload_n 0, 1) := by decide +kernel
theorem dX0_readNumber_136 : decode cX0_readNumber 136 = .ok (.getfield 15, 3) := by decide +kernel
theorem dX0_readNumber_139 : decode cX0_readNumber 139 = .ok (.iload_n 2, 1) := by decide +kernel
theorem dX0_readNumber_140 : decode cX0_readNumber 140 = .ok (.iload_n 3, 1) := by decide +kernel
theorem dX0_readNumber_141 : decode cX0_readNumber 141 = .ok (.ifCond .eq 9, 3) := by decide +kernel
theorem dX0_readNumber_144 : decode cX0_readNumber 144 = .ok (.iload 4, 2) := by decide +kernel
theorem dX0_readNumber_146 : decode cX0_readNumber 146 = .ok (.ineg, 1) := by decide +kernel
theorem dX0_readNumber_147 : decode cX0_readNumber 147 = .ok (.goto 5, 3) := by decide +kernel
theorem dX0_readNumber_150 : decode cX0_readNumber 150 = .ok (.iload 4, 2) := by decide +kernel
theorem dX0_readNumber_152 : decode cX0_readNumber 152 = .ok (.iastore, 1) := by decide +kernel
theorem dX0_readNumber_153 : decode cX0_readNumber 153 = .ok (.iconst 1, 1) := by decide +kernel
theorem dX0_readNumber_154 : decode cX0_readNumber 154 = .ok (.ireturn, 1) := by decide +kernel
theorem dX6_isSmallLetter_0 : decode cX6_isSmallLetter 0 = .ok (.aload_n 0, 1) := by decide +kernel
theorem dX6_isSmallLetter_1 : decode cX6_isSmallLetter 1 = .ok (.iload_n 1, 1) := by decide +kernel
theorem dX6_isSmallLetter_2 : decode cX6_isSmallLetter 2 = .ok (.invokevirtual 19, 3) := by decide +kernel
theorem dX6_isSmallLetter_5 : decode cX6_isSmallLetter 5 = .ok (.bipush 97, 2) := by decide +kernel
theorem dX6_isSmallLetter_7 : decode cX6_isSmallLetter 7 = .ok (.if_icmp .lt 17, 3) := by decide +kernel
theorem dX6_isSmallLetter_10 : decode cX6_isSmallLetter 10 = .ok (.aload_n 0, 1) := by decide +kernel
theorem dX6_isSmallLetter_11 : decode cX6_isSmallLetter 11 = .ok (.iload_n 1, 1) := by decide +kernel
theorem dX6_isSmallLetter_12 : decode cX6_isSmallLetter 12 = .ok (.invokevirtual 19, 3) := by decide +kernel
theorem dX6_isSmallLetter_15 : decode cX6_isSmallLetter 15 = .ok (.bipush 122, 2) := by decide +kernel
theorem dX6_isSmallLetter_17 : decode cX6_isSmallLetter 17 = .ok (.if_icmp .gt 7, 3) := by decide +kernel
theorem dX6_isSmallLetter_20 : decode cX6_isSmallLetter 20 = .ok (.iconst 1, 1) := by decide +kernel
theorem dX6_isSmallLetter_21 : decode cX6_isSmallLetter 21 = .ok (.goto 4, 3) := by decide +kernel
theorem dX6_isSmallLetter_24 : decode cX6_isSmallLetter 24 = .ok (.iconst 0, 1) := by decide +kernel
theorem dX6_isSmallLetter_25 : decode cX6_isSmallLetter 25 = .ok (.ireturn, 1) := by decide +kernel
theorem dX0_read_0 : decode cX0_read 0 = .ok (.aload_n 0, 1) := by decide +kernel
theorem dX0_read_1 : decode cX0_read 1 = .ok (.iconst 0, 1) := by decide +kernel
theorem dX0_read_2 : decode cX0_read 2 = .ok (.putfield 19, 3) := by decide +kernel
theorem dX0_read_5 : decode cX0_read 5 = .ok (.aload_n 0, 1) := by decide +kernel
theorem dX0_read_6 : decode cX0_read 6 = .ok (.aload_n 1, 1) := by decide +kernel
theorem dX0_read_7 : decode cX0_read 7 = .ok (.invokevirtual 22, 3) := by decide +kernel
theorem dX0_read_10 : decode cX0_read 10 = .ok (.aload_n 0, 1) := by decide +kernel
theorem dX0_read_11 : decode cX0_read 11 = .ok (.getfield 19, 3) := by decide +kernel
theorem dX0_read_14 : decode cX0_read 14 = .ok (.istore_n 2, 1) := by decide +kernel
theorem dX0_read_15 : decode cX0_read 15 = .ok (.aload_n 0, 1) := by decide +kernel
theorem dX0_read_16 : decode cX0_read 16 = .ok (.getfield 19, 3) := by decide +kernel
theorem dX0_read_19 : decode cX0_read 19 = .ok (.aload_n 1, 1) := by decide +kernel
theorem dX0_read_20 : decode cX0_read 20 = .ok (.getfield 26, 3) := by decide +kernel
theorem dX0_read_23 : decode cX0_read 23 = .ok (.if_icmp .ge 27, 3) := by decide +kernel
theorem dX0_read_26 : decode cX0_read 26 = .ok (.aload_n 1, 1) := by decide +kernel
theorem dX0_read_27 : decode cX0_read 27 = .ok (.aload_n 0, 1) := by decide +kernel
theorem dX0_read_28 : decode cX0_read 28 = .ok (.getfield 19, 3) := by decide +kernel
theorem dX0_read_31 : decode cX0_read 31 = .ok (.invokevirtual 31, 3) := by decide +kernel
theorem dX0_read_34 : decode cX0_read 34 = .ok (.ifCond .eq 16, 3) := by decide +kernel
theorem dX0_read_37 : decode cX0_read 37 = .ok (.aload_n 0, 1) := by decide +kernel
theorem dX0_read_38 : decode cX0_read 38 = .ok (.dup, 1) := by decide +kernel
theorem dX0_read_39 : decode cX0_read 39 = .ok (.getfield 19, 3) := by decide +kernel
theorem dX0_read_42 : decode cX0_read 42 = .ok (.iconst 1, 1) := by decide +kernel
theorem dX0_read_43 : decode cX0_read 43 = .ok (.iadd, 1) := by decide +kernel
theorem dX0_read_44 : decode cX0_read 44 = .ok (.putfield 19, 3) := by decide +kernel
theorem dX0_read_47 : decode cX0_read 47 = .ok (.goto (-32), 3) := by decide +kernel
theorem dX0_read_50 : decode cX0_read 50 = .ok (.aload_n 0, 1) := by decide +kernel
theorem dX0_read_51 : decode cX0_read 51 = .ok (.aload_n 1, 1) := by decide +kernel
theorem dX0_read_52 : decode cX0_read 52 = .ok (.iload_n 2, 1) := by decide +kernel
theorem dX0_read_53 : decode cX0_read 53 = .ok (.aload_n 0, 1) := by decide +kernel
theorem dX0_read_54 : decode cX0_read 54 = .ok (.getfield 19, 3) := by decide +kernel
theorem dX0_read_57 : decode cX0_read 57 = .ok (.invokestatic 35, 3) := by decide +kernel
theorem dX0_read_60 : decode cX0_read 60 = .ok (.putfield 9, 3) := by decide +kernel
theorem dX0_read_63 : decode cX0_read 63 = .ok (.aload_n 0, 1) := by decide +kernel
theorem dX0_read_64 : decode cX0_read 64 = .ok (.getfield 9, 3) := by decide +kernel
theorem dX0_read_67 : decode cX0_read 67 = .ok (.iconst (-1), 1) := by decide +kernel
theorem dX0_read_68 : decode cX0_read 68 = .ok (.if_icmp .ne 5, 3) := by decide +kernel
theorem dX0_read_71 : decode cX0_read 71 = .ok (.iload_n 2, 1) := by decide +kernel
theorem dX0_read_72 : decode cX0_read 72 = .ok (.ireturn, 1) := by decide +kernel
theorem dX0_read_73 : decode cX0_read 73 = .ok (.iconst 0, 1) := by decide +kernel
theorem dX0_read_74 : decode cX0_read 74 = .ok (.istore_n 3, 1) := by decide +kernel
theorem dX0_read_75 : decode cX0_read 75 = .ok (.iload_n 3, 1) := by decide +kernel
theorem dX0_read_76 : decode cX0_read 76 = .ok (.getstatic 39, 3) := by decide +kernel
theorem dX0_read_79 : decode cX0_read 79 = .ok (.aload_n 0, 1) := by decide +kernel
theorem dX0_read_80 : decode cX0_read 80 = .ok (.getfield 9, 3) := by decide +kernel
theorem dX0_read_83 : decode cX0_read 83 = .ok (.iaload, 1) := by decide +kernel
theorem dX0_read_84 : decode cX0_read 84 = .ok (.if_icmp .ge 23, 3) := by decide +kernel
theorem dX0_read_87 : decode cX0_read 87 = .ok (.aload_n 0, 1) := by decide +kernel
theorem dX0_read_88 : decode cX0_read 88 = .ok (.aload_n 1, 1) := by decide +kernel
theorem dX0_read_89 : decode cX0_read 89 = .ok (.iload_n 3, 1) := by decide +kernel
theorem dX0_read_90 : decode cX0_read 90 = .ok (.invokevirtual 42, 3) := by decide +kernel
theorem dX0_read_93 : decode cX0_read 93 = .ok (.ifCond .ne 8, 3) := by decide +kernel
theorem dX0_read_96 : decode cX0_read 96 = .ok (.aload_n 0, 1) := by decide +kernel
theorem dX0_read_97 : decode cX0_read 97 = .ok (.getfield 19, 3) := by decide +kernel
theorem dX0_read_100 : decode cX0_read 100 = .ok (.ireturn, 1) := by decide +kernel
theorem dX0_read_101 : decode cX0_read 101 = .ok (.iinc 3 1, 3) := by decide +kernel
theorem dX0_read_104 : decode cX0_read 104 = .ok (.goto (-29), 3) := by decide +kernel
theorem dX0_read_107 : decode cX0_read 107 = .ok (.aload_n 0, 1) := by decide +kernel
theorem dX0_read_108 : decode cX0_read 108 = .ok (.aload_n 1, 1) := by decide +kernel
theorem dX0_read_109 : decode cX0_read 109 = .ok (.invokevirtual 22, 3) := by decide +kernel
theorem dX0_read_112 : decode cX0_read 112 = .ok (.aload_n 0, 1) := by decide +kernel
theorem dX0_read_113 : decode cX0_read 113 = .ok (.getfield 19, 3) := by decide +kernel
theorem dX0_read_116 : decode cX0_read 116 = .ok (.aload_n 1, 1) := by decide +kernel
theorem dX0_read_117 : decode cX0_read 117 = .ok (.getfield 26, 3) := by decide +kernel
theorem dX0_read_120 : decode cX0_read 120 = .ok (.if_icmp .ge 10, 3) := by decide +kernel
theorem dX0_read_123 : decode cX0_read 123 = .ok (.aload_n 0, 1) := by decide +kernel
theorem dX0_read_124 : decode cX0_read 124 = .ok (.getfield 19, 3) := by decide +kernel
theorem dX0_read_127 : decode cX0_read 127 = .ok (.goto 4, 3) := by decide +kernel
theorem dX0_read_130 : decode cX0_read 130 = .ok (.iconst (-1), 1) := by decide +kernel
theorem dX0_read_131 : decode cX0_read 131 = .ok (.ireturn, 1) := by decide +kernel
theorem dX1_sideOf_0 : decode cX1_sideOf 0 = .ok (.aload_n 0, 1) := by decide +kernel
theorem dX1_sideOf_1 : decode cX1_sideOf 1 = .ok (.getfield 19, 3) := by decide +kernel
theorem dX1_sideOf_4 : decode cX1_sideOf 4 = .ok (.iload_n 1, 1) := by decide +kernel
theorem dX1_sideOf_5 : decode cX1_sideOf 5 = .ok (.iaload, 1) := by decide +kernel
theorem dX1_sideOf_6 : decode cX1_sideOf 6 = .ok (.ireturn, 1) := by decide +kernel
theorem dX1_put_0 : decode cX1_put 0 = .ok (.aload_n 0, 1) := by decide +kernel
theorem dX1_put_1 : decode cX1_put 1 = .ok (.getfield 19, 3) := by decide +kernel
theorem dX1_put_4 : decode cX1_put 4 = .ok (.iload_n 1, 1) := by decide +kernel
theorem dX1_put_5 : decode cX1_put 5 = .ok (.iload_n 2, 1) := by decide +kernel
theorem dX1_put_6 : decode cX1_put 6 = .ok (.iastore, 1) := by decide +kernel
theorem dX1_put_7 : decode cX1_put 7 = .ok (.return_, 1) := by decide +kernel
theorem dX1_hide_0 : decode cX1_hide 0 = .ok (.aload_n 0, 1) := by decide +kernel
theorem dX1_hide_1 : decode cX1_hide 1 = .ok (.getfield 19, 3) := by decide +kernel
theorem dX1_hide_4 : decode cX1_hide 4 = .ok (.iload_n 1, 1) := by decide +kernel
theorem dX1_hide_5 : decode cX1_hide 5 = .ok (.iconst (-1), 1) := by decide +kernel
theorem dX1_hide_6 : decode cX1_hide 6 = .ok (.iastore, 1) := by decide +kernel
theorem dX1_hide_7 : decode cX1_hide 7 = .ok (.return_, 1) := by decide +kernel
theorem dX1_isShown_0 : decode cX1_isShown 0 = .ok (.aload_n 0, 1) := by decide +kernel
theorem dX1_isShown_1 : decode cX1_isShown 1 = .ok (.getfield 19, 3) := by decide +kernel
theorem dX1_isShown_4 : decode cX1_isShown 4 = .ok (.iload_n 1, 1) := by decide +kernel
theorem dX1_isShown_5 : decode cX1_isShown 5 = .ok (.iaload, 1) := by decide +kernel
theorem dX1_isShown_6 : decode cX1_isShown 6 = .ok (.iconst (-1), 1) := by decide +kernel
theorem dX1_isShown_7 : decode cX1_isShown 7 = .ok (.if_icmp .eq 7, 3) := by decide +kernel
theorem dX1_isShown_10 : decode cX1_isShown 10 = .ok (.iconst 1, 1) := by decide +kernel
theorem dX1_isShown_11 : decode cX1_isShown 11 = .ok (.goto 4, 3) := by decide +kernel
theorem dX1_isShown_14 : decode cX1_isShown 14 = .ok (.iconst 0, 1) := by decide +kernel
theorem dX1_isShown_15 : decode cX1_isShown 15 = .ok (.ireturn, 1) := by decide +kernel
theorem dX1_closeGap_0 : decode cX1_closeGap 0 = .ok (.iload_n 1, 1) := by decide +kernel
theorem dX1_closeGap_1 : decode cX1_closeGap 1 = .ok (.iconst 1, 1) := by decide +kernel
theorem dX1_closeGap_2 : decode cX1_closeGap 2 = .ok (.iadd, 1) := by decide +kernel
theorem dX1_closeGap_3 : decode cX1_closeGap 3 = .ok (.istore_n 2, 1) := by decide +kernel
theorem dX1_closeGap_4 : decode cX1_closeGap 4 = .ok (.iload_n 2, 1) := by decide +kernel
theorem dX1_closeGap_5 : decode cX1_closeGap 5 = .ok (.aload_n 0, 1) := by decide +kernel
theorem dX1_closeGap_6 : decode cX1_closeGap 6 = .ok (.getfield 9, 3) := by decide +kernel
theorem dX1_closeGap_9 : decode cX1_closeGap 9 = .ok (.getfield 29, 3) := by decide +kernel
theorem dX1_closeGap_12 : decode cX1_closeGap 12 = .ok (.if_icmp .ge 23, 3) := by decide +kernel
theorem dX1_closeGap_15 : decode cX1_closeGap 15 = .ok (.aload_n 0, 1) := by decide +kernel
theorem dX1_closeGap_16 : decode cX1_closeGap 16 = .ok (.getfield 19, 3) := by decide +kernel
theorem dX1_closeGap_19 : decode cX1_closeGap 19 = .ok (.iload_n 2, 1) := by decide +kernel
theorem dX1_closeGap_20 : decode cX1_closeGap 20 = .ok (.iconst 1, 1) := by decide +kernel
theorem dX1_closeGap_21 : decode cX1_closeGap 21 = .ok (.isub, 1) := by decide +kernel
theorem dX1_closeGap_22 : decode cX1_closeGap 22 = .ok (.aload_n 0, 1) := by decide +kernel
theorem dX1_closeGap_23 : decode cX1_closeGap 23 = .ok (.getfield 19, 3) := by decide +kernel
theorem dX1_closeGap_26 : decode cX1_closeGap 26 = .ok (.iload_n 2, 1) := by decide +kernel
theorem dX1_closeGap_27 : decode cX1_closeGap 27 = .ok (.iaload, 1) := by decide +kernel
theorem dX1_closeGap_28 : decode cX1_closeGap 28 = .ok (.iastore, 1) := by decide +kernel
theorem dX1_closeGap_29 : decode cX1_closeGap 29 = .ok (.iinc 2 1, 3) := by decide +kernel
theorem dX1_closeGap_32 : decode cX1_closeGap 32 = .ok (.goto (-28), 3) := by decide +kernel
theorem dX1_closeGap_35 : decode cX1_closeGap 35 = .ok (.return_, 1) := by decide +kernel
theorem dX1_manyShown_0 : decode cX1_manyShown 0 = .ok (.iconst 0, 1) := by decide +kernel
theorem dX1_manyShown_1 : decode cX1_manyShown 1 = .ok (.istore_n 1, 1) := by decide +kernel
theorem dX1_manyShown_2 : decode cX1_manyShown 2 = .ok (.iconst 0, 1) := by decide +kernel
theorem dX1_manyShown_3 : decode cX1_manyShown 3 = .ok (.istore_n 2, 1) := by decide +kernel
theorem dX1_manyShown_4 : decode cX1_manyShown 4 = .ok (.iload_n 2, 1) := by decide +kernel
theorem dX1_manyShown_5 : decode cX1_manyShown 5 = .ok (.aload_n 0, 1) := by decide +kernel
theorem dX1_manyShown_6 : decode cX1_manyShown 6 = .ok (.getfield 9, 3) := by decide +kernel
theorem dX1_manyShown_9 : decode cX1_manyShown 9 = .ok (.getfield 29, 3) := by decide +kernel
theorem dX1_manyShown_12 : decode cX1_manyShown 12 = .ok (.if_icmp .ge 20, 3) := by decide +kernel
theorem dX1_manyShown_15 : decode cX1_manyShown 15 = .ok (.aload_n 0, 1) := by decide +kernel
theorem dX1_manyShown_16 : decode cX1_manyShown 16 = .ok (.iload_n 2, 1) := by decide +kernel
theorem dX1_manyShown_17 : decode cX1_manyShown 17 = .ok (.invokevirtual 35, 3) := by decide +kernel
theorem dX1_manyShown_20 : decode cX1_manyShown 20 = .ok (.ifCond .eq 6, 3) := by decide +kernel
theorem dX1_manyShown_23 : decode cX1_manyShown 23 = .ok (.iinc 1 1, 3) := by decide +kernel
theorem dX1_manyShown_26 : decode cX1_manyShown 26 = .ok (.iinc 2 1, 3) := by decide +kernel
theorem dX1_manyShown_29 : decode cX1_manyShown 29 = .ok (.goto (-25), 3) := by decide +kernel
theorem dX1_manyShown_32 : decode cX1_manyShown 32 = .ok (.iload_n 1, 1) := by decide +kernel
theorem dX1_manyShown_33 : decode cX1_manyShown 33 = .ok (.ireturn, 1) := by decide +kernel
theorem dX3_isPlace_0 : decode cX3_isPlace 0 = .ok (.aload_n 0, 1) := by decide +kernel
theorem dX3_isPlace_1 : decode cX3_isPlace 1 = .ok (.getfield 32, 3) := by decide +kernel
theorem dX3_isPlace_4 : decode cX3_isPlace 4 = .ok (.iload_n 1, 1) := by decide +kernel
theorem dX3_isPlace_5 : decode cX3_isPlace 5 = .ok (.bipush 8, 2) := by decide +kernel
theorem dX3_isPlace_7 : decode cX3_isPlace 7 = .ok (.imul, 1) := by decide +kernel
theorem dX3_isPlace_8 : decode cX3_isPlace 8 = .ok (.iload_n 2, 1) := by decide +kernel
theorem dX3_isPlace_9 : decode cX3_isPlace 9 = .ok (.iadd, 1) := by decide +kernel
theorem dX3_isPlace_10 : decode cX3_isPlace 10 = .ok (.baload, 1) := by decide +kernel
theorem dX3_isPlace_11 : decode cX3_isPlace 11 = .ok (.ireturn, 1) := by decide +kernel
theorem dX1_dropLost_0 : decode cX1_dropLost 0 = .ok (.iconst 0, 1) := by decide +kernel
theorem dX1_dropLost_1 : decode cX1_dropLost 1 = .ok (.istore_n 1, 1) := by decide +kernel
theorem dX1_dropLost_2 : decode cX1_dropLost 2 = .ok (.iload_n 1, 1) := by decide +kernel
theorem dX1_dropLost_3 : decode cX1_dropLost 3 = .ok (.aload_n 0, 1) := by decide +kernel
theorem dX1_dropLost_4 : decode cX1_dropLost 4 = .ok (.getfield 9, 3) := by decide +kernel
theorem dX1_dropLost_7 : decode cX1_dropLost 7 = .ok (.getfield 29, 3) := by decide +kernel
theorem dX1_dropLost_10 : decode cX1_dropLost 10 = .ok (.if_icmp .ge 39, 3) := by decide +kernel
theorem dX1_dropLost_13 : decode cX1_dropLost 13 = .ok (.aload_n 0, 1) := by decide +kernel
theorem dX1_dropLost_14 : decode cX1_dropLost 14 = .ok (.iload_n 1, 1) := by decide +kernel
theorem dX1_dropLost_15 : decode cX1_dropLost 15 = .ok (.invokevirtual 35, 3) := by decide +kernel
theorem dX1_dropLost_18 : decode cX1_dropLost 18 = .ok (.ifCond .eq 25, 3) := by decide +kernel
theorem dX1_dropLost_21 : decode cX1_dropLost 21 = .ok (.aload_n 0, 1) := by decide +kernel
theorem dX1_dropLost_22 : decode cX1_dropLost 22 = .ok (.getfield 15, 3) := by decide +kernel
theorem dX1_dropLost_25 : decode cX1_dropLost 25 = .ok (.iload_n 1, 1) := by decide +kernel
theorem dX1_dropLost_26 : decode cX1_dropLost 26 = .ok (.aload_n 0, 1) := by decide +kernel
theorem dX1_dropLost_27 : decode cX1_dropLost 27 = .ok (.getfield 19, 3) := by decide +kernel
theorem dX1_dropLost_30 : decode cX1_dropLost 30 = .ok (.iload_n 1, 1) := by decide +kernel
theorem dX1_dropLost_31 : decode cX1_dropLost 31 = .ok (.iaload, 1) := by decide +kernel
theorem dX1_dropLost_32 : decode cX1_dropLost 32 = .ok (.invokevirtual 39, 3) := by decide +kernel
theorem dX1_dropLost_35 : decode cX1_dropLost 35 = .ok (.ifCond .ne 8, 3) := by decide +kernel
theorem dX1_dropLost_38 : decode cX1_dropLost 38 = .ok (.aload_n 0, 1) := by decide +kernel
theorem dX1_dropLost_39 : decode cX1_dropLost 39 = .ok (.iload_n 1, 1) := by decide +kernel
theorem dX1_dropLost_40 : decode cX1_dropLost 40 = .ok (.invokevirtual 45, 3) := by decide +kernel
theorem dX1_dropLost_43 : decode cX1_dropLost 43 = .ok (.iinc 1 1, 3) := by decide +kernel
theorem dX1_dropLost_46 : decode cX1_dropLost 46 = .ok (.goto (-44), 3) := by decide +kernel
theorem dX1_dropLost_49 : decode cX1_dropLost 49 = .ok (.aload_n 0, 1) := by decide +kernel
theorem dX1_dropLost_50 : decode cX1_dropLost 50 = .ok (.invokevirtual 49, 3) := by decide +kernel
theorem dX1_dropLost_53 : decode cX1_dropLost 53 = .ok (.ireturn, 1) := by decide +kernel
theorem dX3_doClash_0 : decode cX3_doClash 0 = .ok (.iload_n 1, 1) := by decide +kernel
theorem dX3_doClash_1 : decode cX3_doClash 1 = .ok (.iload_n 3, 1) := by decide +kernel
theorem dX3_doClash_2 : decode cX3_doClash 2 = .ok (.if_icmp .eq 14, 3) := by decide +kernel
theorem dX3_doClash_5 : decode cX3_doClash 5 = .ok (.iload_n 2, 1) := by decide +kernel
theorem dX3_doClash_6 : decode cX3_doClash 6 = .ok (.iconst (-1), 1) := by decide +kernel
theorem dX3_doClash_7 : decode cX3_doClash 7 = .ok (.if_icmp .eq 9, 3) := by decide +kernel
theorem dX3_doClash_10 : decode cX3_doClash 10 = .ok (.iload 4, 2) := by decide +kernel
theorem dX3_doClash_12 : decode cX3_doClash 12 = .ok (.iconst (-1), 1) := by decide +kernel
theorem dX3_doClash_13 : decode cX3_doClash 13 = .ok (.if_icmp .ne 5, 3) := by decide +kernel
theorem dX3_doClash_16 : decode cX3_doClash 16 = .ok (.iconst 0, 1) := by decide +kernel
theorem dX3_doClash_17 : decode cX3_doClash 17 = .ok (.ireturn, 1) := by decide +kernel
theorem dX3_doClash_18 : decode cX3_doClash 18 = .ok (.iload_n 1, 1) := by decide +kernel
theorem dX3_doClash_19 : decode cX3_doClash 19 = .ok (.bipush 8, 2) := by decide +kernel
theorem dX3_doClash_21 : decode cX3_doClash 21 = .ok (.imul, 1) := by decide +kernel
theorem dX3_doClash_22 : decode cX3_doClash 22 = .ok (.iload_n 2, 1) := by decide +kernel
theorem dX3_doClash_23 : decode cX3_doClash 23 = .ok (.iadd, 1) := by decide +kernel
theorem dX3_doClash_24 : decode cX3_doClash 24 = .ok (.istore 5, 2) := by decide +kernel
theorem dX3_doClash_26 : decode cX3_doClash 26 = .ok (.iload_n 3, 1) := by decide +kernel
theorem dX3_doClash_27 : decode cX3_doClash 27 = .ok (.bipush 8, 2) := by decide +kernel
theorem dX3_doClash_29 : decode cX3_doClash 29 = .ok (.imul, 1) := by decide +kernel
theorem dX3_doClash_30 : decode cX3_doClash 30 = .ok (.iload 4, 2) := by decide +kernel
theorem dX3_doClash_32 : decode cX3_doClash 32 = .ok (.iadd, 1) := by decide +kernel
theorem dX3_doClash_33 : decode cX3_doClash 33 = .ok (.istore 6, 2) := by decide +kernel
theorem dX3_doClash_35 : decode cX3_doClash 35 = .ok (.aload_n 0, 1) := by decide +kernel
theorem dX3_doClash_36 : decode cX3_doClash 36 = .ok (.getfield 32, 3) := by decide +kernel
theorem dX3_doClash_39 : decode cX3_doClash 39 = .ok (.iload 5, 2) := by decide +kernel
theorem dX3_doClash_41 : decode cX3_doClash 41 = .ok (.baload, 1) := by decide +kernel
theorem dX3_doClash_42 : decode cX3_doClash 42 = .ok (.ifCond .eq 85, 3) := by decide +kernel
theorem dX3_doClash_45 : decode cX3_doClash 45 = .ok (.aload_n 0, 1) := by decide +kernel
theorem dX3_doClash_46 : decode cX3_doClash 46 = .ok (.getfield 32, 3) := by decide +kernel
theorem dX3_doClash_49 : decode cX3_doClash 49 = .ok (.iload 6, 2) := by decide +kernel
theorem dX3_doClash_51 : decode cX3_doClash 51 = .ok (.baload, 1) := by decide +kernel
theorem dX3_doClash_52 : decode cX3_doClash 52 = .ok (.ifCond .eq 75, 3) := by decide +kernel
theorem dX3_doClash_55 : decode cX3_doClash 55 = .ok (.aload_n 0, 1) := by decide +kernel
theorem dX3_doClash_56 : decode cX3_doClash 56 = .ok (.getfield 19, 3) := by decide +kernel
theorem dX3_doClash_59 : decode cX3_doClash 59 = .ok (.iload 5, 2) := by decide +kernel
theorem dX3_doClash_61 : decode cX3_doClash 61 = .ok (.iaload, 1) := by decide +kernel
theorem dX3_doClash_62 : decode cX3_doClash 62 = .ok (.aload_n 0, 1) := by decide +kernel
theorem dX3_doClash_63 : decode cX3_doClash 63 = .ok (.getfield 26, 3) := by decide +kernel
theorem dX3_doClash_66 : decode cX3_doClash 66 = .ok (.iload 6, 2) := by decide +kernel
theorem dX3_doClash_68 : decode cX3_doClash 68 = .ok (.iaload, 1) := by decide +kernel
theorem dX3_doClash_69 : decode cX3_doClash 69 = .ok (.if_icmp .ge 58, 3) := by decide +kernel
theorem dX3_doClash_72 : decode cX3_doClash 72 = .ok (.aload_n 0, 1) := by decide +kernel
theorem dX3_doClash_73 : decode cX3_doClash 73 = .ok (.getfield 19, 3) := by decide +kernel
theorem dX3_doClash_76 : decode cX3_doClash 76 = .ok (.iload 6, 2) := by decide +kernel
theorem dX3_doClash_78 : decode cX3_doClash 78 = .ok (.iaload, 1) := by decide +kernel
theorem dX3_doClash_79 : decode cX3_doClash 79 = .ok (.aload_n 0, 1) := by decide +kernel
theorem dX3_doClash_80 : decode cX3_doClash 80 = .ok (.getfield 26, 3) := by decide +kernel
theorem dX3_doClash_83 : decode cX3_doClash 83 = .ok (.iload 5, 2) := by decide +kernel
theorem dX3_doClash_85 : decode cX3_doClash 85 = .ok (.iaload, 1) := by decide +kernel
theorem dX3_doClash_86 : decode cX3_doClash 86 = .ok (.if_icmp .ge 41, 3) := by decide +kernel
theorem dX3_doClash_89 : decode cX3_doClash 89 = .ok (.aload_n 0, 1) := by decide +kernel
theorem dX3_doClash_90 : decode cX3_doClash 90 = .ok (.getfield 23, 3) := by decide +kernel
theorem dX3_doClash_93 : decode cX3_doClash 93 = .ok (.iload 5, 2) := by decide +kernel
theorem dX3_doClash_95 : decode cX3_doClash 95 = .ok (.iaload, 1) := by decide +kernel
theorem dX3_doClash_96 : decode cX3_doClash 96 = .ok (.aload_n 0, 1) := by decide +kernel
theorem dX3_doClash_97 : decode cX3_doClash 97 = .ok (.getfield 29, 3) := by decide +kernel
theorem dX3_doClash_100 : decode cX3_doClash 100 = .ok (.iload 6, 2) := by decide +kernel
theorem dX3_doClash_102 : decode cX3_doClash 102 = .ok (.iaload, 1) := by decide +kernel
theorem dX3_doClash_103 : decode cX3_doClash 103 = .ok (.if_icmp .ge 24, 3) := by decide +kernel
theorem dX3_doClash_106 : decode cX3_doClash 106 = .ok (.aload_n 0, 1) := by decide +kernel
theorem dX3_doClash_107 : decode cX3_doClash 107 = .ok (.getfield 23, 3) := by decide +kernel
theorem dX3_doClash_110 : decode cX3_doClash 110 = .ok (.iload 6, 2) := by decide +kernel
theorem dX3_doClash_112 : decode cX3_doClash 112 = .ok (.iaload, 1) := by decide +kernel
theorem dX3_doClash_113 : decode cX3_doClash 113 = .ok (.aload_n 0, 1) := by decide +kernel
theorem dX3_doClash_114 : decode cX3_doClash 114 = .ok (.getfield 29, 3) := by decide +kernel
theorem dX3_doClash_117 : decode cX3_doClash 117 = .ok (.iload 5, 2) := by decide +kernel
theorem dX3_doClash_119 : decode cX3_doClash 119 = .ok (.iaload, 1) := by decide +kernel
theorem dX3_doClash_120 : decode cX3_doClash 120 = .ok (.if_icmp .ge 7, 3) := by decide +kernel
theorem dX3_doClash_123 : decode cX3_doClash 123 = .ok (.iconst 1, 1) := by decide +kernel
theorem dX3_doClash_124 : decode cX3_doClash 124 = .ok (.goto 4, 3) := by decide +kernel
theorem dX3_doClash_127 : decode cX3_doClash 127 = .ok (.iconst 0, 1) := by decide +kernel
theorem dX3_doClash_128 : decode cX3_doClash 128 = .ok (.ireturn, 1) := by decide +kernel
theorem dX1_clashing_0 : decode cX1_clashing 0 = .ok (.iconst 0, 1) := by decide +kernel
theorem dX1_clashing_1 : decode cX1_clashing 1 = .ok (.istore_n 3, 1) := by decide +kernel
theorem dX1_clashing_2 : decode cX1_clashing 2 = .ok (.iconst 0, 1) := by decide +kernel
theorem dX1_clashing_3 : decode cX1_clashing 3 = .ok (.istore 4, 2) := by decide +kernel
theorem dX1_clashing_5 : decode cX1_clashing 5 = .ok (.iload 4, 2) := by decide +kernel
theorem dX1_clashing_7 : decode cX1_clashing 7 = .ok (.aload_n 0, 1) := by decide +kernel
theorem dX1_clashing_8 : decode cX1_clashing 8 = .ok (.getfield 9, 3) := by decide +kernel
theorem dX1_clashing_11 : decode cX1_clashing 11 = .ok (.getfield 29, 3) := by decide +kernel
theorem dX1_clashing_14 : decode cX1_clashing 14 = .ok (.if_icmp .ge 33, 3) := by decide +kernel
theorem dX1_clashing_17 : decode cX1_clashing 17 = .ok (.aload_n 0, 1) := by decide +kernel
theorem dX1_clashing_18 : decode cX1_clashing 18 = .ok (.getfield 15, 3) := by decide +kernel
theorem dX1_clashing_21 : decode cX1_clashing 21 = .ok (.iload_n 1, 1) := by decide +kernel
theorem dX1_clashing_22 : decode cX1_clashing 22 = .ok (.iload_n 2, 1) := by decide +kernel
theorem dX1_clashing_23 : decode cX1_clashing 23 = .ok (.iload 4, 2) := by decide +kernel
theorem dX1_clashing_25 : decode cX1_clashing 25 = .ok (.aload_n 0, 1) := by decide +kernel
theorem dX1_clashing_26 : decode cX1_clashing 26 = .ok (.getfield 19, 3) := by decide +kernel
theorem dX1_clashing_29 : decode cX1_clashing 29 = .ok (.iload 4, 2) := by decide +kernel
theorem dX1_clashing_31 : decode cX1_clashing 31 = .ok (.iaload, 1) := by decide +kernel
theorem dX1_clashing_32 : decode cX1_clashing 32 = .ok (.invokevirtual 67, 3) := by decide +kernel
theorem dX1_clashing_35 : decode cX1_clashing 35 = .ok (.ifCond .eq 6, 3) := by decide +kernel
theorem dX1_clashing_38 : decode cX1_clashing 38 = .ok (.iinc 3 1, 3) := by decide +kernel
theorem dX1_clashing_41 : decode cX1_clashing 41 = .ok (.iinc 4 1, 3) := by decide +kernel
theorem dX1_clashing_44 : decode cX1_clashing 44 = .ok (.goto (-39), 3) := by decide +kernel
theorem dX1_clashing_47 : decode cX1_clashing 47 = .ok (.iload_n 3, 1) := by decide +kernel
theorem dX1_clashing_48 : decode cX1_clashing 48 = .ok (.ireturn, 1) := by decide +kernel
theorem dX1_hideIfClashing_0 : decode cX1_hideIfClashing 0 = .ok (.aload_n 0, 1) := by decide +kernel
theorem dX1_hideIfClashing_1 : decode cX1_hideIfClashing 1 = .ok (.iload_n 1, 1) := by decide +kernel
theorem dX1_hideIfClashing_2 : decode cX1_hideIfClashing 2 = .ok (.invokevirtual 35, 3) := by decide +kernel
theorem dX1_hideIfClashing_5 : decode cX1_hideIfClashing 5 = .ok (.ifCond .eq 22, 3) := by decide +kernel
theorem dX1_hideIfClashing_8 : decode cX1_hideIfClashing 8 = .ok (.aload_n 0, 1) := by decide +kernel
theorem dX1_hideIfClashing_9 : decode cX1_hideIfClashing 9 = .ok (.iload_n 1, 1) := by decide +kernel
theorem dX1_hideIfClashing_10 : decode cX1_hideIfClashing 10 = .ok (.aload_n 0, 1) := by decide +kernel
theorem dX1_hideIfClashing_11 : decode cX1_hideIfClashing 11 = .ok (.getfield 19, 3) := by decide +kernel
theorem dX1_hideIfClashing_14 : decode cX1_hideIfClashing 14 = .ok (.iload_n 1, 1) := by decide +kernel
theorem dX1_hideIfClashing_15 : decode cX1_hideIfClashing 15 = .ok (.iaload, 1) := by decide +kernel
theorem dX1_hideIfClashing_16 : decode cX1_hideIfClashing 16 = .ok (.invokevirtual 53, 3) := by decide +kernel
theorem dX1_hideIfClashing_19 : decode cX1_hideIfClashing 19 = .ok (.ifCond .le 8, 3) := by decide +kernel
theorem dX1_hideIfClashing_22 : decode cX1_hideIfClashing 22 = .ok (.aload_n 0, 1) := by decide +kernel
theorem dX1_hideIfClashing_23 : decode cX1_hideIfClashing 23 = .ok (.iload_n 1, 1) := by decide +kernel
theorem dX1_hideIfClashing_24 : decode cX1_hideIfClashing 24 = .ok (.invokevirtual 45, 3) := by decide +kernel
theorem dX1_hideIfClashing_27 : decode cX1_hideIfClashing 27 = .ok (.return_, 1) := by decide +kernel
theorem dJ7_fill_53178_0 : decode cJ7_fill_53178 0 = .ok (.iconst 0, 1) := by decide +kernel
theorem dJ7_fill_53178_1 : decode cJ7_fill_53178 1 = .ok (.istore_n 2, 1) := by decide +kernel
theorem dJ7_fill_53178_2 : decode cJ7_fill_53178 2 = .ok (.aload_n 0, 1) := by decide +kernel
theorem dJ7_fill_53178_3 : decode cJ7_fill_53178 3 = .ok (.arraylength, 1) := by decide +kernel
theorem dJ7_fill_53178_4 : decode cJ7_fill_53178 4 = .ok (.istore_n 3, 1) := by decide +kernel
theorem dJ7_fill_53178_5 : decode cJ7_fill_53178 5 = .ok (.iload_n 2, 1) := by decide +kernel
theorem dJ7_fill_53178_6 : decode cJ7_fill_53178 6 = .ok (.iload_n 3, 1) := by decide +kernel
theorem dJ7_fill_53178_7 : decode cJ7_fill_53178 7 = .ok (.if_icmp .ge 13, 3) := by decide +kernel
theorem dJ7_fill_53178_10 : decode cJ7_fill_53178 10 = .ok (.aload_n 0, 1) := by decide +kernel
theorem dJ7_fill_53178_11 : decode cJ7_fill_53178 11 = .ok (.iload_n 2, 1) := by decide +kernel
theorem dJ7_fill_53178_12 : decode cJ7_fill_53178 12 = .ok (.iload_n 1, 1) := by decide +kernel
theorem dJ7_fill_53178_13 : decode cJ7_fill_53178 13 = .ok (.iastore, 1) := by decide +kernel
theorem dJ7_fill_53178_14 : decode cJ7_fill_53178 14 = .ok (.iinc 2 1, 3) := by decide +kernel
theorem dJ7_fill_53178_17 : decode cJ7_fill_53178 17 = .ok (.goto (-12), 3) := by decide +kernel
theorem dJ7_fill_53178_20 : decode cJ7_fill_53178 20 = .ok (.return_, 1) := by decide +kernel
theorem dX1_hideEach_0 : decode cX1_hideEach 0 = .ok (.aload_n 0, 1) := by decide +kernel
theorem dX1_hideEach_1 : decode cX1_hideEach 1 = .ok (.invokevirtual 49, 3) := by decide +kernel
theorem dX1_hideEach_4 : decode cX1_hideEach 4 = .ok (.istore_n 1, 1) := by decide +kernel
theorem dX1_hideEach_5 : decode cX1_hideEach 5 = .ok (.aload_n 0, 1) := by decide +kernel
theorem dX1_hideEach_6 : decode cX1_hideEach 6 = .ok (.getfield 19, 3) := by decide +kernel
theorem dX1_hideEach_9 : decode cX1_hideEach 9 = .ok (.iconst (-1), 1) := by decide +kernel
theorem dX1_hideEach_10 : decode cX1_hideEach 10 = .ok (.invokestatic 23, 3) := by decide +kernel
theorem dX1_hideEach_13 : decode cX1_hideEach 13 = .ok (.iload_n 1, 1) := by decide +kernel
theorem dX1_hideEach_14 : decode cX1_hideEach 14 = .ok (.ireturn, 1) := by decide +kernel
theorem dX4_get_0 : decode cX4_get 0 = .ok (.aload_n 0, 1) := by decide +kernel
theorem dX4_get_1 : decode cX4_get 1 = .ok (.getfield 15, 3) := by decide +kernel
theorem dX4_get_4 : decode cX4_get 4 = .ok (.iload_n 1, 1) := by decide +kernel
theorem dX4_get_5 : decode cX4_get 5 = .ok (.bipush 6, 2) := by decide +kernel
theorem dX4_get_7 : decode cX4_get 7 = .ok (.imul, 1) := by decide +kernel
theorem dX4_get_8 : decode cX4_get 8 = .ok (.iload_n 2, 1) := by decide +kernel
theorem dX4_get_9 : decode cX4_get 9 = .ok (.iadd, 1) := by decide +kernel
theorem dX4_get_10 : decode cX4_get 10 = .ok (.iaload, 1) := by decide +kernel
theorem dX4_get_11 : decode cX4_get 11 = .ok (.ireturn, 1) := by decide +kernel
theorem dX1_sumShown_0 : decode cX1_sumShown 0 = .ok (.iconst 0, 1) := by decide +kernel
theorem dX1_sumShown_1 : decode cX1_sumShown 1 = .ok (.istore_n 1, 1) := by decide +kernel
theorem dX1_sumShown_2 : decode cX1_sumShown 2 = .ok (.iconst 0, 1) := by decide +kernel
theorem dX1_sumShown_3 : decode cX1_sumShown 3 = .ok (.istore_n 2, 1) := by decide +kernel
theorem dX1_sumShown_4 : decode cX1_sumShown 4 = .ok (.iload_n 2, 1) := by decide +kernel
theorem dX1_sumShown_5 : decode cX1_sumShown 5 = .ok (.aload_n 0, 1) := by decide +kernel
theorem dX1_sumShown_6 : decode cX1_sumShown 6 = .ok (.getfield 9, 3) := by decide +kernel
theorem dX1_sumShown_9 : decode cX1_sumShown 9 = .ok (.getfield 29, 3) := by decide +kernel
theorem dX1_sumShown_12 : decode cX1_sumShown 12 = .ok (.if_icmp .ge 29, 3) := by decide +kernel
theorem dX1_sumShown_15 : decode cX1_sumShown 15 = .ok (.aload_n 0, 1) := by decide +kernel
theorem dX1_sumShown_16 : decode cX1_sumShown 16 = .ok (.iload_n 2, 1) := by decide +kernel
theorem dX1_sumShown_17 : decode cX1_sumShown 17 = .ok (.invokevirtual 35, 3) := by decide +kernel
theorem dX1_sumShown_20 : decode cX1_sumShown 20 = .ok (.ifCond .eq 15, 3) := by decide +kernel
theorem dX1_sumShown_23 : decode cX1_sumShown 23 = .ok (.iload_n 1, 1) := by decide +kernel
theorem dX1_sumShown_24 : decode cX1_sumShown 24 = .ok (.aload_n 0, 1) := by decide +kernel
theorem dX1_sumShown_25 : decode cX1_sumShown 25 = .ok (.getfield 9, 3) := by decide +kernel
theorem dX1_sumShown_28 : decode cX1_sumShown 28 = .ok (.iload_n 2, 1) := by decide +kernel
theorem dX1_sumShown_29 : decode cX1_sumShown 29 = .ok (.iconst 4, 1) := by decide +kernel
theorem dX1_sumShown_30 : decode cX1_sumShown 30 = .ok (.invokevirtual 57, 3) := by decide +kernel
theorem dX1_sumShown_33 : decode cX1_sumShown 33 = .ok (.iadd, 1) := by decide +kernel
theorem dX1_sumShown_34 : decode cX1_sumShown 34 = .ok (.istore_n 1, 1) := by decide +kernel
theorem dX1_sumShown_35 : decode cX1_sumShown 35 = .ok (.iinc 2 1, 3) := by decide +kernel
theorem dX1_sumShown_38 : decode cX1_sumShown 38 = .ok (.goto (-34), 3) := by decide +kernel
theorem dX1_sumShown_41 : decode cX1_sumShown 41 = .ok (.iload_n 1, 1) := by decide +kernel
theorem dX1_sumShown_42 : decode cX1_sumShown 42 = .ok (.ireturn, 1) := by decide +kernel
theorem dX3_covers_0 : decode cX3_covers 0 = .ok (.iload_n 1, 1) := by decide +kernel
theorem dX3_covers_1 : decode cX3_covers 1 = .ok (.bipush 8, 2) := by decide +kernel
theorem dX3_covers_3 : decode cX3_covers 3 = .ok (.imul, 1) := by decide +kernel
theorem dX3_covers_4 : decode cX3_covers 4 = .ok (.iload_n 2, 1) := by decide +kernel
theorem dX3_covers_5 : decode cX3_covers 5 = .ok (.iadd, 1) := by decide +kernel
theorem dX3_covers_6 : decode cX3_covers 6 = .ok (.istore 5, 2) := by decide +kernel
theorem dX3_covers_8 : decode cX3_covers 8 = .ok (.iload_n 3, 1) := by decide +kernel
theorem dX3_covers_9 : decode cX3_covers 9 = .ok (.aload_n 0, 1) := by decide +kernel
theorem dX3_covers_10 : decode cX3_covers 10 = .ok (.getfield 19, 3) := by decide +kernel
theorem dX3_covers_13 : decode cX3_covers 13 = .ok (.iload 5, 2) := by decide +kernel
theorem dX3_covers_15 : decode cX3_covers 15 = .ok (.iaload, 1) := by decide +kernel
theorem dX3_covers_16 : decode cX3_covers 16 = .ok (.if_icmp .lt 42, 3) := by decide +kernel
theorem dX3_covers_19 : decode cX3_covers 19 = .ok (.iload_n 3, 1) := by decide +kernel
theorem dX3_covers_20 : decode cX3_covers 20 = .ok (.aload_n 0, 1) := by decide +kernel
theorem dX3_covers_21 : decode cX3_covers 21 = .ok (.getfield 26, 3) := by decide +kernel
theorem dX3_covers_24 : decode cX3_covers 24 = .ok (.iload 5, 2) := by decide +kernel
theorem dX3_covers_26 : decode cX3_covers 26 = .ok (.iaload, 1) := by decide +kernel
theorem dX3_covers_27 : decode cX3_covers 27 = .ok (.if_icmp .ge 31, 3) := by decide +kernel
theorem dX3_covers_30 : decode cX3_covers 30 = .ok (.iload 4, 2) := by decide +kernel
theorem dX3_covers_32 : decode cX3_covers 32 = .ok (.aload_n 0, 1) := by decide +kernel
theorem dX3_covers_33 : decode cX3_covers 33 = .ok (.getfield 23, 3) := by decide +kernel
theorem dX3_covers_36 : decode cX3_covers 36 = .ok (.iload 5, 2) := by decide +kernel
theorem dX3_covers_38 : decode cX3_covers 38 = .ok (.iaload, 1) := by decide +kernel
theorem dX3_covers_39 : decode cX3_covers 39 = .ok (.if_icmp .lt 19, 3) := by decide +kernel
theorem dX3_covers_42 : decode cX3_covers 42 = .ok (.iload 4, 2) := by decide +kernel
theorem dX3_covers_44 : decode cX3_covers 44 = .ok (.aload_n 0, 1) := by decide +kernel
theorem dX3_covers_45 : decode cX3_covers 45 = .ok (.getfield 29, 3) := by decide +kernel
theorem dX3_covers_48 : decode cX3_covers 48 = .ok (.iload 5, 2) := by decide +kernel
theorem dX3_covers_50 : decode cX3_covers 50 = .ok (.iaload, 1) := by decide +kernel
theorem dX3_covers_51 : decode cX3_covers 51 = .ok (.if_icmp .ge 7, 3) := by decide +kernel
theorem dX3_covers_54 : decode cX3_covers 54 = .ok (.iconst 1, 1) := by decide +kernel
theorem dX3_covers_55 : decode cX3_covers 55 = .ok (.goto 4, 3) := by decide +kernel
theorem dX3_covers_58 : decode cX3_covers 58 = .ok (.iconst 0, 1) := by decide +kernel
theorem dX3_covers_59 : decode cX3_covers 59 = .ok (.ireturn, 1) := by decide +kernel
set_option maxHeartbeats 4000000 in
set_option maxRecDepth 100000 in
theorem qTx_at_ok {σ : QS} {x1 : Int32} {r : Int32} (h : qTx_at σ x1 = some r) : qx_E (qx_gC l D ci a z) 1 mX6_at (some (.int r), σ) 0 [(0, .ref (a 19)), (1, .int x1)] [] σ := by
  unfold qTx_at at h
  refine qx_iload_n (pc := 0) 1 dX6_at_0 rfl ?_
  refine qx_if_lt (pc := 1) 21 h dX6_at_1 (by decide) (fun h => ?_) (fun h => ?_)
  · refine qx_iconst (pc := 21) (-1) dX6_at_21 (by decide) ?_
    exact qx_iret h rfl dX6_at_22
  · refine qx_iload_n (pc := 4) 1 dX6_at_4 rfl ?_
    refine qx_aload_n (pc := 5) 0 dX6_at_5 rfl ?_
    refine qgC19_0 (pc := 6) qwf_X6_9 dX6_at_6 ?_
    refine qx_icmp_ge (pc := 9) 21 h dX6_at_9 (by decide) (fun h => ?_) (fun h => ?_)
    · refine qx_iconst (pc := 21) (-1) dX6_at_21 (by decide) ?_
      exact qx_iret h rfl dX6_at_22
    · refine qx_aload_n (pc := 12) 0 dX6_at_12 rfl ?_
      refine qgC19_1 (pc := 13) qwf_X6_15 dX6_at_13 ?_
      refine qx_iload_n (pc := 16) 1 dX6_at_16 rfl ?_
      refine qlC20 (pc := 17) h dX6_at_17 (fun h => ?_)
      refine qx_goto (pc := 18) 22 dX6_at_18 (by decide) ?_
      exact qx_iret h rfl dX6_at_22
set_option maxHeartbeats 4000000 in
set_option maxRecDepth 100000 in
theorem qTx_isWord_L15_ok {σ : QS} {w : Nat} (hw : w < 6) {x1 : Int32} : ∀ (n : Nat) (x4 : Int32) (r : Int32), qTx_isWord_L15 σ x1 w n x4 = some r → qx_E (qx_gC l D ci a z) 6 mX6_isWord (some (.int r), σ) 15 [(0, .ref (a 19)), (1, .int x1), (3, .ref (z (10 + w))), (4, .int x4)] [] σ := by
  intro n
  induction n with
  | zero =>
    intro x4 r h
    exact (qx_none h).elim
  | succ n ih =>
    intro x4 r h
    unfold qTx_isWord_L15 at h
    refine qx_iload (pc := 15) 3 dX6_isWord_15 rfl ?_
    refine qx_aload_n (pc := 17) 2 dX6_isWord_17 rfl ?_
    obtain ⟨r1, hr1, h⟩ := qx_bindE h
    refine qstr_callLen (pc := 18) r1 [.int x4] hw hr1 qws_X6_23 (Nat.le_of_ble_eq_true rfl) (Nat.le_of_ble_eq_true rfl) dX6_isWord_18 ?_
    refine qx_icmp_ge (pc := 21) 49 h dX6_isWord_21 (by decide) (fun h => ?_) (fun h => ?_)
    · refine qx_iconst (pc := 49) 1 dX6_isWord_49 (by decide) ?_
      exact qx_nret h rfl rfl dX6_isWord_50
    · refine qx_aload_n (pc := 24) 0 dX6_isWord_24 rfl ?_
      refine qx_iload_n (pc := 25) 1 dX6_isWord_25 rfl ?_
      refine qx_iload (pc := 26) 3 dX6_isWord_26 rfl ?_
      refine qx_iadd (pc := 28) dX6_isWord_28 ?_
      obtain ⟨r2, hr2, h⟩ := qx_bindE h
      refine qx_callVi (pc := 29) 19 r2 σ [.int (x1 + x4)] [] rfl rfl rfl qcm_X6_at qcv_X6_at qwm_X6_19 rfl (Nat.le_of_ble_eq_true rfl) (Nat.le_of_ble_eq_true rfl) (by decide) dX6_isWord_29 (qTx_at_ok hr2) ?_
      refine qx_aload_n (pc := 32) 2 dX6_isWord_32 rfl ?_
      refine qx_iload (pc := 33) 3 dX6_isWord_33 rfl ?_
      obtain ⟨r3, hr3, h⟩ := qx_bindE h
      refine qstr_callChr (pc := 35) r3 [.int r2] hw hr3 qws_X6_28 (Nat.le_of_ble_eq_true rfl) (Nat.le_of_ble_eq_true rfl) dX6_isWord_35 ?_
      refine qx_icmp_eq (pc := 38) 43 h dX6_isWord_38 (by decide) (fun h => ?_) (fun h => ?_)
      · refine qx_iinc (pc := 43) (lv' := [(4, .int (x4 + 1)), (0, .ref (a 19)), (1, .int x1), (3, .ref (z (10 + w)))]) 3 (x4 + 1) dX6_isWord_43 rfl rfl (Nat.le_of_ble_eq_true rfl) rfl ?_
        refine qx_goto (pc := 46) 15 dX6_isWord_46 (by decide) ?_
        exact qx_sub [1, 2, 3, 0] rfl (ih _ _ h)
      · refine qx_iconst (pc := 41) 0 dX6_isWord_41 (by decide) ?_
        exact qx_nret h rfl rfl dX6_isWord_42
set_option maxHeartbeats 4000000 in
set_option maxRecDepth 100000 in
theorem qTx_isWord_ok {σ : QS} {x1 : Int32} {x2 : Int32} {w : Nat} (hw : w < 6) {r : Int32} (h : qTx_isWord σ x1 x2 w = some r) : qx_E (qx_gC l D ci a z) 6 mX6_isWord (some (.int r), σ) 0 [(0, .ref (a 19)), (1, .int x1), (2, .int x2), (3, .ref (z (10 + w)))] [] σ := by
  unfold qTx_isWord at h
  refine qx_iload_n (pc := 0) 2 dX6_isWord_0 rfl ?_
  refine qx_iload_n (pc := 1) 1 dX6_isWord_1 rfl ?_
  refine qx_isub (pc := 2) dX6_isWord_2 ?_
  refine qx_aload_n (pc := 3) 3 dX6_isWord_3 rfl ?_
  obtain ⟨r4, hr4, h⟩ := qx_bindE h
  refine qstr_callLen (pc := 4) r4 [.int (x2 - x1)] hw hr4 qws_X6_23 (Nat.le_of_ble_eq_true rfl) (Nat.le_of_ble_eq_true rfl) dX6_isWord_4 ?_
  refine qx_icmp_eq (pc := 7) 12 h dX6_isWord_7 (by decide) (fun h => ?_) (fun h => ?_)
  · refine qx_iconst (pc := 12) 0 dX6_isWord_12 (by decide) ?_
    refine qx_istore (pc := 13) (lv' := [(4, .int 0), (0, .ref (a 19)), (1, .int x1), (2, .int x2), (3, .ref (z (10 + w)))]) dX6_isWord_13 (Nat.le_of_ble_eq_true rfl) rfl ?_
    exact qx_sub [1, 2, 4, 0] rfl (qTx_isWord_L15_ok hw qx_F _ _ h)
  · refine qx_iconst (pc := 10) 0 dX6_isWord_10 (by decide) ?_
    exact qx_nret h rfl rfl dX6_isWord_11
set_option maxHeartbeats 4000000 in
set_option maxRecDepth 100000 in
theorem qCm_kindOf_ok {σ : QS} {x1 : Int32} {x2 : Int32} {r : Int32} (h : qCm_kindOf σ x1 x2 = some r) : qx_E (qx_gC l D ci a z) 7 mX0_kindOf (some (.int r), σ) 0 [(0, .ref (a 19)), (1, .int x1), (2, .int x2)] [] σ := by
  unfold qCm_kindOf at h
  refine qx_aload_n (pc := 0) 0 dX0_kindOf_0 rfl ?_
  refine qx_iload_n (pc := 1) 1 dX0_kindOf_1 rfl ?_
  refine qx_iload_n (pc := 2) 2 dX0_kindOf_2 rfl ?_
  refine qstr_ldc (pc := 3) 0 (by decide) rfl rfl dX0_kindOf_3 ?_
  obtain ⟨r1, hr1, h⟩ := qx_bindE h
  refine qx_callVi (pc := 5) 19 r1 σ [.int x1, .int x2, .ref (z (10 + 0))] [] rfl rfl rfl qcm_X6_isWord qcv_X6_isWord qwm_X0_48 rfl (Nat.le_of_ble_eq_true rfl) (Nat.le_of_ble_eq_true rfl) (by decide) dX0_kindOf_5 (qTx_isWord_ok (by decide) hr1) ?_
  refine qx_if_eq (pc := 8) 13 h dX0_kindOf_8 (by decide) (fun h => ?_) (fun h => ?_)
  · refine qx_aload_n (pc := 13) 0 dX0_kindOf_13 rfl ?_
    refine qx_iload_n (pc := 14) 1 dX0_kindOf_14 rfl ?_
    refine qx_iload_n (pc := 15) 2 dX0_kindOf_15 rfl ?_
    refine qstr_ldc (pc := 16) 1 (by decide) rfl rfl dX0_kindOf_16 ?_
    obtain ⟨r2, hr2, h⟩ := qx_bindE h
    refine qx_callVi (pc := 18) 19 r2 σ [.int x1, .int x2, .ref (z (10 + 1))] [] rfl rfl rfl qcm_X6_isWord qcv_X6_isWord qwm_X0_48 rfl (Nat.le_of_ble_eq_true rfl) (Nat.le_of_ble_eq_true rfl) (by decide) dX0_kindOf_18 (qTx_isWord_ok (by decide) hr2) ?_
    refine qx_if_eq (pc := 21) 26 h dX0_kindOf_21 (by decide) (fun h => ?_) (fun h => ?_)
    · refine qx_aload_n (pc := 26) 0 dX0_kindOf_26 rfl ?_
      refine qx_iload_n (pc := 27) 1 dX0_kindOf_27 rfl ?_
      refine qx_iload_n (pc := 28) 2 dX0_kindOf_28 rfl ?_
      refine qstr_ldc (pc := 29) 2 (by decide) rfl rfl dX0_kindOf_29 ?_
      obtain ⟨r3, hr3, h⟩ := qx_bindE h
      refine qx_callVi (pc := 31) 19 r3 σ [.int x1, .int x2, .ref (z (10 + 2))] [] rfl rfl rfl qcm_X6_isWord qcv_X6_isWord qwm_X0_48 rfl (Nat.le_of_ble_eq_true rfl) (Nat.le_of_ble_eq_true rfl) (by decide) dX0_kindOf_31 (qTx_isWord_ok (by decide) hr3) ?_
      refine qx_if_eq (pc := 34) 39 h dX0_kindOf_34 (by decide) (fun h => ?_) (fun h => ?_)
      · refine qx_aload_n (pc := 39) 0 dX0_kindOf_39 rfl ?_
        refine qx_iload_n (pc := 40) 1 dX0_kindOf_40 rfl ?_
        refine qx_iload_n (pc := 41) 2 dX0_kindOf_41 rfl ?_
        refine qstr_ldc (pc := 42) 3 (by decide) rfl rfl dX0_kindOf_42 ?_
        obtain ⟨r4, hr4, h⟩ := qx_bindE h
        refine qx_callVi (pc := 44) 19 r4 σ [.int x1, .int x2, .ref (z (10 + 3))] [] rfl rfl rfl qcm_X6_isWord qcv_X6_isWord qwm_X0_48 rfl (Nat.le_of_ble_eq_true rfl) (Nat.le_of_ble_eq_true rfl) (by decide) dX0_kindOf_44 (qTx_isWord_ok (by decide) hr4) ?_
        refine qx_if_eq (pc := 47) 52 h dX0_kindOf_47 (by decide) (fun h => ?_) (fun h => ?_)
        · refine qx_aload_n (pc := 52) 0 dX0_kindOf_52 rfl ?_
          refine qx_iload_n (pc := 53) 1 dX0_kindOf_53 rfl ?_
          refine qx_iload_n (pc := 54) 2 dX0_kindOf_54 rfl ?_
          refine qstr_ldc (pc := 55) 4 (by decide) rfl rfl dX0_kindOf_55 ?_
          obtain ⟨r5, hr5, h⟩ := qx_bindE h
          refine qx_callVi (pc := 57) 19 r5 σ [.int x1, .int x2, .ref (z (10 + 4))] [] rfl rfl rfl qcm_X6_isWord qcv_X6_isWord qwm_X0_48 rfl (Nat.le_of_ble_eq_true rfl) (Nat.le_of_ble_eq_true rfl) (by decide) dX0_kindOf_57 (qTx_isWord_ok (by decide) hr5) ?_
          refine qx_if_eq (pc := 60) 65 h dX0_kindOf_60 (by decide) (fun h => ?_) (fun h => ?_)
          · refine qx_aload_n (pc := 65) 0 dX0_kindOf_65 rfl ?_
            refine qx_iload_n (pc := 66) 1 dX0_kindOf_66 rfl ?_
            refine qx_iload_n (pc := 67) 2 dX0_kindOf_67 rfl ?_
            refine qstr_ldc (pc := 68) 5 (by decide) rfl rfl dX0_kindOf_68 ?_
            obtain ⟨r6, hr6, h⟩ := qx_bindE h
            refine qx_callVi (pc := 70) 19 r6 σ [.int x1, .int x2, .ref (z (10 + 5))] [] rfl rfl rfl qcm_X6_isWord qcv_X6_isWord qwm_X0_48 rfl (Nat.le_of_ble_eq_true rfl) (Nat.le_of_ble_eq_true rfl) (by decide) dX0_kindOf_70 (qTx_isWord_ok (by decide) hr6) ?_
            refine qx_if_eq (pc := 73) 80 h dX0_kindOf_73 (by decide) (fun h => ?_) (fun h => ?_)
            · refine qx_iconst (pc := 80) (-1) dX0_kindOf_80 (by decide) ?_
              exact qx_iret h rfl dX0_kindOf_81
            · refine qx_iconst (pc := 76) 5 dX0_kindOf_76 (by decide) ?_
              refine qx_goto (pc := 77) 81 dX0_kindOf_77 (by decide) ?_
              exact qx_iret h rfl dX0_kindOf_81
          · refine qx_iconst (pc := 63) 4 dX0_kindOf_63 (by decide) ?_
            exact qx_iret h rfl dX0_kindOf_64
        · refine qx_iconst (pc := 50) 3 dX0_kindOf_50 (by decide) ?_
          exact qx_iret h rfl dX0_kindOf_51
      · refine qx_iconst (pc := 37) 2 dX0_kindOf_37 (by decide) ?_
        exact qx_iret h rfl dX0_kindOf_38
    · refine qx_iconst (pc := 24) 1 dX0_kindOf_24 (by decide) ?_
      exact qx_iret h rfl dX0_kindOf_25
  · refine qx_iconst (pc := 11) 0 dX0_kindOf_11 (by decide) ?_
    exact qx_iret h rfl dX0_kindOf_12
set_option maxHeartbeats 4000000 in
set_option maxRecDepth 100000 in
theorem qCm_skipBlanks_L0_ok : ∀ (n : Nat) (σ : QS) (r : QS), qCm_skipBlanks_L0 n σ = some r → qx_E (qx_gC l D ci a z) 2 mX0_skipBlanks (none, r) 0 [(0, .ref (a 21)), (1, .ref (a 19))] [] σ := by
  intro n
  induction n with
  | zero =>
    intro σ r h
    exact (qx_none h).elim
  | succ n ih =>
    intro σ r h
    unfold qCm_skipBlanks_L0 at h
    refine qx_aload_n (pc := 0) 0 dX0_skipBlanks_0 rfl ?_
    refine qgC21_2 (pc := 1) qwf_X0_19 dX0_skipBlanks_1 ?_
    refine qx_aload_n (pc := 4) 1 dX0_skipBlanks_4 rfl ?_
    refine qgC19_0 (pc := 5) qwf_X0_26 dX0_skipBlanks_5 ?_
    refine qx_icmp_ge (pc := 8) 37 h dX0_skipBlanks_8 (by decide) (fun h => ?_) (fun h => ?_)
    · exact qx_vret h rfl dX0_skipBlanks_37
    · refine qx_aload_n (pc := 11) 1 dX0_skipBlanks_11 rfl ?_
      refine qx_aload_n (pc := 12) 0 dX0_skipBlanks_12 rfl ?_
      refine qgC21_2 (pc := 13) qwf_X0_19 dX0_skipBlanks_13 ?_
      obtain ⟨r1, hr1, h⟩ := qx_bindE h
      refine qx_callVi (pc := 16) 19 r1 σ [.int (σ.1 21 2)] [] rfl rfl rfl qcm_X6_at qcv_X6_at qwm_X0_62 rfl (Nat.le_of_ble_eq_true rfl) (Nat.le_of_ble_eq_true rfl) (by decide) dX0_skipBlanks_16 (qTx_at_ok hr1) ?_
      refine qx_bipush (pc := 19) 32 dX0_skipBlanks_19 (by decide) ?_
      refine qx_icmp_ne (pc := 21) 37 h dX0_skipBlanks_21 (by decide) (fun h => ?_) (fun h => ?_)
      · exact qx_vret h rfl dX0_skipBlanks_37
      · refine qx_aload_n (pc := 24) 0 dX0_skipBlanks_24 rfl ?_
        refine qx_dup (pc := 25) dX0_skipBlanks_25 rfl ?_
        refine qgC21_2 (pc := 26) qwf_X0_19 dX0_skipBlanks_26 ?_
        refine qx_iconst (pc := 29) 1 dX0_skipBlanks_29 (by decide) ?_
        refine qx_iadd (pc := 30) dX0_skipBlanks_30 ?_
        refine qpC21_2 (pc := 31) qwf_X0_19 dX0_skipBlanks_31 ?_
        refine qx_goto (pc := 34) 0 dX0_skipBlanks_34 (by decide) ?_
        exact (ih _ _ h)
set_option maxHeartbeats 4000000 in
set_option maxRecDepth 100000 in
theorem qCm_skipBlanks_ok {σ : QS} {r : QS} (h : qCm_skipBlanks σ = some r) : qx_E (qx_gC l D ci a z) 2 mX0_skipBlanks (none, r) 0 [(0, .ref (a 21)), (1, .ref (a 19))] [] σ := by
  unfold qCm_skipBlanks at h
  exact (qCm_skipBlanks_L0_ok qx_F _ _ h)
set_option maxHeartbeats 4000000 in
set_option maxRecDepth 100000 in
theorem qTx_isDigit_ok {σ : QS} {x1 : Int32} {r : Int32} (h : qTx_isDigit σ x1 = some r) : qx_E (qx_gC l D ci a z) 2 mX6_isDigit (some (.int r), σ) 0 [(0, .ref (a 19)), (1, .int x1)] [] σ := by
  unfold qTx_isDigit at h
  refine qx_aload_n (pc := 0) 0 dX6_isDigit_0 rfl ?_
  refine qx_iload_n (pc := 1) 1 dX6_isDigit_1 rfl ?_
  obtain ⟨r1, hr1, h⟩ := qx_bindE h
  refine qx_callVi (pc := 2) 19 r1 σ [.int x1] [] rfl rfl rfl qcm_X6_at qcv_X6_at qwm_X6_19 rfl (Nat.le_of_ble_eq_true rfl) (Nat.le_of_ble_eq_true rfl) (by decide) dX6_isDigit_2 (qTx_at_ok hr1) ?_
  refine qx_bipush (pc := 5) 48 dX6_isDigit_5 (by decide) ?_
  refine qx_icmp_lt (pc := 7) 24 h dX6_isDigit_7 (by decide) (fun h => ?_) (fun h => ?_)
  · refine qx_iconst (pc := 24) 0 dX6_isDigit_24 (by decide) ?_
    exact qx_nret h rfl rfl dX6_isDigit_25
  · refine qx_aload_n (pc := 10) 0 dX6_isDigit_10 rfl ?_
    refine qx_iload_n (pc := 11) 1 dX6_isDigit_11 rfl ?_
    obtain ⟨r2, hr2, h⟩ := qx_bindE h
    refine qx_callVi (pc := 12) 19 r2 σ [.int x1] [] rfl rfl rfl qcm_X6_at qcv_X6_at qwm_X6_19 rfl (Nat.le_of_ble_eq_true rfl) (Nat.le_of_ble_eq_true rfl) (by decide) dX6_isDigit_12 (qTx_at_ok hr2) ?_
    refine qx_bipush (pc := 15) 57 dX6_isDigit_15 (by decide) ?_
    refine qx_icmp_gt (pc := 17) 24 h dX6_isDigit_17 (by decide) (fun h => ?_) (fun h => ?_)
    · refine qx_iconst (pc := 24) 0 dX6_isDigit_24 (by decide) ?_
      exact qx_nret h rfl rfl dX6_isDigit_25
    · refine qx_iconst (pc := 20) 1 dX6_isDigit_20 (by decide) ?_
      refine qx_goto (pc := 21) 25 dX6_isDigit_21 (by decide) ?_
      exact qx_nret h rfl rfl dX6_isDigit_25
set_option maxHeartbeats 4000000 in
set_option maxRecDepth 100000 in
theorem qCm_readNumber_J135_ok {σ : QS} {x2 : Int32} {x3 : Int32} {x4 : Int32} {r : Int32 × QS} (h : qCm_readNumber_J135 σ x2 x3 x4 = some r) : qx_E (qx_gC l D ci a z) 3 mX0_readNumber (some (.int r.1), r.2) 135 [(0, .ref (a 21)), (2, .int x2), (3, .int x3), (4, .int x4)] [] σ := by
  unfold qCm_readNumber_J135 at h
  refine qx_aload_n (pc := 135) 0 dX0_readNumber_135 rfl ?_
  refine qgC21_1 (pc := 136) qwf_X0_15 dX0_readNumber_136 ?_
  refine qx_iload_n (pc := 139) 1 dX0_readNumber_139 rfl ?_
  refine qx_iload_n (pc := 140) 2 dX0_readNumber_140 rfl ?_
  refine qx_if_eq (pc := 141) 150 h dX0_readNumber_141 (by decide) (fun h => ?_) (fun h => ?_)
  · refine qx_iload (pc := 150) 3 dX0_readNumber_150 rfl ?_
    refine qsC22 (pc := 152) h dX0_readNumber_152 (fun h => ?_)
    refine qx_iconst (pc := 153) 1 dX0_readNumber_153 (by decide) ?_
    exact qx_nretS h rfl rfl dX0_readNumber_154
  · refine qx_iload (pc := 144) 3 dX0_readNumber_144 rfl ?_
    refine qx_ineg (pc := 146) dX0_readNumber_146 ?_
    refine qx_goto (pc := 147) 152 dX0_readNumber_147 (by decide) ?_
    refine qsC22 (pc := 152) h dX0_readNumber_152 (fun h => ?_)
    refine qx_iconst (pc := 153) 1 dX0_readNumber_153 (by decide) ?_
    exact qx_nretS h rfl rfl dX0_readNumber_154
set_option maxHeartbeats 4000000 in
set_option maxRecDepth 100000 in
theorem qCm_readNumber_L83_ok {x2 : Int32} {x3 : Int32} : ∀ (n : Nat) (σ : QS) (x4 : Int32) (x5 : Int32) (r : Int32 × QS), qCm_readNumber_L83 x2 x3 n σ x4 x5 = some r → qx_E (qx_gC l D ci a z) 3 mX0_readNumber (some (.int r.1), r.2) 83 [(0, .ref (a 21)), (1, .ref (a 19)), (2, .int x2), (3, .int x3), (4, .int x4), (5, .int x5)] [] σ := by
  intro n
  induction n with
  | zero =>
    intro σ x4 x5 r h
    exact (qx_none h).elim
  | succ n ih =>
    intro σ x4 x5 r h
    unfold qCm_readNumber_L83 at h
    refine qx_iload (pc := 83) 5 dX0_readNumber_83 rfl ?_
    refine qx_iconst (pc := 85) 3 dX0_readNumber_85 (by decide) ?_
    refine qx_icmp_ge (pc := 86) 135 h dX0_readNumber_86 (by decide) (fun h => ?_) (fun h => ?_)
    · exact qx_sub [0, 2, 3, 4] rfl (qCm_readNumber_J135_ok h)
    · refine qx_aload_n (pc := 89) 1 dX0_readNumber_89 rfl ?_
      refine qx_aload_n (pc := 90) 0 dX0_readNumber_90 rfl ?_
      refine qgC21_2 (pc := 91) qwf_X0_19 dX0_readNumber_91 ?_
      obtain ⟨r1, hr1, h⟩ := qx_bindE h
      refine qx_callVi (pc := 94) 19 r1 σ [.int (σ.1 21 2)] [] rfl rfl rfl qcm_X6_isDigit qcv_X6_isDigit qwm_X0_66 rfl (Nat.le_of_ble_eq_true rfl) (Nat.le_of_ble_eq_true rfl) (by decide) dX0_readNumber_94 (qTx_isDigit_ok hr1) ?_
      refine qx_if_eq (pc := 97) 135 h dX0_readNumber_97 (by decide) (fun h => ?_) (fun h => ?_)
      · exact qx_sub [0, 2, 3, 4] rfl (qCm_readNumber_J135_ok h)
      · refine qx_bipush (pc := 100) 10 dX0_readNumber_100 (by decide) ?_
        refine qx_iload (pc := 102) 4 dX0_readNumber_102 rfl ?_
        refine qx_imul (pc := 104) dX0_readNumber_104 ?_
        refine qx_aload_n (pc := 105) 1 dX0_readNumber_105 rfl ?_
        refine qx_aload_n (pc := 106) 0 dX0_readNumber_106 rfl ?_
        refine qgC21_2 (pc := 107) qwf_X0_19 dX0_readNumber_107 ?_
        obtain ⟨r2, hr2, h⟩ := qx_bindE h
        refine qx_callVi (pc := 110) 19 r2 σ [.int (σ.1 21 2)] [.int (10 * x4)] rfl rfl rfl qcm_X6_at qcv_X6_at qwm_X0_62 rfl (Nat.le_of_ble_eq_true rfl) (Nat.le_of_ble_eq_true rfl) (by decide) dX0_readNumber_110 (qTx_at_ok hr2) ?_
        refine qx_iadd (pc := 113) dX0_readNumber_113 ?_
        refine qx_bipush (pc := 114) 48 dX0_readNumber_114 (by decide) ?_
        refine qx_isub (pc := 116) dX0_readNumber_116 ?_
        refine qx_istore (pc := 117) (lv' := [(4, .int (((10 * x4) + r2) - 48)), (0, .ref (a 21)), (1, .ref (a 19)), (2, .int x2), (3, .int x3), (5, .int x5)]) dX0_readNumber_117 (Nat.le_of_ble_eq_true rfl) rfl ?_
        refine qx_aload_n (pc := 119) 1 dX0_readNumber_119 rfl ?_
        refine qx_dup (pc := 120) dX0_readNumber_120 rfl ?_
        refine qgC21_2 (pc := 121) qwf_X0_19 dX0_readNumber_121 ?_
        refine qx_iconst (pc := 124) 1 dX0_readNumber_124 (by decide) ?_
        refine qx_iadd (pc := 125) dX0_readNumber_125 ?_
        refine qpC21_2 (pc := 126) qwf_X0_19 dX0_readNumber_126 ?_
        refine qx_iinc (pc := 129) (lv' := [(5, .int (x5 + 1)), (4, .int (((10 * x4) + r2) - 48)), (0, .ref (a 21)), (1, .ref (a 19)), (2, .int x2), (3, .int x3)]) 5 (x5 + 1) dX0_readNumber_129 rfl rfl (Nat.le_of_ble_eq_true rfl) rfl ?_
        refine qx_goto (pc := 132) 83 dX0_readNumber_132 (by decide) ?_
        exact qx_sub [2, 3, 4, 5, 1, 0] rfl (ih _ _ _ _ h)
set_option maxHeartbeats 4000000 in
set_option maxRecDepth 100000 in
theorem qCm_readNumber_J51_ok {σ : QS} {x2 : Int32} {x3 : Int32} {r : Int32 × QS} (h : qCm_readNumber_J51 σ x2 x3 = some r) : qx_E (qx_gC l D ci a z) 3 mX0_readNumber (some (.int r.1), r.2) 51 [(0, .ref (a 21)), (1, .ref (a 19)), (2, .int x2), (3, .int x3)] [] σ := by
  unfold qCm_readNumber_J51 at h
  refine qx_aload_n (pc := 51) 1 dX0_readNumber_51 rfl ?_
  refine qx_aload_n (pc := 52) 0 dX0_readNumber_52 rfl ?_
  refine qgC21_2 (pc := 53) qwf_X0_19 dX0_readNumber_53 ?_
  obtain ⟨r3, hr3, h⟩ := qx_bindE h
  refine qx_callVi (pc := 56) 19 r3 σ [.int (σ.1 21 2)] [] rfl rfl rfl qcm_X6_isDigit qcv_X6_isDigit qwm_X0_66 rfl (Nat.le_of_ble_eq_true rfl) (Nat.le_of_ble_eq_true rfl) (by decide) dX0_readNumber_56 (qTx_isDigit_ok hr3) ?_
  refine qx_if_eq (pc := 59) 75 h dX0_readNumber_59 (by decide) (fun h => ?_) (fun h => ?_)
  · refine qx_iconst (pc := 75) 0 dX0_readNumber_75 (by decide) ?_
    exact qx_nretS h rfl rfl dX0_readNumber_76
  · refine qx_aload_n (pc := 62) 1 dX0_readNumber_62 rfl ?_
    refine qx_aload_n (pc := 63) 0 dX0_readNumber_63 rfl ?_
    refine qgC21_2 (pc := 64) qwf_X0_19 dX0_readNumber_64 ?_
    refine qx_iconst (pc := 67) 1 dX0_readNumber_67 (by decide) ?_
    refine qx_isub (pc := 68) dX0_readNumber_68 ?_
    obtain ⟨r4, hr4, h⟩ := qx_bindE h
    refine qx_callVi (pc := 69) 19 r4 σ [.int ((σ.1 21 2) - 1)] [] rfl rfl rfl qcm_X6_isDigit qcv_X6_isDigit qwm_X0_66 rfl (Nat.le_of_ble_eq_true rfl) (Nat.le_of_ble_eq_true rfl) (by decide) dX0_readNumber_69 (qTx_isDigit_ok hr4) ?_
    refine qx_if_eq (pc := 72) 77 h dX0_readNumber_72 (by decide) (fun h => ?_) (fun h => ?_)
    · refine qx_iconst (pc := 77) 0 dX0_readNumber_77 (by decide) ?_
      refine qx_istore (pc := 78) (lv' := [(4, .int 0), (0, .ref (a 21)), (1, .ref (a 19)), (2, .int x2), (3, .int x3)]) dX0_readNumber_78 (Nat.le_of_ble_eq_true rfl) rfl ?_
      refine qx_iconst (pc := 80) 0 dX0_readNumber_80 (by decide) ?_
      refine qx_istore (pc := 81) (lv' := [(5, .int 0), (4, .int 0), (0, .ref (a 21)), (1, .ref (a 19)), (2, .int x2), (3, .int x3)]) dX0_readNumber_81 (Nat.le_of_ble_eq_true rfl) rfl ?_
      exact qx_sub [2, 3, 4, 5, 1, 0] rfl (qCm_readNumber_L83_ok qx_F _ _ _ _ h)
    · refine qx_iconst (pc := 75) 0 dX0_readNumber_75 (by decide) ?_
      exact qx_nretS h rfl rfl dX0_readNumber_76
set_option maxHeartbeats 4000000 in
set_option maxRecDepth 100000 in
theorem qCm_readNumber_J31_ok {σ : QS} {x2 : Int32} {s0 : Int32} {r : Int32 × QS} (h : qCm_readNumber_J31 σ x2 s0 = some r) : qx_E (qx_gC l D ci a z) 3 mX0_readNumber (some (.int r.1), r.2) 31 [(0, .ref (a 21)), (1, .ref (a 19)), (2, .int x2)] [.int s0] σ := by
  unfold qCm_readNumber_J31 at h
  refine qx_istore_n (pc := 31) (lv' := [(3, .int s0), (0, .ref (a 21)), (1, .ref (a 19)), (2, .int x2)]) dX0_readNumber_31 (Nat.le_of_ble_eq_true rfl) rfl ?_
  refine qx_iload_n (pc := 32) 0 dX0_readNumber_32 rfl ?_
  refine qx_if_eq (pc := 33) 51 h dX0_readNumber_33 (by decide) (fun h => ?_) (fun h => ?_)
  · exact qx_sub [1, 2, 3, 0] rfl (qCm_readNumber_J51_ok h)
  · refine qx_aload_n (pc := 36) 1 dX0_readNumber_36 rfl ?_
    refine qx_dup (pc := 37) dX0_readNumber_37 rfl ?_
    refine qgC21_2 (pc := 38) qwf_X0_19 dX0_readNumber_38 ?_
    refine qx_iconst (pc := 41) 1 dX0_readNumber_41 (by decide) ?_
    refine qx_iadd (pc := 42) dX0_readNumber_42 ?_
    refine qpC21_2 (pc := 43) qwf_X0_19 dX0_readNumber_43 ?_
    refine qx_aload_n (pc := 46) 1 dX0_readNumber_46 rfl ?_
    refine qx_aload_n (pc := 47) 2 dX0_readNumber_47 rfl ?_
    obtain ⟨r5, hr5, h⟩ := qx_bindE h
    refine qx_callVv (pc := 48) 21 r5 [.ref (a 19)] [] rfl rfl rfl qcm_X0_skipBlanks qcv_X0_skipBlanks qwm_X0_22 rfl (Nat.le_of_ble_eq_true rfl) (Nat.le_of_ble_eq_true rfl) (by decide) dX0_readNumber_48 (qCm_skipBlanks_ok hr5) ?_
    exact qx_sub [1, 2, 3, 0] rfl (qCm_readNumber_J51_ok h)
set_option maxHeartbeats 4000000 in
set_option maxRecDepth 100000 in
theorem qCm_readNumber_ok {σ : QS} {x2 : Int32} {r : Int32 × QS} (h : qCm_readNumber σ x2 = some r) : qx_E (qx_gC l D ci a z) 3 mX0_readNumber (some (.int r.1), r.2) 0 [(0, .ref (a 21)), (1, .ref (a 19)), (2, .int x2)] [] σ := by
  unfold qCm_readNumber at h
  refine qx_aload_n (pc := 0) 0 dX0_readNumber_0 rfl ?_
  refine qx_aload_n (pc := 1) 1 dX0_readNumber_1 rfl ?_
  obtain ⟨r6, hr6, h⟩ := qx_bindE h
  refine qx_callVv (pc := 2) 21 r6 [.ref (a 19)] [] rfl rfl rfl qcm_X0_skipBlanks qcv_X0_skipBlanks qwm_X0_22 rfl (Nat.le_of_ble_eq_true rfl) (Nat.le_of_ble_eq_true rfl) (by decide) dX0_readNumber_2 (qCm_skipBlanks_ok hr6) ?_
  refine qx_aload_n (pc := 5) 0 dX0_readNumber_5 rfl ?_
  refine qgC21_0 (pc := 6) qwf_X0_9 dX0_readNumber_6 ?_
  refine qx_iconst (pc := 9) 2 dX0_readNumber_9 (by decide) ?_
  refine qx_icmp_ne (pc := 10) 30 h dX0_readNumber_10 (by decide) (fun h => ?_) (fun h => ?_)
  · refine qx_iconst (pc := 30) 0 dX0_readNumber_30 (by decide) ?_
    exact (qCm_readNumber_J31_ok h)
  · refine qx_aload_n (pc := 13) 1 dX0_readNumber_13 rfl ?_
    refine qx_aload_n (pc := 14) 0 dX0_readNumber_14 rfl ?_
    refine qgC21_2 (pc := 15) qwf_X0_19 dX0_readNumber_15 ?_
    obtain ⟨r7, hr7, h⟩ := qx_bindE h
    refine qx_callVi (pc := 18) 19 r7 r6 [.int (r6.1 21 2)] [] rfl rfl rfl qcm_X6_at qcv_X6_at qwm_X0_62 rfl (Nat.le_of_ble_eq_true rfl) (Nat.le_of_ble_eq_true rfl) (by decide) dX0_readNumber_18 (qTx_at_ok hr7) ?_
    refine qx_bipush (pc := 21) 45 dX0_readNumber_21 (by decide) ?_
    refine qx_icmp_ne (pc := 23) 30 h dX0_readNumber_23 (by decide) (fun h => ?_) (fun h => ?_)
    · refine qx_iconst (pc := 30) 0 dX0_readNumber_30 (by decide) ?_
      exact (qCm_readNumber_J31_ok h)
    · refine qx_iconst (pc := 26) 1 dX0_readNumber_26 (by decide) ?_
      refine qx_goto (pc := 27) 31 dX0_readNumber_27 (by decide) ?_
      exact (qCm_readNumber_J31_ok h)
set_option maxHeartbeats 4000000 in
set_option maxRecDepth 100000 in
theorem qTx_isSmallLetter_ok {σ : QS} {x1 : Int32} {r : Int32} (h : qTx_isSmallLetter σ x1 = some r) : qx_E (qx_gC l D ci a z) 2 mX6_isSmallLetter (some (.int r), σ) 0 [(0, .ref (a 19)), (1, .int x1)] [] σ := by
  unfold qTx_isSmallLetter at h
  refine qx_aload_n (pc := 0) 0 dX6_isSmallLetter_0 rfl ?_
  refine qx_iload_n (pc := 1) 1 dX6_isSmallLetter_1 rfl ?_
  obtain ⟨r1, hr1, h⟩ := qx_bindE h
  refine qx_callVi (pc := 2) 19 r1 σ [.int x1] [] rfl rfl rfl qcm_X6_at qcv_X6_at qwm_X6_19 rfl (Nat.le_of_ble_eq_true rfl) (Nat.le_of_ble_eq_true rfl) (by decide) dX6_isSmallLetter_2 (qTx_at_ok hr1) ?_
  refine qx_bipush (pc := 5) 97 dX6_isSmallLetter_5 (by decide) ?_
  refine qx_icmp_lt (pc := 7) 24 h dX6_isSmallLetter_7 (by decide) (fun h => ?_) (fun h => ?_)
  · refine qx_iconst (pc := 24) 0 dX6_isSmallLetter_24 (by decide) ?_
    exact qx_nret h rfl rfl dX6_isSmallLetter_25
  · refine qx_aload_n (pc := 10) 0 dX6_isSmallLetter_10 rfl ?_
    refine qx_iload_n (pc := 11) 1 dX6_isSmallLetter_11 rfl ?_
    obtain ⟨r2, hr2, h⟩ := qx_bindE h
    refine qx_callVi (pc := 12) 19 r2 σ [.int x1] [] rfl rfl rfl qcm_X6_at qcv_X6_at qwm_X6_19 rfl (Nat.le_of_ble_eq_true rfl) (Nat.le_of_ble_eq_true rfl) (by decide) dX6_isSmallLetter_12 (qTx_at_ok hr2) ?_
    refine qx_bipush (pc := 15) 122 dX6_isSmallLetter_15 (by decide) ?_
    refine qx_icmp_gt (pc := 17) 24 h dX6_isSmallLetter_17 (by decide) (fun h => ?_) (fun h => ?_)
    · refine qx_iconst (pc := 24) 0 dX6_isSmallLetter_24 (by decide) ?_
      exact qx_nret h rfl rfl dX6_isSmallLetter_25
    · refine qx_iconst (pc := 20) 1 dX6_isSmallLetter_20 (by decide) ?_
      refine qx_goto (pc := 21) 25 dX6_isSmallLetter_21 (by decide) ?_
      exact qx_nret h rfl rfl dX6_isSmallLetter_25
set_option maxHeartbeats 4000000 in
set_option maxRecDepth 100000 in
theorem qCm_read_L75_ok : ∀ (n : Nat) (σ : QS) (x3 : Int32) (r : Int32 × QS), qCm_read_L75 n σ x3 = some r → qx_E (qx_gC l D ci a z) 8 mX0_read (some (.int r.1), r.2) 75 [(0, .ref (a 21)), (1, .ref (a 19)), (3, .int x3)] [] σ := by
  intro n
  induction n with
  | zero =>
    intro σ x3 r h
    exact (qx_none h).elim
  | succ n ih =>
    intro σ x3 r h
    unfold qCm_read_L75 at h
    refine qx_iload_n (pc := 75) 2 dX0_read_75 rfl ?_
    refine qt2_get (pc := 76) qwf_X0_39 dX0_read_76 ?_
    refine qx_aload_n (pc := 79) 0 dX0_read_79 rfl ?_
    refine qgC21_0 (pc := 80) qwf_X0_9 dX0_read_80 ?_
    refine qt2_ald (pc := 83) h dX0_read_83 (fun h => ?_)
    refine qx_icmp_ge (pc := 84) 107 h dX0_read_84 (by decide) (fun h => ?_) (fun h => ?_)
    · refine qx_aload_n (pc := 107) 0 dX0_read_107 rfl ?_
      refine qx_aload_n (pc := 108) 1 dX0_read_108 rfl ?_
      obtain ⟨r1, hr1, h⟩ := qx_bindE h
      refine qx_callVv (pc := 109) 21 r1 [.ref (a 19)] [] rfl rfl rfl qcm_X0_skipBlanks qcv_X0_skipBlanks qwm_X0_22 rfl (Nat.le_of_ble_eq_true rfl) (Nat.le_of_ble_eq_true rfl) (by decide) dX0_read_109 (qCm_skipBlanks_ok hr1) ?_
      refine qx_aload_n (pc := 112) 0 dX0_read_112 rfl ?_
      refine qgC21_2 (pc := 113) qwf_X0_19 dX0_read_113 ?_
      refine qx_aload_n (pc := 116) 1 dX0_read_116 rfl ?_
      refine qgC19_0 (pc := 117) qwf_X0_26 dX0_read_117 ?_
      refine qx_icmp_ge (pc := 120) 130 h dX0_read_120 (by decide) (fun h => ?_) (fun h => ?_)
      · refine qx_iconst (pc := 130) (-1) dX0_read_130 (by decide) ?_
        exact qx_iretS h rfl dX0_read_131
      · refine qx_aload_n (pc := 123) 0 dX0_read_123 rfl ?_
        refine qgC21_2 (pc := 124) qwf_X0_19 dX0_read_124 ?_
        refine qx_goto (pc := 127) 131 dX0_read_127 (by decide) ?_
        exact qx_iretS h rfl dX0_read_131
    · refine qx_aload_n (pc := 87) 0 dX0_read_87 rfl ?_
      refine qx_aload_n (pc := 88) 1 dX0_read_88 rfl ?_
      refine qx_iload_n (pc := 89) 2 dX0_read_89 rfl ?_
      obtain ⟨r2, hr2, h⟩ := qx_bindE h
      refine qx_callVi (pc := 90) 21 r2.1 r2.2 [.ref (a 19), .int x3] [] rfl rfl rfl qcm_X0_readNumber qcv_X0_readNumber qwm_X0_42 rfl (Nat.le_of_ble_eq_true rfl) (Nat.le_of_ble_eq_true rfl) (by decide) dX0_read_90 (qCm_readNumber_ok hr2) ?_
      refine qx_if_ne (pc := 93) 101 h dX0_read_93 (by decide) (fun h => ?_) (fun h => ?_)
      · refine qx_iinc (pc := 101) (lv' := [(3, .int (x3 + 1)), (0, .ref (a 21)), (1, .ref (a 19))]) 2 (x3 + 1) dX0_read_101 rfl rfl (Nat.le_of_ble_eq_true rfl) rfl ?_
        refine qx_goto (pc := 104) 75 dX0_read_104 (by decide) ?_
        exact qx_sub [1, 2, 0] rfl (ih _ _ _ h)
      · refine qx_aload_n (pc := 96) 0 dX0_read_96 rfl ?_
        refine qgC21_2 (pc := 97) qwf_X0_19 dX0_read_97 ?_
        exact qx_iretS h rfl dX0_read_100
set_option maxHeartbeats 4000000 in
set_option maxRecDepth 100000 in
theorem qCm_read_J50_ok {σ : QS} {x2 : Int32} {r : Int32 × QS} (h : qCm_read_J50 σ x2 = some r) : qx_E (qx_gC l D ci a z) 8 mX0_read (some (.int r.1), r.2) 50 [(0, .ref (a 21)), (1, .ref (a 19)), (2, .int x2)] [] σ := by
  unfold qCm_read_J50 at h
  refine qx_aload_n (pc := 50) 0 dX0_read_50 rfl ?_
  refine qx_aload_n (pc := 51) 1 dX0_read_51 rfl ?_
  refine qx_iload_n (pc := 52) 2 dX0_read_52 rfl ?_
  refine qx_aload_n (pc := 53) 0 dX0_read_53 rfl ?_
  refine qgC21_2 (pc := 54) qwf_X0_19 dX0_read_54 ?_
  obtain ⟨r3, hr3, h⟩ := qx_bindE h
  refine qx_callSi (pc := 57) r3 σ [.ref (a 19), .int x2, .int (σ.1 21 2)] [.ref (a 21)] rfl qcm_X0_kindOf qcs_X0_kindOf qwm_X0_35 rfl (Nat.le_of_ble_eq_true rfl) (Nat.le_of_ble_eq_true rfl) (by decide) dX0_read_57 (qCm_kindOf_ok hr3) ?_
  refine qpC21_0 (pc := 60) qwf_X0_9 dX0_read_60 ?_
  refine qx_aload_n (pc := 63) 0 dX0_read_63 rfl ?_
  refine qgC21_0 (pc := 64) qwf_X0_9 dX0_read_64 ?_
  refine qx_iconst (pc := 67) (-1) dX0_read_67 (by decide) ?_
  refine qx_icmp_ne (pc := 68) 73 h dX0_read_68 (by decide) (fun h => ?_) (fun h => ?_)
  · refine qx_iconst (pc := 73) 0 dX0_read_73 (by decide) ?_
    refine qx_istore_n (pc := 74) (lv' := [(3, .int 0), (0, .ref (a 21)), (1, .ref (a 19)), (2, .int x2)]) dX0_read_74 (Nat.le_of_ble_eq_true rfl) rfl ?_
    exact qx_sub [1, 2, 0] rfl (qCm_read_L75_ok qx_F _ _ _ h)
  · refine qx_iload_n (pc := 71) 2 dX0_read_71 rfl ?_
    exact qx_iretS h rfl dX0_read_72
set_option maxHeartbeats 4000000 in
set_option maxRecDepth 100000 in
theorem qCm_read_L15_ok {x2 : Int32} : ∀ (n : Nat) (σ : QS) (r : Int32 × QS), qCm_read_L15 x2 n σ = some r → qx_E (qx_gC l D ci a z) 8 mX0_read (some (.int r.1), r.2) 15 [(0, .ref (a 21)), (1, .ref (a 19)), (2, .int x2)] [] σ := by
  intro n
  induction n with
  | zero =>
    intro σ r h
    exact (qx_none h).elim
  | succ n ih =>
    intro σ r h
    unfold qCm_read_L15 at h
    refine qx_aload_n (pc := 15) 0 dX0_read_15 rfl ?_
    refine qgC21_2 (pc := 16) qwf_X0_19 dX0_read_16 ?_
    refine qx_aload_n (pc := 19) 1 dX0_read_19 rfl ?_
    refine qgC19_0 (pc := 20) qwf_X0_26 dX0_read_20 ?_
    refine qx_icmp_ge (pc := 23) 50 h dX0_read_23 (by decide) (fun h => ?_) (fun h => ?_)
    · exact (qCm_read_J50_ok h)
    · refine qx_aload_n (pc := 26) 1 dX0_read_26 rfl ?_
      refine qx_aload_n (pc := 27) 0 dX0_read_27 rfl ?_
      refine qgC21_2 (pc := 28) qwf_X0_19 dX0_read_28 ?_
      obtain ⟨r4, hr4, h⟩ := qx_bindE h
      refine qx_callVi (pc := 31) 19 r4 σ [.int (σ.1 21 2)] [] rfl rfl rfl qcm_X6_isSmallLetter qcv_X6_isSmallLetter qwm_X0_31 rfl (Nat.le_of_ble_eq_true rfl) (Nat.le_of_ble_eq_true rfl) (by decide) dX0_read_31 (qTx_isSmallLetter_ok hr4) ?_
      refine qx_if_eq (pc := 34) 50 h dX0_read_34 (by decide) (fun h => ?_) (fun h => ?_)
      · exact (qCm_read_J50_ok h)
      · refine qx_aload_n (pc := 37) 0 dX0_read_37 rfl ?_
        refine qx_dup (pc := 38) dX0_read_38 rfl ?_
        refine qgC21_2 (pc := 39) qwf_X0_19 dX0_read_39 ?_
        refine qx_iconst (pc := 42) 1 dX0_read_42 (by decide) ?_
        refine qx_iadd (pc := 43) dX0_read_43 ?_
        refine qpC21_2 (pc := 44) qwf_X0_19 dX0_read_44 ?_
        refine qx_goto (pc := 47) 15 dX0_read_47 (by decide) ?_
        exact (ih _ _ h)
set_option maxHeartbeats 4000000 in
set_option maxRecDepth 100000 in
theorem qCm_read_ok {σ : QS} {r : Int32 × QS} (h : qCm_read σ = some r) : qx_E (qx_gC l D ci a z) 8 mX0_read (some (.int r.1), r.2) 0 [(0, .ref (a 21)), (1, .ref (a 19))] [] σ := by
  unfold qCm_read at h
  refine qx_aload_n (pc := 0) 0 dX0_read_0 rfl ?_
  refine qx_iconst (pc := 1) 0 dX0_read_1 (by decide) ?_
  refine qpC21_2 (pc := 2) qwf_X0_19 dX0_read_2 ?_
  refine qx_aload_n (pc := 5) 0 dX0_read_5 rfl ?_
  refine qx_aload_n (pc := 6) 1 dX0_read_6 rfl ?_
  obtain ⟨r5, hr5, h⟩ := qx_bindE h
  refine qx_callVv (pc := 7) 21 r5 [.ref (a 19)] [] rfl rfl rfl qcm_X0_skipBlanks qcv_X0_skipBlanks qwm_X0_22 rfl (Nat.le_of_ble_eq_true rfl) (Nat.le_of_ble_eq_true rfl) (by decide) dX0_read_7 (qCm_skipBlanks_ok hr5) ?_
  refine qx_aload_n (pc := 10) 0 dX0_read_10 rfl ?_
  refine qgC21_2 (pc := 11) qwf_X0_19 dX0_read_11 ?_
  refine qx_istore_n (pc := 14) (lv' := [(2, .int (r5.1 21 2)), (0, .ref (a 21)), (1, .ref (a 19))]) dX0_read_14 (Nat.le_of_ble_eq_true rfl) rfl ?_
  exact qx_sub [1, 2, 0] rfl (qCm_read_L15_ok qx_F _ _ h)
set_option maxHeartbeats 4000000 in
set_option maxRecDepth 100000 in
theorem qLb_sideOf_ok {σ : QS} {x1 : Int32} {r : Int32} (h : qLb_sideOf σ x1 = some r) : qx_E (qx_gC l D ci a z) 1 mX1_sideOf (some (.int r), σ) 0 [(0, .ref (a 11)), (1, .int x1)] [] σ := by
  unfold qLb_sideOf at h
  refine qx_aload_n (pc := 0) 0 dX1_sideOf_0 rfl ?_
  refine qgC11_2 (pc := 1) qwf_X1_19 dX1_sideOf_1 ?_
  refine qx_iload_n (pc := 4) 1 dX1_sideOf_4 rfl ?_
  refine qlC12 (pc := 5) h dX1_sideOf_5 (fun h => ?_)
  exact qx_iret h rfl dX1_sideOf_6
set_option maxHeartbeats 4000000 in
set_option maxRecDepth 100000 in
theorem qLb_put_ok {σ : QS} {x1 : Int32} {x2 : Int32} {r : QS} (h : qLb_put σ x1 x2 = some r) : qx_E (qx_gC l D ci a z) 1 mX1_put (none, r) 0 [(0, .ref (a 11)), (1, .int x1), (2, .int x2)] [] σ := by
  unfold qLb_put at h
  refine qx_aload_n (pc := 0) 0 dX1_put_0 rfl ?_
  refine qgC11_2 (pc := 1) qwf_X1_19 dX1_put_1 ?_
  refine qx_iload_n (pc := 4) 1 dX1_put_4 rfl ?_
  refine qx_iload_n (pc := 5) 2 dX1_put_5 rfl ?_
  refine qsC12 (pc := 6) h dX1_put_6 (fun h => ?_)
  exact qx_vret h rfl dX1_put_7
set_option maxHeartbeats 4000000 in
set_option maxRecDepth 100000 in
theorem qLb_hide_ok {σ : QS} {x1 : Int32} {r : QS} (h : qLb_hide σ x1 = some r) : qx_E (qx_gC l D ci a z) 1 mX1_hide (none, r) 0 [(0, .ref (a 11)), (1, .int x1)] [] σ := by
  unfold qLb_hide at h
  refine qx_aload_n (pc := 0) 0 dX1_hide_0 rfl ?_
  refine qgC11_2 (pc := 1) qwf_X1_19 dX1_hide_1 ?_
  refine qx_iload_n (pc := 4) 1 dX1_hide_4 rfl ?_
  refine qx_iconst (pc := 5) (-1) dX1_hide_5 (by decide) ?_
  refine qsC12 (pc := 6) h dX1_hide_6 (fun h => ?_)
  exact qx_vret h rfl dX1_hide_7
set_option maxHeartbeats 4000000 in
set_option maxRecDepth 100000 in
theorem qLb_isShown_ok {σ : QS} {x1 : Int32} {r : Int32} (h : qLb_isShown σ x1 = some r) : qx_E (qx_gC l D ci a z) 1 mX1_isShown (some (.int r), σ) 0 [(0, .ref (a 11)), (1, .int x1)] [] σ := by
  unfold qLb_isShown at h
  refine qx_aload_n (pc := 0) 0 dX1_isShown_0 rfl ?_
  refine qgC11_2 (pc := 1) qwf_X1_19 dX1_isShown_1 ?_
  refine qx_iload_n (pc := 4) 1 dX1_isShown_4 rfl ?_
  refine qlC12 (pc := 5) h dX1_isShown_5 (fun h => ?_)
  refine qx_iconst (pc := 6) (-1) dX1_isShown_6 (by decide) ?_
  refine qx_icmp_eq (pc := 7) 14 h dX1_isShown_7 (by decide) (fun h => ?_) (fun h => ?_)
  · refine qx_iconst (pc := 14) 0 dX1_isShown_14 (by decide) ?_
    exact qx_nret h rfl rfl dX1_isShown_15
  · refine qx_iconst (pc := 10) 1 dX1_isShown_10 (by decide) ?_
    refine qx_goto (pc := 11) 15 dX1_isShown_11 (by decide) ?_
    exact qx_nret h rfl rfl dX1_isShown_15
set_option maxHeartbeats 4000000 in
set_option maxRecDepth 100000 in
theorem qLb_closeGap_L4_ok : ∀ (n : Nat) (σ : QS) (x2 : Int32) (r : QS), qLb_closeGap_L4 n σ x2 = some r → qx_E (qx_gC l D ci a z) 1 mX1_closeGap (none, r) 4 [(0, .ref (a 11)), (2, .int x2)] [] σ := by
  intro n
  induction n with
  | zero =>
    intro σ x2 r h
    exact (qx_none h).elim
  | succ n ih =>
    intro σ x2 r h
    unfold qLb_closeGap_L4 at h
    refine qx_iload_n (pc := 4) 1 dX1_closeGap_4 rfl ?_
    refine qx_aload_n (pc := 5) 0 dX1_closeGap_5 rfl ?_
    refine qgC11_0 (pc := 6) qwf_X1_9 dX1_closeGap_6 ?_
    refine qgC1_0 (pc := 9) qwf_X1_29 dX1_closeGap_9 ?_
    refine qx_icmp_ge (pc := 12) 35 h dX1_closeGap_12 (by decide) (fun h => ?_) (fun h => ?_)
    · exact qx_vret h rfl dX1_closeGap_35
    · refine qx_aload_n (pc := 15) 0 dX1_closeGap_15 rfl ?_
      refine qgC11_2 (pc := 16) qwf_X1_19 dX1_closeGap_16 ?_
      refine qx_iload_n (pc := 19) 1 dX1_closeGap_19 rfl ?_
      refine qx_iconst (pc := 20) 1 dX1_closeGap_20 (by decide) ?_
      refine qx_isub (pc := 21) dX1_closeGap_21 ?_
      refine qx_aload_n (pc := 22) 0 dX1_closeGap_22 rfl ?_
      refine qgC11_2 (pc := 23) qwf_X1_19 dX1_closeGap_23 ?_
      refine qx_iload_n (pc := 26) 1 dX1_closeGap_26 rfl ?_
      refine qlC12 (pc := 27) h dX1_closeGap_27 (fun h => ?_)
      refine qsC12 (pc := 28) h dX1_closeGap_28 (fun h => ?_)
      refine qx_iinc (pc := 29) (lv' := [(2, .int (x2 + 1)), (0, .ref (a 11))]) 1 (x2 + 1) dX1_closeGap_29 rfl rfl (Nat.le_of_ble_eq_true rfl) rfl ?_
      refine qx_goto (pc := 32) 4 dX1_closeGap_32 (by decide) ?_
      exact qx_sub [1, 0] rfl (ih _ _ _ h)
set_option maxHeartbeats 4000000 in
set_option maxRecDepth 100000 in
theorem qLb_closeGap_ok {σ : QS} {x1 : Int32} {r : QS} (h : qLb_closeGap σ x1 = some r) : qx_E (qx_gC l D ci a z) 1 mX1_closeGap (none, r) 0 [(0, .ref (a 11)), (1, .int x1)] [] σ := by
  unfold qLb_closeGap at h
  refine qx_iload_n (pc := 0) 1 dX1_closeGap_0 rfl ?_
  refine qx_iconst (pc := 1) 1 dX1_closeGap_1 (by decide) ?_
  refine qx_iadd (pc := 2) dX1_closeGap_2 ?_
  refine qx_istore_n (pc := 3) (lv' := [(2, .int (x1 + 1)), (0, .ref (a 11)), (1, .int x1)]) dX1_closeGap_3 (Nat.le_of_ble_eq_true rfl) rfl ?_
  exact qx_sub [1, 0] rfl (qLb_closeGap_L4_ok qx_F _ _ _ h)
set_option maxHeartbeats 4000000 in
set_option maxRecDepth 100000 in
theorem qLb_manyShown_L4_ok {σ : QS} : ∀ (n : Nat) (x1 : Int32) (x2 : Int32) (r : Int32), qLb_manyShown_L4 σ n x1 x2 = some r → qx_E (qx_gC l D ci a z) 2 mX1_manyShown (some (.int r), σ) 4 [(0, .ref (a 11)), (1, .int x1), (2, .int x2)] [] σ := by
  intro n
  induction n with
  | zero =>
    intro x1 x2 r h
    exact (qx_none h).elim
  | succ n ih =>
    intro x1 x2 r h
    unfold qLb_manyShown_L4 at h
    refine qx_iload_n (pc := 4) 2 dX1_manyShown_4 rfl ?_
    refine qx_aload_n (pc := 5) 0 dX1_manyShown_5 rfl ?_
    refine qgC11_0 (pc := 6) qwf_X1_9 dX1_manyShown_6 ?_
    refine qgC1_0 (pc := 9) qwf_X1_29 dX1_manyShown_9 ?_
    refine qx_icmp_ge (pc := 12) 32 h dX1_manyShown_12 (by decide) (fun h => ?_) (fun h => ?_)
    · refine qx_iload_n (pc := 32) 1 dX1_manyShown_32 rfl ?_
      exact qx_iret h rfl dX1_manyShown_33
    · refine qx_aload_n (pc := 15) 0 dX1_manyShown_15 rfl ?_
      refine qx_iload_n (pc := 16) 2 dX1_manyShown_16 rfl ?_
      obtain ⟨r1, hr1, h⟩ := qx_bindE h
      refine qx_callVi (pc := 17) 11 r1 σ [.int x2] [] rfl rfl rfl qcm_X1_isShown qcv_X1_isShown qwm_X1_35 rfl (Nat.le_of_ble_eq_true rfl) (Nat.le_of_ble_eq_true rfl) (by decide) dX1_manyShown_17 (qLb_isShown_ok hr1) ?_
      refine qx_if_eq (pc := 20) 26 h dX1_manyShown_20 (by decide) (fun h => ?_) (fun h => ?_)
      · refine qx_iinc (pc := 26) (lv' := [(2, .int (x2 + 1)), (0, .ref (a 11)), (1, .int x1)]) 2 (x2 + 1) dX1_manyShown_26 rfl rfl (Nat.le_of_ble_eq_true rfl) rfl ?_
        refine qx_goto (pc := 29) 4 dX1_manyShown_29 (by decide) ?_
        exact qx_sub [1, 2, 0] rfl (ih _ _ _ h)
      · refine qx_iinc (pc := 23) (lv' := [(1, .int (x1 + 1)), (0, .ref (a 11)), (2, .int x2)]) 1 (x1 + 1) dX1_manyShown_23 rfl rfl (Nat.le_of_ble_eq_true rfl) rfl ?_
        refine qx_iinc (pc := 26) (lv' := [(2, .int (x2 + 1)), (1, .int (x1 + 1)), (0, .ref (a 11))]) 2 (x2 + 1) dX1_manyShown_26 rfl rfl (Nat.le_of_ble_eq_true rfl) rfl ?_
        refine qx_goto (pc := 29) 4 dX1_manyShown_29 (by decide) ?_
        exact qx_sub [2, 1, 0] rfl (ih _ _ _ h)
set_option maxHeartbeats 4000000 in
set_option maxRecDepth 100000 in
theorem qLb_manyShown_ok {σ : QS} {r : Int32} (h : qLb_manyShown σ = some r) : qx_E (qx_gC l D ci a z) 2 mX1_manyShown (some (.int r), σ) 0 [(0, .ref (a 11))] [] σ := by
  unfold qLb_manyShown at h
  refine qx_iconst (pc := 0) 0 dX1_manyShown_0 (by decide) ?_
  refine qx_istore_n (pc := 1) (lv' := [(1, .int 0), (0, .ref (a 11))]) dX1_manyShown_1 (Nat.le_of_ble_eq_true rfl) rfl ?_
  refine qx_iconst (pc := 2) 0 dX1_manyShown_2 (by decide) ?_
  refine qx_istore_n (pc := 3) (lv' := [(2, .int 0), (1, .int 0), (0, .ref (a 11))]) dX1_manyShown_3 (Nat.le_of_ble_eq_true rfl) rfl ?_
  exact qx_sub [2, 1, 0] rfl (qLb_manyShown_L4_ok qx_F _ _ _ h)
set_option maxHeartbeats 4000000 in
set_option maxRecDepth 100000 in
theorem qPl_isPlace_ok {σ : QS} {x1 : Int32} {x2 : Int32} {r : Int32} (h : qPl_isPlace σ x1 x2 = some r) : qx_E (qx_gC l D ci a z) 1 mX3_isPlace (some (.int r), σ) 0 [(0, .ref (a 5)), (1, .int x1), (2, .int x2)] [] σ := by
  unfold qPl_isPlace at h
  refine qx_aload_n (pc := 0) 0 dX3_isPlace_0 rfl ?_
  refine qgC5_6 (pc := 1) qwf_X3_32 dX3_isPlace_1 ?_
  refine qx_iload_n (pc := 4) 1 dX3_isPlace_4 rfl ?_
  refine qx_bipush (pc := 5) 8 dX3_isPlace_5 (by decide) ?_
  refine qx_imul (pc := 7) dX3_isPlace_7 ?_
  refine qx_iload_n (pc := 8) 2 dX3_isPlace_8 rfl ?_
  refine qx_iadd (pc := 9) dX3_isPlace_9 ?_
  refine qlC10 (pc := 10) h dX3_isPlace_10 (fun h => ?_)
  exact qx_nret h rfl rfl dX3_isPlace_11
set_option maxHeartbeats 4000000 in
set_option maxRecDepth 100000 in
theorem qLb_dropLost_L2_ok : ∀ (n : Nat) (σ : QS) (x1 : Int32) (r : Int32 × QS), qLb_dropLost_L2 n σ x1 = some r → qx_E (qx_gC l D ci a z) 3 mX1_dropLost (some (.int r.1), r.2) 2 [(0, .ref (a 11)), (1, .int x1)] [] σ := by
  intro n
  induction n with
  | zero =>
    intro σ x1 r h
    exact (qx_none h).elim
  | succ n ih =>
    intro σ x1 r h
    unfold qLb_dropLost_L2 at h
    refine qx_iload_n (pc := 2) 1 dX1_dropLost_2 rfl ?_
    refine qx_aload_n (pc := 3) 0 dX1_dropLost_3 rfl ?_
    refine qgC11_0 (pc := 4) qwf_X1_9 dX1_dropLost_4 ?_
    refine qgC1_0 (pc := 7) qwf_X1_29 dX1_dropLost_7 ?_
    refine qx_icmp_ge (pc := 10) 49 h dX1_dropLost_10 (by decide) (fun h => ?_) (fun h => ?_)
    · refine qx_aload_n (pc := 49) 0 dX1_dropLost_49 rfl ?_
      obtain ⟨r1, hr1, h⟩ := qx_bindE h
      refine qx_callVi (pc := 50) 11 r1 σ [] [] rfl rfl rfl qcm_X1_manyShown qcv_X1_manyShown qwm_X1_49 rfl (Nat.le_of_ble_eq_true rfl) (Nat.le_of_ble_eq_true rfl) (by decide) dX1_dropLost_50 (qLb_manyShown_ok hr1) ?_
      exact qx_iretS h rfl dX1_dropLost_53
    · refine qx_aload_n (pc := 13) 0 dX1_dropLost_13 rfl ?_
      refine qx_iload_n (pc := 14) 1 dX1_dropLost_14 rfl ?_
      obtain ⟨r2, hr2, h⟩ := qx_bindE h
      refine qx_callVi (pc := 15) 11 r2 σ [.int x1] [] rfl rfl rfl qcm_X1_isShown qcv_X1_isShown qwm_X1_35 rfl (Nat.le_of_ble_eq_true rfl) (Nat.le_of_ble_eq_true rfl) (by decide) dX1_dropLost_15 (qLb_isShown_ok hr2) ?_
      refine qx_if_eq (pc := 18) 43 h dX1_dropLost_18 (by decide) (fun h => ?_) (fun h => ?_)
      · refine qx_iinc (pc := 43) (lv' := [(1, .int (x1 + 1)), (0, .ref (a 11))]) 1 (x1 + 1) dX1_dropLost_43 rfl rfl (Nat.le_of_ble_eq_true rfl) rfl ?_
        refine qx_goto (pc := 46) 2 dX1_dropLost_46 (by decide) ?_
        exact qx_sub [1, 0] rfl (ih _ _ _ h)
      · refine qx_aload_n (pc := 21) 0 dX1_dropLost_21 rfl ?_
        refine qgC11_1 (pc := 22) qwf_X1_15 dX1_dropLost_22 ?_
        refine qx_iload_n (pc := 25) 1 dX1_dropLost_25 rfl ?_
        refine qx_aload_n (pc := 26) 0 dX1_dropLost_26 rfl ?_
        refine qgC11_2 (pc := 27) qwf_X1_19 dX1_dropLost_27 ?_
        refine qx_iload_n (pc := 30) 1 dX1_dropLost_30 rfl ?_
        refine qlC12 (pc := 31) h dX1_dropLost_31 (fun h => ?_)
        obtain ⟨r3, hr3, h⟩ := qx_bindE h
        refine qx_callVi (pc := 32) 5 r3 σ [.int x1, .int (σ.1 12 x1.toNatClampNeg)] [] rfl rfl rfl qcm_X3_isPlace qcv_X3_isPlace qwm_X1_39 rfl (Nat.le_of_ble_eq_true rfl) (Nat.le_of_ble_eq_true rfl) (by decide) dX1_dropLost_32 (qPl_isPlace_ok hr3) ?_
        refine qx_if_ne (pc := 35) 43 h dX1_dropLost_35 (by decide) (fun h => ?_) (fun h => ?_)
        · refine qx_iinc (pc := 43) (lv' := [(1, .int (x1 + 1)), (0, .ref (a 11))]) 1 (x1 + 1) dX1_dropLost_43 rfl rfl (Nat.le_of_ble_eq_true rfl) rfl ?_
          refine qx_goto (pc := 46) 2 dX1_dropLost_46 (by decide) ?_
          exact qx_sub [1, 0] rfl (ih _ _ _ h)
        · refine qx_aload_n (pc := 38) 0 dX1_dropLost_38 rfl ?_
          refine qx_iload_n (pc := 39) 1 dX1_dropLost_39 rfl ?_
          obtain ⟨r4, hr4, h⟩ := qx_bindE h
          refine qx_callVv (pc := 40) 11 r4 [.int x1] [] rfl rfl rfl qcm_X1_hide qcv_X1_hide qwm_X1_45 rfl (Nat.le_of_ble_eq_true rfl) (Nat.le_of_ble_eq_true rfl) (by decide) dX1_dropLost_40 (qLb_hide_ok hr4) ?_
          refine qx_iinc (pc := 43) (lv' := [(1, .int (x1 + 1)), (0, .ref (a 11))]) 1 (x1 + 1) dX1_dropLost_43 rfl rfl (Nat.le_of_ble_eq_true rfl) rfl ?_
          refine qx_goto (pc := 46) 2 dX1_dropLost_46 (by decide) ?_
          exact qx_sub [1, 0] rfl (ih _ _ _ h)
set_option maxHeartbeats 4000000 in
set_option maxRecDepth 100000 in
theorem qLb_dropLost_ok {σ : QS} {r : Int32 × QS} (h : qLb_dropLost σ = some r) : qx_E (qx_gC l D ci a z) 3 mX1_dropLost (some (.int r.1), r.2) 0 [(0, .ref (a 11))] [] σ := by
  unfold qLb_dropLost at h
  refine qx_iconst (pc := 0) 0 dX1_dropLost_0 (by decide) ?_
  refine qx_istore_n (pc := 1) (lv' := [(1, .int 0), (0, .ref (a 11))]) dX1_dropLost_1 (Nat.le_of_ble_eq_true rfl) rfl ?_
  exact qx_sub [1, 0] rfl (qLb_dropLost_L2_ok qx_F _ _ _ h)
set_option maxHeartbeats 4000000 in
set_option maxRecDepth 100000 in
theorem qPl_doClash_ok {σ : QS} {x1 : Int32} {x2 : Int32} {x3 : Int32} {x4 : Int32} {r : Int32} (h : qPl_doClash σ x1 x2 x3 x4 = some r) : qx_E (qx_gC l D ci a z) 1 mX3_doClash (some (.int r), σ) 0 [(0, .ref (a 5)), (1, .int x1), (2, .int x2), (3, .int x3), (4, .int x4)] [] σ := by
  unfold qPl_doClash at h
  refine qx_iload_n (pc := 0) 1 dX3_doClash_0 rfl ?_
  refine qx_iload_n (pc := 1) 3 dX3_doClash_1 rfl ?_
  refine qx_icmp_eq (pc := 2) 16 h dX3_doClash_2 (by decide) (fun h => ?_) (fun h => ?_)
  · refine qx_iconst (pc := 16) 0 dX3_doClash_16 (by decide) ?_
    exact qx_nret h rfl rfl dX3_doClash_17
  · refine qx_iload_n (pc := 5) 2 dX3_doClash_5 rfl ?_
    refine qx_iconst (pc := 6) (-1) dX3_doClash_6 (by decide) ?_
    refine qx_icmp_eq (pc := 7) 16 h dX3_doClash_7 (by decide) (fun h => ?_) (fun h => ?_)
    · refine qx_iconst (pc := 16) 0 dX3_doClash_16 (by decide) ?_
      exact qx_nret h rfl rfl dX3_doClash_17
    · refine qx_iload (pc := 10) 4 dX3_doClash_10 rfl ?_
      refine qx_iconst (pc := 12) (-1) dX3_doClash_12 (by decide) ?_
      refine qx_icmp_ne (pc := 13) 18 h dX3_doClash_13 (by decide) (fun h => ?_) (fun h => ?_)
      · refine qx_iload_n (pc := 18) 1 dX3_doClash_18 rfl ?_
        refine qx_bipush (pc := 19) 8 dX3_doClash_19 (by decide) ?_
        refine qx_imul (pc := 21) dX3_doClash_21 ?_
        refine qx_iload_n (pc := 22) 2 dX3_doClash_22 rfl ?_
        refine qx_iadd (pc := 23) dX3_doClash_23 ?_
        refine qx_istore (pc := 24) (lv' := [(5, .int ((x1 * 8) + x2)), (0, .ref (a 5)), (1, .int x1), (2, .int x2), (3, .int x3), (4, .int x4)]) dX3_doClash_24 (Nat.le_of_ble_eq_true rfl) rfl ?_
        refine qx_iload_n (pc := 26) 4 dX3_doClash_26 rfl ?_
        refine qx_bipush (pc := 27) 8 dX3_doClash_27 (by decide) ?_
        refine qx_imul (pc := 29) dX3_doClash_29 ?_
        refine qx_iload (pc := 30) 5 dX3_doClash_30 rfl ?_
        refine qx_iadd (pc := 32) dX3_doClash_32 ?_
        refine qx_istore (pc := 33) (lv' := [(6, .int ((x3 * 8) + x4)), (5, .int ((x1 * 8) + x2)), (0, .ref (a 5)), (1, .int x1), (2, .int x2), (3, .int x3), (4, .int x4)]) dX3_doClash_33 (Nat.le_of_ble_eq_true rfl) rfl ?_
        refine qx_aload_n (pc := 35) 2 dX3_doClash_35 rfl ?_
        refine qgC5_6 (pc := 36) qwf_X3_32 dX3_doClash_36 ?_
        refine qx_iload (pc := 39) 1 dX3_doClash_39 rfl ?_
        refine qlC10 (pc := 41) h dX3_doClash_41 (fun h => ?_)
        refine qx_if_eq (pc := 42) 127 h dX3_doClash_42 (by decide) (fun h => ?_) (fun h => ?_)
        · refine qx_iconst (pc := 127) 0 dX3_doClash_127 (by decide) ?_
          exact qx_nret h rfl rfl dX3_doClash_128
        · refine qx_aload_n (pc := 45) 2 dX3_doClash_45 rfl ?_
          refine qgC5_6 (pc := 46) qwf_X3_32 dX3_doClash_46 ?_
          refine qx_iload (pc := 49) 0 dX3_doClash_49 rfl ?_
          refine qlC10 (pc := 51) h dX3_doClash_51 (fun h => ?_)
          refine qx_if_eq (pc := 52) 127 h dX3_doClash_52 (by decide) (fun h => ?_) (fun h => ?_)
          · refine qx_iconst (pc := 127) 0 dX3_doClash_127 (by decide) ?_
            exact qx_nret h rfl rfl dX3_doClash_128
          · refine qx_aload_n (pc := 55) 2 dX3_doClash_55 rfl ?_
            refine qgC5_2 (pc := 56) qwf_X3_19 dX3_doClash_56 ?_
            refine qx_iload (pc := 59) 1 dX3_doClash_59 rfl ?_
            refine qlC6 (pc := 61) h dX3_doClash_61 (fun h => ?_)
            refine qx_aload_n (pc := 62) 2 dX3_doClash_62 rfl ?_
            refine qgC5_4 (pc := 63) qwf_X3_26 dX3_doClash_63 ?_
            refine qx_iload (pc := 66) 0 dX3_doClash_66 rfl ?_
            refine qlC8 (pc := 68) h dX3_doClash_68 (fun h => ?_)
            refine qx_icmp_ge (pc := 69) 127 h dX3_doClash_69 (by decide) (fun h => ?_) (fun h => ?_)
            · refine qx_iconst (pc := 127) 0 dX3_doClash_127 (by decide) ?_
              exact qx_nret h rfl rfl dX3_doClash_128
            · refine qx_aload_n (pc := 72) 2 dX3_doClash_72 rfl ?_
              refine qgC5_2 (pc := 73) qwf_X3_19 dX3_doClash_73 ?_
              refine qx_iload (pc := 76) 0 dX3_doClash_76 rfl ?_
              refine qlC6 (pc := 78) h dX3_doClash_78 (fun h => ?_)
              refine qx_aload_n (pc := 79) 2 dX3_doClash_79 rfl ?_
              refine qgC5_4 (pc := 80) qwf_X3_26 dX3_doClash_80 ?_
              refine qx_iload (pc := 83) 1 dX3_doClash_83 rfl ?_
              refine qlC8 (pc := 85) h dX3_doClash_85 (fun h => ?_)
              refine qx_icmp_ge (pc := 86) 127 h dX3_doClash_86 (by decide) (fun h => ?_) (fun h => ?_)
              · refine qx_iconst (pc := 127) 0 dX3_doClash_127 (by decide) ?_
                exact qx_nret h rfl rfl dX3_doClash_128
              · refine qx_aload_n (pc := 89) 2 dX3_doClash_89 rfl ?_
                refine qgC5_3 (pc := 90) qwf_X3_23 dX3_doClash_90 ?_
                refine qx_iload (pc := 93) 1 dX3_doClash_93 rfl ?_
                refine qlC7 (pc := 95) h dX3_doClash_95 (fun h => ?_)
                refine qx_aload_n (pc := 96) 2 dX3_doClash_96 rfl ?_
                refine qgC5_5 (pc := 97) qwf_X3_29 dX3_doClash_97 ?_
                refine qx_iload (pc := 100) 0 dX3_doClash_100 rfl ?_
                refine qlC9 (pc := 102) h dX3_doClash_102 (fun h => ?_)
                refine qx_icmp_ge (pc := 103) 127 h dX3_doClash_103 (by decide) (fun h => ?_) (fun h => ?_)
                · refine qx_iconst (pc := 127) 0 dX3_doClash_127 (by decide) ?_
                  exact qx_nret h rfl rfl dX3_doClash_128
                · refine qx_aload_n (pc := 106) 2 dX3_doClash_106 rfl ?_
                  refine qgC5_3 (pc := 107) qwf_X3_23 dX3_doClash_107 ?_
                  refine qx_iload (pc := 110) 0 dX3_doClash_110 rfl ?_
                  refine qlC7 (pc := 112) h dX3_doClash_112 (fun h => ?_)
                  refine qx_aload_n (pc := 113) 2 dX3_doClash_113 rfl ?_
                  refine qgC5_5 (pc := 114) qwf_X3_29 dX3_doClash_114 ?_
                  refine qx_iload (pc := 117) 1 dX3_doClash_117 rfl ?_
                  refine qlC9 (pc := 119) h dX3_doClash_119 (fun h => ?_)
                  refine qx_icmp_ge (pc := 120) 127 h dX3_doClash_120 (by decide) (fun h => ?_) (fun h => ?_)
                  · refine qx_iconst (pc := 127) 0 dX3_doClash_127 (by decide) ?_
                    exact qx_nret h rfl rfl dX3_doClash_128
                  · refine qx_iconst (pc := 123) 1 dX3_doClash_123 (by decide) ?_
                    refine qx_goto (pc := 124) 128 dX3_doClash_124 (by decide) ?_
                    exact qx_nret h rfl rfl dX3_doClash_128
      · refine qx_iconst (pc := 16) 0 dX3_doClash_16 (by decide) ?_
        exact qx_nret h rfl rfl dX3_doClash_17
set_option maxHeartbeats 4000000 in
set_option maxRecDepth 100000 in
theorem qLb_clashing_L5_ok {σ : QS} {x1 : Int32} {x2 : Int32} : ∀ (n : Nat) (x3 : Int32) (x4 : Int32) (r : Int32), qLb_clashing_L5 σ x1 x2 n x3 x4 = some r → qx_E (qx_gC l D ci a z) 2 mX1_clashing (some (.int r), σ) 5 [(0, .ref (a 11)), (1, .int x1), (2, .int x2), (3, .int x3), (4, .int x4)] [] σ := by
  intro n
  induction n with
  | zero =>
    intro x3 x4 r h
    exact (qx_none h).elim
  | succ n ih =>
    intro x3 x4 r h
    unfold qLb_clashing_L5 at h
    refine qx_iload (pc := 5) 4 dX1_clashing_5 rfl ?_
    refine qx_aload_n (pc := 7) 0 dX1_clashing_7 rfl ?_
    refine qgC11_0 (pc := 8) qwf_X1_9 dX1_clashing_8 ?_
    refine qgC1_0 (pc := 11) qwf_X1_29 dX1_clashing_11 ?_
    refine qx_icmp_ge (pc := 14) 47 h dX1_clashing_14 (by decide) (fun h => ?_) (fun h => ?_)
    · refine qx_iload_n (pc := 47) 3 dX1_clashing_47 rfl ?_
      exact qx_iret h rfl dX1_clashing_48
    · refine qx_aload_n (pc := 17) 0 dX1_clashing_17 rfl ?_
      refine qgC11_1 (pc := 18) qwf_X1_15 dX1_clashing_18 ?_
      refine qx_iload_n (pc := 21) 1 dX1_clashing_21 rfl ?_
      refine qx_iload_n (pc := 22) 2 dX1_clashing_22 rfl ?_
      refine qx_iload (pc := 23) 4 dX1_clashing_23 rfl ?_
      refine qx_aload_n (pc := 25) 0 dX1_clashing_25 rfl ?_
      refine qgC11_2 (pc := 26) qwf_X1_19 dX1_clashing_26 ?_
      refine qx_iload (pc := 29) 4 dX1_clashing_29 rfl ?_
      refine qlC12 (pc := 31) h dX1_clashing_31 (fun h => ?_)
      obtain ⟨r1, hr1, h⟩ := qx_bindE h
      refine qx_callVi (pc := 32) 5 r1 σ [.int x1, .int x2, .int x4, .int (σ.1 12 x4.toNatClampNeg)] [] rfl rfl rfl qcm_X3_doClash qcv_X3_doClash qwm_X1_67 rfl (Nat.le_of_ble_eq_true rfl) (Nat.le_of_ble_eq_true rfl) (by decide) dX1_clashing_32 (qPl_doClash_ok hr1) ?_
      refine qx_if_eq (pc := 35) 41 h dX1_clashing_35 (by decide) (fun h => ?_) (fun h => ?_)
      · refine qx_iinc (pc := 41) (lv' := [(4, .int (x4 + 1)), (0, .ref (a 11)), (1, .int x1), (2, .int x2), (3, .int x3)]) 4 (x4 + 1) dX1_clashing_41 rfl rfl (Nat.le_of_ble_eq_true rfl) rfl ?_
        refine qx_goto (pc := 44) 5 dX1_clashing_44 (by decide) ?_
        exact qx_sub [1, 2, 3, 4, 0] rfl (ih _ _ _ h)
      · refine qx_iinc (pc := 38) (lv' := [(3, .int (x3 + 1)), (0, .ref (a 11)), (1, .int x1), (2, .int x2), (4, .int x4)]) 3 (x3 + 1) dX1_clashing_38 rfl rfl (Nat.le_of_ble_eq_true rfl) rfl ?_
        refine qx_iinc (pc := 41) (lv' := [(4, .int (x4 + 1)), (3, .int (x3 + 1)), (0, .ref (a 11)), (1, .int x1), (2, .int x2)]) 4 (x4 + 1) dX1_clashing_41 rfl rfl (Nat.le_of_ble_eq_true rfl) rfl ?_
        refine qx_goto (pc := 44) 5 dX1_clashing_44 (by decide) ?_
        exact qx_sub [2, 3, 4, 1, 0] rfl (ih _ _ _ h)
set_option maxHeartbeats 4000000 in
set_option maxRecDepth 100000 in
theorem qLb_clashing_ok {σ : QS} {x1 : Int32} {x2 : Int32} {r : Int32} (h : qLb_clashing σ x1 x2 = some r) : qx_E (qx_gC l D ci a z) 2 mX1_clashing (some (.int r), σ) 0 [(0, .ref (a 11)), (1, .int x1), (2, .int x2)] [] σ := by
  unfold qLb_clashing at h
  refine qx_iconst (pc := 0) 0 dX1_clashing_0 (by decide) ?_
  refine qx_istore_n (pc := 1) (lv' := [(3, .int 0), (0, .ref (a 11)), (1, .int x1), (2, .int x2)]) dX1_clashing_1 (Nat.le_of_ble_eq_true rfl) rfl ?_
  refine qx_iconst (pc := 2) 0 dX1_clashing_2 (by decide) ?_
  refine qx_istore (pc := 3) (lv' := [(4, .int 0), (3, .int 0), (0, .ref (a 11)), (1, .int x1), (2, .int x2)]) dX1_clashing_3 (Nat.le_of_ble_eq_true rfl) rfl ?_
  exact qx_sub [2, 3, 4, 1, 0] rfl (qLb_clashing_L5_ok qx_F _ _ _ h)
set_option maxHeartbeats 4000000 in
set_option maxRecDepth 100000 in
theorem qLb_hideIfClashing_ok {σ : QS} {x1 : Int32} {r : QS} (h : qLb_hideIfClashing σ x1 = some r) : qx_E (qx_gC l D ci a z) 3 mX1_hideIfClashing (none, r) 0 [(0, .ref (a 11)), (1, .int x1)] [] σ := by
  unfold qLb_hideIfClashing at h
  refine qx_aload_n (pc := 0) 0 dX1_hideIfClashing_0 rfl ?_
  refine qx_iload_n (pc := 1) 1 dX1_hideIfClashing_1 rfl ?_
  obtain ⟨r1, hr1, h⟩ := qx_bindE h
  refine qx_callVi (pc := 2) 11 r1 σ [.int x1] [] rfl rfl rfl qcm_X1_isShown qcv_X1_isShown qwm_X1_35 rfl (Nat.le_of_ble_eq_true rfl) (Nat.le_of_ble_eq_true rfl) (by decide) dX1_hideIfClashing_2 (qLb_isShown_ok hr1) ?_
  refine qx_if_eq (pc := 5) 27 h dX1_hideIfClashing_5 (by decide) (fun h => ?_) (fun h => ?_)
  · exact qx_vret h rfl dX1_hideIfClashing_27
  · refine qx_aload_n (pc := 8) 0 dX1_hideIfClashing_8 rfl ?_
    refine qx_iload_n (pc := 9) 1 dX1_hideIfClashing_9 rfl ?_
    refine qx_aload_n (pc := 10) 0 dX1_hideIfClashing_10 rfl ?_
    refine qgC11_2 (pc := 11) qwf_X1_19 dX1_hideIfClashing_11 ?_
    refine qx_iload_n (pc := 14) 1 dX1_hideIfClashing_14 rfl ?_
    refine qlC12 (pc := 15) h dX1_hideIfClashing_15 (fun h => ?_)
    obtain ⟨r2, hr2, h⟩ := qx_bindE h
    refine qx_callVi (pc := 16) 11 r2 σ [.int x1, .int (σ.1 12 x1.toNatClampNeg)] [] rfl rfl rfl qcm_X1_clashing qcv_X1_clashing qwm_X1_53 rfl (Nat.le_of_ble_eq_true rfl) (Nat.le_of_ble_eq_true rfl) (by decide) dX1_hideIfClashing_16 (qLb_clashing_ok hr2) ?_
    refine qx_if_le (pc := 19) 27 h dX1_hideIfClashing_19 (by decide) (fun h => ?_) (fun h => ?_)
    · exact qx_vret h rfl dX1_hideIfClashing_27
    · refine qx_aload_n (pc := 22) 0 dX1_hideIfClashing_22 rfl ?_
      refine qx_iload_n (pc := 23) 1 dX1_hideIfClashing_23 rfl ?_
      obtain ⟨r3, hr3, h⟩ := qx_bindE h
      refine qx_callVv (pc := 24) 11 r3 [.int x1] [] rfl rfl rfl qcm_X1_hide qcv_X1_hide qwm_X1_45 rfl (Nat.le_of_ble_eq_true rfl) (Nat.le_of_ble_eq_true rfl) (by decide) dX1_hideIfClashing_24 (qLb_hide_ok hr3) ?_
      exact qx_vret h rfl dX1_hideIfClashing_27
set_option maxHeartbeats 4000000 in
set_option maxRecDepth 100000 in
theorem qJ_fill_L5_ok {x1 : Int32} {x3 : Int32} : ∀ (n : Nat) (σ : QS) (x2 : Int32) (r : QS), qJ_fill_L5 x1 x3 n σ x2 = some r → qx_E (qx_gC l D ci a z) 1 mJ7_fill_53178 (none, r) 5 [(0, .ref (a 12)), (1, .int x1), (2, .int x2), (3, .int x3)] [] σ := by
  intro n
  induction n with
  | zero =>
    intro σ x2 r h
    exact (qx_none h).elim
  | succ n ih =>
    intro σ x2 r h
    unfold qJ_fill_L5 at h
    refine qx_iload_n (pc := 5) 2 dJ7_fill_53178_5 rfl ?_
    refine qx_iload_n (pc := 6) 3 dJ7_fill_53178_6 rfl ?_
    refine qx_icmp_ge (pc := 7) 20 h dJ7_fill_53178_7 (by decide) (fun h => ?_) (fun h => ?_)
    · exact qx_vret h rfl dJ7_fill_53178_20
    · refine qx_aload_n (pc := 10) 0 dJ7_fill_53178_10 rfl ?_
      refine qx_iload_n (pc := 11) 2 dJ7_fill_53178_11 rfl ?_
      refine qx_iload_n (pc := 12) 1 dJ7_fill_53178_12 rfl ?_
      refine qsC12 (pc := 13) h dJ7_fill_53178_13 (fun h => ?_)
      refine qx_iinc (pc := 14) (lv' := [(2, .int (x2 + 1)), (0, .ref (a 12)), (1, .int x1), (3, .int x3)]) 2 (x2 + 1) dJ7_fill_53178_14 rfl rfl (Nat.le_of_ble_eq_true rfl) rfl ?_
      refine qx_goto (pc := 17) 5 dJ7_fill_53178_17 (by decide) ?_
      exact qx_sub [1, 2, 0, 3] rfl (ih _ _ _ h)
set_option maxHeartbeats 4000000 in
set_option maxRecDepth 100000 in
theorem qJ_fill_ok {σ : QS} {x1 : Int32} {r : QS} (h : qJ_fill σ x1 = some r) : qx_E (qx_gC l D ci a z) 1 mJ7_fill_53178 (none, r) 0 [(0, .ref (a 12)), (1, .int x1)] [] σ := by
  unfold qJ_fill at h
  refine qx_iconst (pc := 0) 0 dJ7_fill_53178_0 (by decide) ?_
  refine qx_istore_n (pc := 1) (lv' := [(2, .int 0), (0, .ref (a 12)), (1, .int x1)]) dJ7_fill_53178_1 (Nat.le_of_ble_eq_true rfl) rfl ?_
  refine qx_aload_n (pc := 2) 1 dJ7_fill_53178_2 rfl ?_
  refine qx_alen (pc := 3) 12 0 20 rfl rfl rfl dJ7_fill_53178_3 ?_
  refine qx_istore_n (pc := 4) (lv' := [(3, .int 20), (2, .int 0), (0, .ref (a 12)), (1, .int x1)]) dJ7_fill_53178_4 (Nat.le_of_ble_eq_true rfl) rfl ?_
  exact qx_sub [2, 3, 1, 0] rfl (qJ_fill_L5_ok qx_F _ _ _ h)
set_option maxHeartbeats 4000000 in
set_option maxRecDepth 100000 in
theorem qLb_hideEach_ok {σ : QS} {r : Int32 × QS} (h : qLb_hideEach σ = some r) : qx_E (qx_gC l D ci a z) 3 mX1_hideEach (some (.int r.1), r.2) 0 [(0, .ref (a 11))] [] σ := by
  unfold qLb_hideEach at h
  refine qx_aload_n (pc := 0) 0 dX1_hideEach_0 rfl ?_
  obtain ⟨r1, hr1, h⟩ := qx_bindE h
  refine qx_callVi (pc := 1) 11 r1 σ [] [] rfl rfl rfl qcm_X1_manyShown qcv_X1_manyShown qwm_X1_49 rfl (Nat.le_of_ble_eq_true rfl) (Nat.le_of_ble_eq_true rfl) (by decide) dX1_hideEach_1 (qLb_manyShown_ok hr1) ?_
  refine qx_istore_n (pc := 4) (lv' := [(1, .int r1), (0, .ref (a 11))]) dX1_hideEach_4 (Nat.le_of_ble_eq_true rfl) rfl ?_
  refine qx_aload_n (pc := 5) 1 dX1_hideEach_5 rfl ?_
  refine qgC11_2 (pc := 6) qwf_X1_19 dX1_hideEach_6 ?_
  refine qx_iconst (pc := 9) (-1) dX1_hideEach_9 (by decide) ?_
  obtain ⟨r2, hr2, h⟩ := qx_bindE h
  refine qx_callSv (pc := 10) r2 [.ref (a 12), .int (-1)] [] rfl qcm_J7_fill_53178 qcs_J7_fill_53178 qwm_X1_23 rfl (Nat.le_of_ble_eq_true rfl) (Nat.le_of_ble_eq_true rfl) (by decide) dX1_hideEach_10 (qJ_fill_ok hr2) ?_
  refine qx_iload_n (pc := 13) 0 dX1_hideEach_13 rfl ?_
  exact qx_iretS h rfl dX1_hideEach_14
set_option maxHeartbeats 4000000 in
set_option maxRecDepth 100000 in
theorem qPt_get_ok {σ : QS} {x1 : Int32} {x2 : Int32} {r : Int32} (h : qPt_get σ x1 x2 = some r) : qx_E (qx_gC l D ci a z) 1 mX4_get (some (.int r), σ) 0 [(0, .ref (a 1)), (1, .int x1), (2, .int x2)] [] σ := by
  unfold qPt_get at h
  refine qx_aload_n (pc := 0) 0 dX4_get_0 rfl ?_
  refine qgC1_1 (pc := 1) qwf_X4_15 dX4_get_1 ?_
  refine qx_iload_n (pc := 4) 1 dX4_get_4 rfl ?_
  refine qx_bipush (pc := 5) 6 dX4_get_5 (by decide) ?_
  refine qx_imul (pc := 7) dX4_get_7 ?_
  refine qx_iload_n (pc := 8) 2 dX4_get_8 rfl ?_
  refine qx_iadd (pc := 9) dX4_get_9 ?_
  refine qlC2 (pc := 10) h dX4_get_10 (fun h => ?_)
  exact qx_iret h rfl dX4_get_11
set_option maxHeartbeats 4000000 in
set_option maxRecDepth 100000 in
theorem qLb_sumShown_L4_ok {σ : QS} : ∀ (n : Nat) (x1 : Int32) (x2 : Int32) (r : Int32), qLb_sumShown_L4 σ n x1 x2 = some r → qx_E (qx_gC l D ci a z) 2 mX1_sumShown (some (.int r), σ) 4 [(0, .ref (a 11)), (1, .int x1), (2, .int x2)] [] σ := by
  intro n
  induction n with
  | zero =>
    intro x1 x2 r h
    exact (qx_none h).elim
  | succ n ih =>
    intro x1 x2 r h
    unfold qLb_sumShown_L4 at h
    refine qx_iload_n (pc := 4) 2 dX1_sumShown_4 rfl ?_
    refine qx_aload_n (pc := 5) 0 dX1_sumShown_5 rfl ?_
    refine qgC11_0 (pc := 6) qwf_X1_9 dX1_sumShown_6 ?_
    refine qgC1_0 (pc := 9) qwf_X1_29 dX1_sumShown_9 ?_
    refine qx_icmp_ge (pc := 12) 41 h dX1_sumShown_12 (by decide) (fun h => ?_) (fun h => ?_)
    · refine qx_iload_n (pc := 41) 1 dX1_sumShown_41 rfl ?_
      exact qx_iret h rfl dX1_sumShown_42
    · refine qx_aload_n (pc := 15) 0 dX1_sumShown_15 rfl ?_
      refine qx_iload_n (pc := 16) 2 dX1_sumShown_16 rfl ?_
      obtain ⟨r1, hr1, h⟩ := qx_bindE h
      refine qx_callVi (pc := 17) 11 r1 σ [.int x2] [] rfl rfl rfl qcm_X1_isShown qcv_X1_isShown qwm_X1_35 rfl (Nat.le_of_ble_eq_true rfl) (Nat.le_of_ble_eq_true rfl) (by decide) dX1_sumShown_17 (qLb_isShown_ok hr1) ?_
      refine qx_if_eq (pc := 20) 35 h dX1_sumShown_20 (by decide) (fun h => ?_) (fun h => ?_)
      · refine qx_iinc (pc := 35) (lv' := [(2, .int (x2 + 1)), (0, .ref (a 11)), (1, .int x1)]) 2 (x2 + 1) dX1_sumShown_35 rfl rfl (Nat.le_of_ble_eq_true rfl) rfl ?_
        refine qx_goto (pc := 38) 4 dX1_sumShown_38 (by decide) ?_
        exact qx_sub [1, 2, 0] rfl (ih _ _ _ h)
      · refine qx_iload_n (pc := 23) 1 dX1_sumShown_23 rfl ?_
        refine qx_aload_n (pc := 24) 0 dX1_sumShown_24 rfl ?_
        refine qgC11_0 (pc := 25) qwf_X1_9 dX1_sumShown_25 ?_
        refine qx_iload_n (pc := 28) 2 dX1_sumShown_28 rfl ?_
        refine qx_iconst (pc := 29) 4 dX1_sumShown_29 (by decide) ?_
        obtain ⟨r2, hr2, h⟩ := qx_bindE h
        refine qx_callVi (pc := 30) 1 r2 σ [.int x2, .int 4] [.int x1] rfl rfl rfl qcm_X4_get qcv_X4_get qwm_X1_57 rfl (Nat.le_of_ble_eq_true rfl) (Nat.le_of_ble_eq_true rfl) (by decide) dX1_sumShown_30 (qPt_get_ok hr2) ?_
        refine qx_iadd (pc := 33) dX1_sumShown_33 ?_
        refine qx_istore_n (pc := 34) (lv' := [(1, .int (x1 + r2)), (0, .ref (a 11)), (2, .int x2)]) dX1_sumShown_34 (Nat.le_of_ble_eq_true rfl) rfl ?_
        refine qx_iinc (pc := 35) (lv' := [(2, .int (x2 + 1)), (1, .int (x1 + r2)), (0, .ref (a 11))]) 2 (x2 + 1) dX1_sumShown_35 rfl rfl (Nat.le_of_ble_eq_true rfl) rfl ?_
        refine qx_goto (pc := 38) 4 dX1_sumShown_38 (by decide) ?_
        exact qx_sub [2, 1, 0] rfl (ih _ _ _ h)
set_option maxHeartbeats 4000000 in
set_option maxRecDepth 100000 in
theorem qLb_sumShown_ok {σ : QS} {r : Int32} (h : qLb_sumShown σ = some r) : qx_E (qx_gC l D ci a z) 2 mX1_sumShown (some (.int r), σ) 0 [(0, .ref (a 11))] [] σ := by
  unfold qLb_sumShown at h
  refine qx_iconst (pc := 0) 0 dX1_sumShown_0 (by decide) ?_
  refine qx_istore_n (pc := 1) (lv' := [(1, .int 0), (0, .ref (a 11))]) dX1_sumShown_1 (Nat.le_of_ble_eq_true rfl) rfl ?_
  refine qx_iconst (pc := 2) 0 dX1_sumShown_2 (by decide) ?_
  refine qx_istore_n (pc := 3) (lv' := [(2, .int 0), (1, .int 0), (0, .ref (a 11))]) dX1_sumShown_3 (Nat.le_of_ble_eq_true rfl) rfl ?_
  exact qx_sub [2, 1, 0] rfl (qLb_sumShown_L4_ok qx_F _ _ _ h)
set_option maxHeartbeats 4000000 in
set_option maxRecDepth 100000 in
theorem qPl_covers_ok {σ : QS} {x1 : Int32} {x2 : Int32} {x3 : Int32} {x4 : Int32} {r : Int32} (h : qPl_covers σ x1 x2 x3 x4 = some r) : qx_E (qx_gC l D ci a z) 1 mX3_covers (some (.int r), σ) 0 [(0, .ref (a 5)), (1, .int x1), (2, .int x2), (3, .int x3), (4, .int x4)] [] σ := by
  unfold qPl_covers at h
  refine qx_iload_n (pc := 0) 1 dX3_covers_0 rfl ?_
  refine qx_bipush (pc := 1) 8 dX3_covers_1 (by decide) ?_
  refine qx_imul (pc := 3) dX3_covers_3 ?_
  refine qx_iload_n (pc := 4) 2 dX3_covers_4 rfl ?_
  refine qx_iadd (pc := 5) dX3_covers_5 ?_
  refine qx_istore (pc := 6) (lv' := [(5, .int ((x1 * 8) + x2)), (0, .ref (a 5)), (1, .int x1), (2, .int x2), (3, .int x3), (4, .int x4)]) dX3_covers_6 (Nat.le_of_ble_eq_true rfl) rfl ?_
  refine qx_iload_n (pc := 8) 4 dX3_covers_8 rfl ?_
  refine qx_aload_n (pc := 9) 1 dX3_covers_9 rfl ?_
  refine qgC5_2 (pc := 10) qwf_X3_19 dX3_covers_10 ?_
  refine qx_iload (pc := 13) 0 dX3_covers_13 rfl ?_
  refine qlC6 (pc := 15) h dX3_covers_15 (fun h => ?_)
  refine qx_icmp_lt (pc := 16) 58 h dX3_covers_16 (by decide) (fun h => ?_) (fun h => ?_)
  · refine qx_iconst (pc := 58) 0 dX3_covers_58 (by decide) ?_
    exact qx_nret h rfl rfl dX3_covers_59
  · refine qx_iload_n (pc := 19) 4 dX3_covers_19 rfl ?_
    refine qx_aload_n (pc := 20) 1 dX3_covers_20 rfl ?_
    refine qgC5_4 (pc := 21) qwf_X3_26 dX3_covers_21 ?_
    refine qx_iload (pc := 24) 0 dX3_covers_24 rfl ?_
    refine qlC8 (pc := 26) h dX3_covers_26 (fun h => ?_)
    refine qx_icmp_ge (pc := 27) 58 h dX3_covers_27 (by decide) (fun h => ?_) (fun h => ?_)
    · refine qx_iconst (pc := 58) 0 dX3_covers_58 (by decide) ?_
      exact qx_nret h rfl rfl dX3_covers_59
    · refine qx_iload (pc := 30) 5 dX3_covers_30 rfl ?_
      refine qx_aload_n (pc := 32) 1 dX3_covers_32 rfl ?_
      refine qgC5_3 (pc := 33) qwf_X3_23 dX3_covers_33 ?_
      refine qx_iload (pc := 36) 0 dX3_covers_36 rfl ?_
      refine qlC7 (pc := 38) h dX3_covers_38 (fun h => ?_)
      refine qx_icmp_lt (pc := 39) 58 h dX3_covers_39 (by decide) (fun h => ?_) (fun h => ?_)
      · refine qx_iconst (pc := 58) 0 dX3_covers_58 (by decide) ?_
        exact qx_nret h rfl rfl dX3_covers_59
      · refine qx_iload (pc := 42) 5 dX3_covers_42 rfl ?_
        refine qx_aload_n (pc := 44) 1 dX3_covers_44 rfl ?_
        refine qgC5_5 (pc := 45) qwf_X3_29 dX3_covers_45 ?_
        refine qx_iload (pc := 48) 0 dX3_covers_48 rfl ?_
        refine qlC9 (pc := 50) h dX3_covers_50 (fun h => ?_)
        refine qx_icmp_ge (pc := 51) 58 h dX3_covers_51 (by decide) (fun h => ?_) (fun h => ?_)
        · refine qx_iconst (pc := 58) 0 dX3_covers_58 (by decide) ?_
          exact qx_nret h rfl rfl dX3_covers_59
        · refine qx_iconst (pc := 54) 1 dX3_covers_54 (by decide) ?_
          refine qx_goto (pc := 55) 59 dX3_covers_55 (by decide) ?_
          exact qx_nret h rfl rfl dX3_covers_59
end
