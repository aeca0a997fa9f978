section
variable {l : Launch} {D : va_G} {ci : Nat → ClassId} {a z : Nat → Nat}
theorem dX9_command_0 : decode cX9_command 0 = .ok (.aload_n 0, 1) := by decide +kernel
theorem dX9_command_1 : decode cX9_command 1 = .ok (.bipush 112, 2) := by decide +kernel
theorem dX9_command_3 : decode cX9_command 3 = .ok (.bipush 111, 2) := by decide +kernel
theorem dX9_command_5 : decode cX9_command 5 = .ok (.bipush 105, 2) := by decide +kernel
theorem dX9_command_7 : decode cX9_command 7 = .ok (.bipush 110, 2) := by decide +kernel
theorem dX9_command_9 : decode cX9_command 9 = .ok (.bipush 116, 2) := by decide +kernel
theorem dX9_command_11 : decode cX9_command 11 = .ok (.iconst 0, 1) := by decide +kernel
theorem dX9_command_12 : decode cX9_command 12 = .ok (.iconst 0, 1) := by decide +kernel
theorem dX9_command_13 : decode cX9_command 13 = .ok (.invokevirtual 208, 3) := by decide +kernel
theorem dX9_command_16 : decode cX9_command 16 = .ok (.ifCond .eq 7, 3) := by decide +kernel
theorem dX9_command_19 : decode cX9_command 19 = .ok (.iconst 0, 1) := by decide +kernel
theorem dX9_command_20 : decode cX9_command 20 = .ok (.goto 28, 3) := by decide +kernel
theorem dX9_command_23 : decode cX9_command 23 = .ok (.aload_n 0, 1) := by decide +kernel
theorem dX9_command_24 : decode cX9_command 24 = .ok (.bipush 119, 2) := by decide +kernel
theorem dX9_command_26 : decode cX9_command 26 = .ok (.bipush 105, 2) := by decide +kernel
theorem dX9_command_28 : decode cX9_command 28 = .ok (.bipush 110, 2) := by decide +kernel
theorem dX9_command_30 : decode cX9_command 30 = .ok (.bipush 100, 2) := by decide +kernel
theorem dX9_command_32 : decode cX9_command 32 = .ok (.bipush 111, 2) := by decide +kernel
theorem dX9_command_34 : decode cX9_command 34 = .ok (.bipush 119, 2) := by decide +kernel
theorem dX9_command_36 : decode cX9_command 36 = .ok (.iconst 0, 1) := by decide +kernel
theorem dX9_command_37 : decode cX9_command 37 = .ok (.invokevirtual 208, 3) := by decide +kernel
theorem dX9_command_40 : decode cX9_command 40 = .ok (.ifCond .eq 7, 3) := by decide +kernel
theorem dX9_command_43 : decode cX9_command 43 = .ok (.iconst 1, 1) := by decide +kernel
theorem dX9_command_44 : decode cX9_command 44 = .ok (.goto 4, 3) := by decide +kernel
theorem dX9_command_47 : decode cX9_command 47 = .ok (.iconst (-1), 1) := by decide +kernel
theorem dX9_command_48 : decode cX9_command 48 = .ok (.istore_n 1, 1) := by decide +kernel
theorem dX9_command_49 : decode cX9_command 49 = .ok (.aload_n 0, 1) := by decide +kernel
theorem dX9_command_50 : decode cX9_command 50 = .ok (.bipush 112, 2) := by decide +kernel
theorem dX9_command_52 : decode cX9_command 52 = .ok (.bipush 97, 2) := by decide +kernel
theorem dX9_command_54 : decode cX9_command 54 = .ok (.bipush 110, 2) := by decide +kernel
theorem dX9_command_56 : decode cX9_command 56 = .ok (.iconst 0, 1) := by decide +kernel
theorem dX9_command_57 : decode cX9_command 57 = .ok (.iconst 0, 1) := by decide +kernel
theorem dX9_command_58 : decode cX9_command 58 = .ok (.iconst 0, 1) := by decide +kernel
theorem dX9_command_59 : decode cX9_command 59 = .ok (.iconst 0, 1) := by decide +kernel
theorem dX9_command_60 : decode cX9_command 60 = .ok (.invokevirtual 208, 3) := by decide +kernel
theorem dX9_command_63 : decode cX9_command 63 = .ok (.ifCond .eq 7, 3) := by decide +kernel
theorem dX9_command_66 : decode cX9_command 66 = .ok (.iconst 2, 1) := by decide +kernel
theorem dX9_command_67 : decode cX9_command 67 = .ok (.goto 27, 3) := by decide +kernel
theorem dX9_command_70 : decode cX9_command 70 = .ok (.aload_n 0, 1) := by decide +kernel
theorem dX9_command_71 : decode cX9_command 71 = .ok (.bipush 108, 2) := by decide +kernel
theorem dX9_command_73 : decode cX9_command 73 = .ok (.bipush 97, 2) := by decide +kernel
theorem dX9_command_75 : decode cX9_command 75 = .ok (.bipush 98, 2) := by decide +kernel
theorem dX9_command_77 : decode cX9_command 77 = .ok (.bipush 101, 2) := by decide +kernel
theorem dX9_command_79 : decode cX9_command 79 = .ok (.bipush 108, 2) := by decide +kernel
theorem dX9_command_81 : decode cX9_command 81 = .ok (.iconst 0, 1) := by decide +kernel
theorem dX9_command_82 : decode cX9_command 82 = .ok (.iconst 0, 1) := by decide +kernel
theorem dX9_command_83 : decode cX9_command 83 = .ok (.invokevirtual 208, 3) := by decide +kernel
theorem dX9_command_86 : decode cX9_command 86 = .ok (.ifCond .eq 7, 3) := by decide +kernel
theorem dX9_command_89 : decode cX9_command 89 = .ok (.iconst 3, 1) := by decide +kernel
theorem dX9_command_90 : decode cX9_command 90 = .ok (.goto 4, 3) := by decide +kernel
theorem dX9_command_93 : decode cX9_command 93 = .ok (.iload_n 1, 1) := by decide +kernel
theorem dX9_command_94 : decode cX9_command 94 = .ok (.istore_n 1, 1) := by decide +kernel
theorem dX9_command_95 : decode cX9_command 95 = .ok (.aload_n 0, 1) := by decide +kernel
theorem dX9_command_96 : decode cX9_command 96 = .ok (.bipush 105, 2) := by decide +kernel
theorem dX9_command_98 : decode cX9_command 98 = .ok (.bipush 109, 2) := by decide +kernel
theorem dX9_command_100 : decode cX9_command 100 = .ok (.bipush 112, 2) := by decide +kernel
theorem dX9_command_102 : decode cX9_command 102 = .ok (.bipush 114, 2) := by decide +kernel
theorem dX9_command_104 : decode cX9_command 104 = .ok (.bipush 111, 2) := by decide +kernel
theorem dX9_command_106 : decode cX9_command 106 = .ok (.bipush 118, 2) := by decide +kernel
theorem dX9_command_108 : decode cX9_command 108 = .ok (.bipush 101, 2) := by decide +kernel
theorem dX9_command_110 : decode cX9_command 110 = .ok (.invokevirtual 208, 3) := by decide +kernel
theorem dX9_command_113 : decode cX9_command 113 = .ok (.ifCond .eq 7, 3) := by decide +kernel
theorem dX9_command_116 : decode cX9_command 116 = .ok (.iconst 4, 1) := by decide +kernel
theorem dX9_command_117 : decode cX9_command 117 = .ok (.goto 26, 3) := by decide +kernel
theorem dX9_command_120 : decode cX9_command 120 = .ok (.aload_n 0, 1) := by decide +kernel
theorem dX9_command_121 : decode cX9_command 121 = .ok (.bipush 104, 2) := by decide +kernel
theorem dX9_command_123 : decode cX9_command 123 = .ok (.bipush 105, 2) := by decide +kernel
theorem dX9_command_125 : decode cX9_command 125 = .ok (.bipush 100, 2) := by decide +kernel
theorem dX9_command_127 : decode cX9_command 127 = .ok (.bipush 101, 2) := by decide +kernel
theorem dX9_command_129 : decode cX9_command 129 = .ok (.iconst 0, 1) := by decide +kernel
theorem dX9_command_130 : decode cX9_command 130 = .ok (.iconst 0, 1) := by decide +kernel
theorem dX9_command_131 : decode cX9_command 131 = .ok (.iconst 0, 1) := by decide +kernel
theorem dX9_command_132 : decode cX9_command 132 = .ok (.invokevirtual 208, 3) := by decide +kernel
theorem dX9_command_135 : decode cX9_command 135 = .ok (.ifCond .eq 7, 3) := by decide +kernel
theorem dX9_command_138 : decode cX9_command 138 = .ok (.iconst 5, 1) := by decide +kernel
theorem dX9_command_139 : decode cX9_command 139 = .ok (.goto 4, 3) := by decide +kernel
theorem dX9_command_142 : decode cX9_command 142 = .ok (.iload_n 1, 1) := by decide +kernel
theorem dX9_command_143 : decode cX9_command 143 = .ok (.ireturn, 1) := by decide +kernel
theorem dX9_readsNumber_0 : decode cX9_readsNumber 0 = .ok (.aload_n 0, 1) := by decide +kernel
theorem dX9_readsNumber_1 : decode cX9_readsNumber 1 = .ok (.getfield 192, 3) := by decide +kernel
theorem dX9_readsNumber_4 : decode cX9_readsNumber 4 = .ok (.istore_n 1, 1) := by decide +kernel
theorem dX9_readsNumber_5 : decode cX9_readsNumber 5 = .ok (.iconst 0, 1) := by decide +kernel
theorem dX9_readsNumber_6 : decode cX9_readsNumber 6 = .ok (.istore_n 2, 1) := by decide +kernel
theorem dX9_readsNumber_7 : decode cX9_readsNumber 7 = .ok (.aload_n 0, 1) := by decide +kernel
theorem dX9_readsNumber_8 : decode cX9_readsNumber 8 = .ok (.getfield 192, 3) := by decide +kernel
theorem dX9_readsNumber_11 : decode cX9_readsNumber 11 = .ok (.iload_n 1, 1) := by decide +kernel
theorem dX9_readsNumber_12 : decode cX9_readsNumber 12 = .ok (.iconst 3, 1) := by decide +kernel
theorem dX9_readsNumber_13 : decode cX9_readsNumber 13 = .ok (.iadd, 1) := by decide +kernel
theorem dX9_readsNumber_14 : decode cX9_readsNumber 14 = .ok (.if_icmp .ge 46, 3) := by decide +kernel
theorem dX9_readsNumber_17 : decode cX9_readsNumber 17 = .ok (.aload_n 0, 1) := by decide +kernel
theorem dX9_readsNumber_18 : decode cX9_readsNumber 18 = .ok (.invokevirtual 195, 3) := by decide +kernel
theorem dX9_readsNumber_21 : decode cX9_readsNumber 21 = .ok (.i2l, 1) := by decide +kernel
theorem dX9_readsNumber_22 : decode cX9_readsNumber 22 = .ok (.ldc2_w 212, 3) := by decide +kernel
theorem dX9_readsNumber_25 : decode cX9_readsNumber 25 = .ok (.ldc2_w 214, 3) := by decide +kernel
theorem dX9_readsNumber_28 : decode cX9_readsNumber 28 = .ok (.invokestatic 51, 3) := by decide +kernel
theorem dX9_readsNumber_31 : decode cX9_readsNumber 31 = .ok (.ifCond .eq 29, 3) := by decide +kernel
theorem dX9_readsNumber_34 : decode cX9_readsNumber 34 = .ok (.bipush 10, 2) := by decide +kernel
theorem dX9_readsNumber_36 : decode cX9_readsNumber 36 = .ok (.iload_n 2, 1) := by decide +kernel
theorem dX9_readsNumber_37 : decode cX9_readsNumber 37 = .ok (.imul, 1) := by decide +kernel
theorem dX9_readsNumber_38 : decode cX9_readsNumber 38 = .ok (.aload_n 0, 1) := by decide +kernel
theorem dX9_readsNumber_39 : decode cX9_readsNumber 39 = .ok (.invokevirtual 195, 3) := by decide +kernel
theorem dX9_readsNumber_42 : decode cX9_readsNumber 42 = .ok (.iadd, 1) := by decide +kernel
theorem dX9_readsNumber_43 : decode cX9_readsNumber 43 = .ok (.bipush 48, 2) := by decide +kernel
theorem dX9_readsNumber_45 : decode cX9_readsNumber 45 = .ok (.isub, 1) := by decide +kernel
theorem dX9_readsNumber_46 : decode cX9_readsNumber 46 = .ok (.istore_n 2, 1) := by decide +kernel
theorem dX9_readsNumber_47 : decode cX9_readsNumber 47 = .ok (.aload_n 0, 1) := by decide +kernel
theorem dX9_readsNumber_48 : decode cX9_readsNumber 48 = .ok (.dup, 1) := by decide +kernel
theorem dX9_readsNumber_49 : decode cX9_readsNumber 49 = .ok (.getfield 192, 3) := by decide +kernel
theorem dX9_readsNumber_52 : decode cX9_readsNumber 52 = .ok (.iconst 1, 1) := by decide +kernel
theorem dX9_readsNumber_53 : decode cX9_readsNumber 53 = .ok (.iadd, 1) := by decide +kernel
theorem dX9_readsNumber_54 : decode cX9_readsNumber 54 = .ok (.putfield 192, 3) := by decide +kernel
theorem dX9_readsNumber_57 : decode cX9_readsNumber 57 = .ok (.goto (-50), 3) := by decide +kernel
theorem dX9_readsNumber_60 : decode cX9_readsNumber 60 = .ok (.aload_n 0, 1) := by decide +kernel
theorem dX9_readsNumber_61 : decode cX9_readsNumber 61 = .ok (.getfield 192, 3) := by decide +kernel
theorem dX9_readsNumber_64 : decode cX9_readsNumber 64 = .ok (.iload_n 1, 1) := by decide +kernel
theorem dX9_readsNumber_65 : decode cX9_readsNumber 65 = .ok (.if_icmp .eq 20, 3) := by decide +kernel
theorem dX9_readsNumber_68 : decode cX9_readsNumber 68 = .ok (.aload_n 0, 1) := by decide +kernel
theorem dX9_readsNumber_69 : decode cX9_readsNumber 69 = .ok (.invokevirtual 195, 3) := by decide +kernel
theorem dX9_readsNumber_72 : decode cX9_readsNumber 72 = .ok (.i2l, 1) := by decide +kernel
theorem dX9_readsNumber_73 : decode cX9_readsNumber 73 = .ok (.ldc2_w 212, 3) := by decide +kernel
theorem dX9_readsNumber_76 : decode cX9_readsNumber 76 = .ok (.ldc2_w 214, 3) := by decide +kernel
theorem dX9_readsNumber_79 : decode cX9_readsNumber 79 = .ok (.invokestatic 51, 3) := by decide +kernel
theorem dX9_readsNumber_82 : decode cX9_readsNumber 82 = .ok (.ifCond .eq 11, 3) := by decide +kernel
theorem dX9_readsNumber_85 : decode cX9_readsNumber 85 = .ok (.aload_n 0, 1) := by decide +kernel
theorem dX9_readsNumber_86 : decode cX9_readsNumber 86 = .ok (.aload_n 0, 1) := by decide +kernel
theorem dX9_readsNumber_87 : decode cX9_readsNumber 87 = .ok (.getfield 192, 3) := by decide +kernel
theorem dX9_readsNumber_90 : decode cX9_readsNumber 90 = .ok (.invokevirtual 216, 3) := by decide +kernel
theorem dX9_readsNumber_93 : decode cX9_readsNumber 93 = .ok (.aload_n 0, 1) := by decide +kernel
theorem dX9_readsNumber_94 : decode cX9_readsNumber 94 = .ok (.invokevirtual 220, 3) := by decide +kernel
theorem dX9_readsNumber_97 : decode cX9_readsNumber 97 = .ok (.iload_n 2, 1) := by decide +kernel
theorem dX9_readsNumber_98 : decode cX9_readsNumber 98 = .ok (.ireturn, 1) := by decide +kernel
theorem dX9_readsWhole_0 : decode cX9_readsWhole 0 = .ok (.aload_n 0, 1) := by decide +kernel
theorem dX9_readsWhole_1 : decode cX9_readsWhole 1 = .ok (.invokevirtual 195, 3) := by decide +kernel
theorem dX9_readsWhole_4 : decode cX9_readsWhole 4 = .ok (.bipush 45, 2) := by decide +kernel
theorem dX9_readsWhole_6 : decode cX9_readsWhole 6 = .ok (.if_icmp .ne 7, 3) := by decide +kernel
theorem dX9_readsWhole_9 : decode cX9_readsWhole 9 = .ok (.iconst 1, 1) := by decide +kernel
theorem dX9_readsWhole_10 : decode cX9_readsWhole 10 = .ok (.goto 4, 3) := by decide +kernel
theorem dX9_readsWhole_13 : decode cX9_readsWhole 13 = .ok (.iconst 0, 1) := by decide +kernel
theorem dX9_readsWhole_14 : decode cX9_readsWhole 14 = .ok (.istore_n 1, 1) := by decide +kernel
theorem dX9_readsWhole_15 : decode cX9_readsWhole 15 = .ok (.iload_n 1, 1) := by decide +kernel
theorem dX9_readsWhole_16 : decode cX9_readsWhole 16 = .ok (.ifCond .eq 17, 3) := by decide +kernel
theorem dX9_readsWhole_19 : decode cX9_readsWhole 19 = .ok (.aload_n 0, 1) := by decide +kernel
theorem dX9_readsWhole_20 : decode cX9_readsWhole 20 = .ok (.dup, 1) := by decide +kernel
theorem dX9_readsWhole_21 : decode cX9_readsWhole 21 = .ok (.getfield 192, 3) := by decide +kernel
theorem dX9_readsWhole_24 : decode cX9_readsWhole 24 = .ok (.iconst 1, 1) := by decide +kernel
theorem dX9_readsWhole_25 : decode cX9_readsWhole 25 = .ok (.iadd, 1) := by decide +kernel
theorem dX9_readsWhole_26 : decode cX9_readsWhole 26 = .ok (.putfield 192, 3) := by decide +kernel
theorem dX9_readsWhole_29 : decode cX9_readsWhole 29 = .ok (.aload_n 0, 1) := by decide +kernel
theorem dX9_readsWhole_30 : decode cX9_readsWhole 30 = .ok (.invokevirtual 220, 3) := by decide +kernel
theorem dX9_readsWhole_33 : decode cX9_readsWhole 33 = .ok (.aload_n 0, 1) := by decide +kernel
theorem dX9_readsWhole_34 : decode cX9_readsWhole 34 = .ok (.invokevirtual 223, 3) := by decide +kernel
theorem dX9_readsWhole_37 : decode cX9_readsWhole 37 = .ok (.istore_n 2, 1) := by decide +kernel
theorem dX9_readsWhole_38 : decode cX9_readsWhole 38 = .ok (.iload_n 1, 1) := by decide +kernel
theorem dX9_readsWhole_39 : decode cX9_readsWhole 39 = .ok (.ifCond .eq 8, 3) := by decide +kernel
theorem dX9_readsWhole_42 : decode cX9_readsWhole 42 = .ok (.iload_n 2, 1) := by decide +kernel
theorem dX9_readsWhole_43 : decode cX9_readsWhole 43 = .ok (.ineg, 1) := by decide +kernel
theorem dX9_readsWhole_44 : decode cX9_readsWhole 44 = .ok (.goto 4, 3) := by decide +kernel
theorem dX9_readsWhole_47 : decode cX9_readsWhole 47 = .ok (.iload_n 2, 1) := by decide +kernel
theorem dX9_readsWhole_48 : decode cX9_readsWhole 48 = .ok (.ireturn, 1) := by decide +kernel
theorem dX9_reads_0 : decode cX9_reads 0 = .ok (.aload_n 0, 1) := by decide +kernel
theorem dX9_reads_1 : decode cX9_reads 1 = .ok (.iconst 0, 1) := by decide +kernel
theorem dX9_reads_2 : decode cX9_reads 2 = .ok (.putfield 192, 3) := by decide +kernel
theorem dX9_reads_5 : decode cX9_reads 5 = .ok (.aload_n 0, 1) := by decide +kernel
theorem dX9_reads_6 : decode cX9_reads 6 = .ok (.iconst (-1), 1) := by decide +kernel
theorem dX9_reads_7 : decode cX9_reads 7 = .ok (.putfield 198, 3) := by decide +kernel
theorem dX9_reads_10 : decode cX9_reads 10 = .ok (.aload_n 0, 1) := by decide +kernel
theorem dX9_reads_11 : decode cX9_reads 11 = .ok (.invokevirtual 220, 3) := by decide +kernel
theorem dX9_reads_14 : decode cX9_reads 14 = .ok (.aload_n 0, 1) := by decide +kernel
theorem dX9_reads_15 : decode cX9_reads 15 = .ok (.getfield 192, 3) := by decide +kernel
theorem dX9_reads_18 : decode cX9_reads 18 = .ok (.istore_n 1, 1) := by decide +kernel
theorem dX9_reads_19 : decode cX9_reads 19 = .ok (.aload_n 0, 1) := by decide +kernel
theorem dX9_reads_20 : decode cX9_reads 20 = .ok (.invokevirtual 226, 3) := by decide +kernel
theorem dX9_reads_23 : decode cX9_reads 23 = .ok (.aload_n 0, 1) := by decide +kernel
theorem dX9_reads_24 : decode cX9_reads 24 = .ok (.invokevirtual 229, 3) := by decide +kernel
theorem dX9_reads_27 : decode cX9_reads 27 = .ok (.istore_n 2, 1) := by decide +kernel
theorem dX9_reads_28 : decode cX9_reads 28 = .ok (.iload_n 2, 1) := by decide +kernel
theorem dX9_reads_29 : decode cX9_reads 29 = .ok (.iconst (-1), 1) := by decide +kernel
theorem dX9_reads_30 : decode cX9_reads 30 = .ok (.if_icmp .ne 8, 3) := by decide +kernel
theorem dX9_reads_33 : decode cX9_reads 33 = .ok (.aload_n 0, 1) := by decide +kernel
theorem dX9_reads_34 : decode cX9_reads 34 = .ok (.iload_n 1, 1) := by decide +kernel
theorem dX9_reads_35 : decode cX9_reads 35 = .ok (.invokevirtual 216, 3) := by decide +kernel
theorem dX9_reads_38 : decode cX9_reads 38 = .ok (.aload_n 0, 1) := by decide +kernel
theorem dX9_reads_39 : decode cX9_reads 39 = .ok (.invokevirtual 220, 3) := by decide +kernel
theorem dX9_reads_42 : decode cX9_reads 42 = .ok (.iload_n 2, 1) := by decide +kernel
theorem dX9_reads_43 : decode cX9_reads 43 = .ok (.ifCond .ne 7, 3) := by decide +kernel
theorem dX9_reads_46 : decode cX9_reads 46 = .ok (.iconst 5, 1) := by decide +kernel
theorem dX9_reads_47 : decode cX9_reads 47 = .ok (.goto 13, 3) := by decide +kernel
theorem dX9_reads_50 : decode cX9_reads 50 = .ok (.iload_n 2, 1) := by decide +kernel
theorem dX9_reads_51 : decode cX9_reads 51 = .ok (.iconst 1, 1) := by decide +kernel
theorem dX9_reads_52 : decode cX9_reads 52 = .ok (.if_icmp .ne 7, 3) := by decide +kernel
theorem dX9_reads_55 : decode cX9_reads 55 = .ok (.iconst 4, 1) := by decide +kernel
theorem dX9_reads_56 : decode cX9_reads 56 = .ok (.goto 4, 3) := by decide +kernel
theorem dX9_reads_59 : decode cX9_reads 59 = .ok (.iconst 0, 1) := by decide +kernel
theorem dX9_reads_60 : decode cX9_reads 60 = .ok (.istore_n 3, 1) := by decide +kernel
theorem dX9_reads_61 : decode cX9_reads 61 = .ok (.iconst 0, 1) := by decide +kernel
theorem dX9_reads_62 : decode cX9_reads 62 = .ok (.istore 4, 2) := by decide +kernel
theorem dX9_reads_64 : decode cX9_reads 64 = .ok (.iload 4, 2) := by decide +kernel
theorem dX9_reads_66 : decode cX9_reads 66 = .ok (.iload_n 3, 1) := by decide +kernel
theorem dX9_reads_67 : decode cX9_reads 67 = .ok (.if_icmp .ge 28, 3) := by decide +kernel
theorem dX9_reads_70 : decode cX9_reads 70 = .ok (.aload_n 0, 1) := by decide +kernel
theorem dX9_reads_71 : decode cX9_reads 71 = .ok (.getfield 198, 3) := by decide +kernel
theorem dX9_reads_74 : decode cX9_reads 74 = .ok (.iconst (-1), 1) := by decide +kernel
theorem dX9_reads_75 : decode cX9_reads 75 = .ok (.if_icmp .ne 20, 3) := by decide +kernel
theorem dX9_reads_78 : decode cX9_reads 78 = .ok (.aload_n 0, 1) := by decide +kernel
theorem dX9_reads_79 : decode cX9_reads 79 = .ok (.getfield 45, 3) := by decide +kernel
theorem dX9_reads_82 : decode cX9_reads 82 = .ok (.iload 4, 2) := by decide +kernel
theorem dX9_reads_84 : decode cX9_reads 84 = .ok (.aload_n 0, 1) := by decide +kernel
theorem dX9_reads_85 : decode cX9_reads 85 = .ok (.invokevirtual 223, 3) := by decide +kernel
theorem dX9_reads_88 : decode cX9_reads 88 = .ok (.iastore, 1) := by decide +kernel
theorem dX9_reads_89 : decode cX9_reads 89 = .ok (.iinc 4 1, 3) := by decide +kernel
theorem dX9_reads_92 : decode cX9_reads 92 = .ok (.goto (-28), 3) := by decide +kernel
theorem dX9_reads_95 : decode cX9_reads 95 = .ok (.iconst 0, 1) := by decide +kernel
theorem dX9_reads_96 : decode cX9_reads 96 = .ok (.istore 4, 2) := by decide +kernel
theorem dX9_reads_98 : decode cX9_reads 98 = .ok (.iload 4, 2) := by decide +kernel
theorem dX9_reads_100 : decode cX9_reads 100 = .ok (.iconst 2, 1) := by decide +kernel
theorem dX9_reads_101 : decode cX9_reads 101 = .ok (.if_icmp .ge 33, 3) := by decide +kernel
theorem dX9_reads_104 : decode cX9_reads 104 = .ok (.iload_n 2, 1) := by decide +kernel
theorem dX9_reads_105 : decode cX9_reads 105 = .ok (.iconst 2, 1) := by decide +kernel
theorem dX9_reads_106 : decode cX9_reads 106 = .ok (.if_icmp .ne 28, 3) := by decide +kernel
theorem dX9_reads_109 : decode cX9_reads 109 = .ok (.aload_n 0, 1) := by decide +kernel
theorem dX9_reads_110 : decode cX9_reads 110 = .ok (.getfield 198, 3) := by decide +kernel
theorem dX9_reads_113 : decode cX9_reads 113 = .ok (.iconst (-1), 1) := by decide +kernel
theorem dX9_reads_114 : decode cX9_reads 114 = .ok (.if_icmp .ne 20, 3) := by decide +kernel
theorem dX9_reads_117 : decode cX9_reads 117 = .ok (.aload_n 0, 1) := by decide +kernel
theorem dX9_reads_118 : decode cX9_reads 118 = .ok (.getfield 45, 3) := by decide +kernel
theorem dX9_reads_121 : decode cX9_reads 121 = .ok (.iload 4, 2) := by decide +kernel
theorem dX9_reads_123 : decode cX9_reads 123 = .ok (.aload_n 0, 1) := by decide +kernel
theorem dX9_reads_124 : decode cX9_reads 124 = .ok (.invokevirtual 232, 3) := by decide +kernel
theorem dX9_reads_127 : decode cX9_reads 127 = .ok (.iastore, 1) := by decide +kernel
theorem dX9_reads_128 : decode cX9_reads 128 = .ok (.iinc 4 1, 3) := by decide +kernel
theorem dX9_reads_131 : decode cX9_reads 131 = .ok (.goto (-33), 3) := by decide +kernel
theorem dX9_reads_134 : decode cX9_reads 134 = .ok (.aload_n 0, 1) := by decide +kernel
theorem dX9_reads_135 : decode cX9_reads 135 = .ok (.getfield 192, 3) := by decide +kernel
theorem dX9_reads_138 : decode cX9_reads 138 = .ok (.aload_n 0, 1) := by decide +kernel
theorem dX9_reads_139 : decode cX9_reads 139 = .ok (.getfield 189, 3) := by decide +kernel
theorem dX9_reads_142 : decode cX9_reads 142 = .ok (.if_icmp .ge 11, 3) := by decide +kernel
theorem dX9_reads_145 : decode cX9_reads 145 = .ok (.aload_n 0, 1) := by decide +kernel
theorem dX9_reads_146 : decode cX9_reads 146 = .ok (.aload_n 0, 1) := by decide +kernel
theorem dX9_reads_147 : decode cX9_reads 147 = .ok (.getfield 192, 3) := by decide +kernel
theorem dX9_reads_150 : decode cX9_reads 150 = .ok (.invokevirtual 216, 3) := by decide +kernel
theorem dX9_reads_153 : decode cX9_reads 153 = .ok (.iload_n 2, 1) := by decide +kernel
theorem dX9_reads_154 : decode cX9_reads 154 = .ok (.ireturn, 1) := by decide +kernel
theorem dX9_run_0 : decode cX9_run 0 = .ok (.aload_n 0, 1) := by decide +kernel
theorem dX9_run_1 : decode cX9_run 1 = .ok (.invokevirtual 235, 3) := by decide +kernel
theorem dX9_run_4 : decode cX9_run 4 = .ok (.istore_n 1, 1) := by decide +kernel
theorem dX9_run_5 : decode cX9_run 5 = .ok (.aload_n 0, 1) := by decide +kernel
theorem dX9_run_6 : decode cX9_run 6 = .ok (.getfield 198, 3) := by decide +kernel
theorem dX9_run_9 : decode cX9_run 9 = .ok (.iconst (-1), 1) := by decide +kernel
theorem dX9_run_10 : decode cX9_run 10 = .ok (.if_icmp .eq 12, 3) := by decide +kernel
theorem dX9_run_13 : decode cX9_run 13 = .ok (.sipush (-2000), 3) := by decide +kernel
theorem dX9_run_16 : decode cX9_run 16 = .ok (.aload_n 0, 1) := by decide +kernel
theorem dX9_run_17 : decode cX9_run 17 = .ok (.getfield 198, 3) := by decide +kernel
theorem dX9_run_20 : decode cX9_run 20 = .ok (.isub, 1) := by decide +kernel
theorem dX9_run_21 : decode cX9_run 21 = .ok (.ireturn, 1) := by decide +kernel
theorem dX9_run_22 : decode cX9_run 22 = .ok (.aload_n 0, 1) := by decide +kernel
theorem dX9_run_23 : decode cX9_run 23 = .ok (.iconst 0, 1) := by decide +kernel
theorem dX9_run_24 : decode cX9_run 24 = .ok (.putfield 189, 3) := by decide +kernel
theorem dX9_run_27 : decode cX9_run 27 = .ok (.iload_n 1, 1) := by decide +kernel
theorem dX9_run_28 : decode cX9_run 28 = .ok (.tableswitch 130 0 4 #[36, 74, 103, 120, 125], 36) := by decide +kernel
theorem dX9_run_64 : decode cX9_run 64 = .ok (.aload_n 0, 1) := by decide +kernel
theorem dX9_run_65 : decode cX9_run 65 = .ok (.aload_n 0, 1) := by decide +kernel
theorem dX9_run_66 : decode cX9_run 66 = .ok (.getfield 45, 3) := by decide +kernel
theorem dX9_run_69 : decode cX9_run 69 = .ok (.iconst 0, 1) := by decide +kernel
theorem dX9_run_70 : decode cX9_run 70 = .ok (.iaload, 1) := by decide +kernel
theorem dX9_run_71 : decode cX9_run 71 = .ok (.aload_n 0, 1) := by decide +kernel
theorem dX9_run_72 : decode cX9_run 72 = .ok (.getfield 45, 3) := by decide +kernel
theorem dX9_run_75 : decode cX9_run 75 = .ok (.iconst 1, 1) := by decide +kernel
theorem dX9_run_76 : decode cX9_run 76 = .ok (.iaload, 1) := by decide +kernel
theorem dX9_run_77 : decode cX9_run 77 = .ok (.aload_n 0, 1) := by decide +kernel
theorem dX9_run_78 : decode cX9_run 78 = .ok (.getfield 45, 3) := by decide +kernel
theorem dX9_run_81 : decode cX9_run 81 = .ok (.iconst 2, 1) := by decide +kernel
theorem dX9_run_82 : decode cX9_run 82 = .ok (.iaload, 1) := by decide +kernel
theorem dX9_run_83 : decode cX9_run 83 = .ok (.aload_n 0, 1) := by decide +kernel
theorem dX9_run_84 : decode cX9_run 84 = .ok (.getfield 45, 3) := by decide +kernel
theorem dX9_run_87 : decode cX9_run 87 = .ok (.iconst 3, 1) := by decide +kernel
theorem dX9_run_88 : decode cX9_run 88 = .ok (.iaload, 1) := by decide +kernel
theorem dX9_run_89 : decode cX9_run 89 = .ok (.aload_n 0, 1) := by decide +kernel
theorem dX9_run_90 : decode cX9_run 90 = .ok (.getfield 45, 3) := by decide +kernel
theorem dX9_run_93 : decode cX9_run 93 = .ok (.iconst 4, 1) := by decide +kernel
theorem dX9_run_94 : decode cX9_run 94 = .ok (.iaload, 1) := by decide +kernel
theorem dX9_run_95 : decode cX9_run 95 = .ok (.sipush 255, 3) := by decide +kernel
theorem dX9_run_98 : decode cX9_run 98 = .ok (.invokevirtual 238, 3) := by decide +kernel
theorem dX9_run_101 : decode cX9_run 101 = .ok (.ireturn, 1) := by decide +kernel
theorem dX9_run_102 : decode cX9_run 102 = .ok (.aload_n 0, 1) := by decide +kernel
theorem dX9_run_103 : decode cX9_run 103 = .ok (.aload_n 0, 1) := by decide +kernel
theorem dX9_run_104 : decode cX9_run 104 = .ok (.getfield 45, 3) := by decide +kernel
theorem dX9_run_107 : decode cX9_run 107 = .ok (.iconst 0, 1) := by decide +kernel
theorem dX9_run_108 : decode cX9_run 108 = .ok (.iaload, 1) := by decide +kernel
theorem dX9_run_109 : decode cX9_run 109 = .ok (.aload_n 0, 1) := by decide +kernel
theorem dX9_run_110 : decode cX9_run 110 = .ok (.getfield 45, 3) := by decide +kernel
theorem dX9_run_113 : decode cX9_run 113 = .ok (.iconst 1, 1) := by decide +kernel
theorem dX9_run_114 : decode cX9_run 114 = .ok (.iaload, 1) := by decide +kernel
theorem dX9_run_115 : decode cX9_run 115 = .ok (.aload_n 0, 1) := by decide +kernel
theorem dX9_run_116 : decode cX9_run 116 = .ok (.getfield 45, 3) := by decide +kernel
theorem dX9_run_119 : decode cX9_run 119 = .ok (.iconst 2, 1) := by decide +kernel
theorem dX9_run_120 : decode cX9_run 120 = .ok (.iaload, 1) := by decide +kernel
theorem dX9_run_121 : decode cX9_run 121 = .ok (.aload_n 0, 1) := by decide +kernel
theorem dX9_run_122 : decode cX9_run 122 = .ok (.getfield 45, 3) := by decide +kernel
theorem dX9_run_125 : decode cX9_run 125 = .ok (.iconst 3, 1) := by decide +kernel
theorem dX9_run_126 : decode cX9_run 126 = .ok (.iaload, 1) := by decide +kernel
theorem dX9_run_127 : decode cX9_run 127 = .ok (.invokevirtual 242, 3) := by decide +kernel
theorem dX9_run_130 : decode cX9_run 130 = .ok (.ireturn, 1) := by decide +kernel
theorem dX9_run_131 : decode cX9_run 131 = .ok (.aload_n 0, 1) := by decide +kernel
theorem dX9_run_132 : decode cX9_run 132 = .ok (.aload_n 0, 1) := by decide +kernel
theorem dX9_run_133 : decode cX9_run 133 = .ok (.getfield 45, 3) := by decide +kernel
theorem dX9_run_136 : decode cX9_run 136 = .ok (.iconst 0, 1) := by decide +kernel
theorem dX9_run_137 : decode cX9_run 137 = .ok (.iaload, 1) := by decide +kernel
theorem dX9_run_138 : decode cX9_run 138 = .ok (.aload_n 0, 1) := by decide +kernel
theorem dX9_run_139 : decode cX9_run 139 = .ok (.getfield 45, 3) := by decide +kernel
theorem dX9_run_142 : decode cX9_run 142 = .ok (.iconst 1, 1) := by decide +kernel
theorem dX9_run_143 : decode cX9_run 143 = .ok (.iaload, 1) := by decide +kernel
theorem dX9_run_144 : decode cX9_run 144 = .ok (.invokevirtual 246, 3) := by decide +kernel
theorem dX9_run_147 : decode cX9_run 147 = .ok (.ireturn, 1) := by decide +kernel
theorem dX9_run_148 : decode cX9_run 148 = .ok (.aload_n 0, 1) := by decide +kernel
theorem dX9_run_149 : decode cX9_run 149 = .ok (.invokevirtual 132, 3) := by decide +kernel
theorem dX9_run_152 : decode cX9_run 152 = .ok (.ireturn, 1) := by decide +kernel
theorem dX9_run_153 : decode cX9_run 153 = .ok (.aload_n 0, 1) := by decide +kernel
theorem dX9_run_154 : decode cX9_run 154 = .ok (.invokevirtual 249, 3) := by decide +kernel
theorem dX9_run_157 : decode cX9_run 157 = .ok (.ireturn, 1) := by decide +kernel
theorem dX9_run_158 : decode cX9_run 158 = .ok (.aload_n 0, 1) := by decide +kernel
theorem dX9_run_159 : decode cX9_run 159 = .ok (.invokevirtual 252, 3) := by decide +kernel
theorem dX9_run_162 : decode cX9_run 162 = .ok (.ireturn, 1) := by decide +kernel
theorem dX9_places_0 : decode cX9_places 0 = .ok (.iconst 0, 1) := by decide +kernel
theorem dX9_places_1 : decode cX9_places 1 = .ok (.istore_n 1, 1) := by decide +kernel
theorem dX9_places_2 : decode cX9_places 2 = .ok (.iconst 0, 1) := by decide +kernel
theorem dX9_places_3 : decode cX9_places 3 = .ok (.istore_n 2, 1) := by decide +kernel
theorem dX9_places_4 : decode cX9_places 4 = .ok (.iload_n 2, 1) := by decide +kernel
theorem dX9_places_5 : decode cX9_places 5 = .ok (.aload_n 0, 1) := by decide +kernel
theorem dX9_places_6 : decode cX9_places 6 = .ok (.getfield 48, 3) := by decide +kernel
theorem dX9_places_9 : decode cX9_places 9 = .ok (.if_icmp .ge 17, 3) := by decide +kernel
theorem dX9_places_12 : decode cX9_places 12 = .ok (.iload_n 1, 1) := by decide +kernel
theorem dX9_places_13 : decode cX9_places 13 = .ok (.aload_n 0, 1) := by decide +kernel
theorem dX9_places_14 : decode cX9_places 14 = .ok (.iload_n 2, 1) := by decide +kernel
theorem dX9_places_15 : decode cX9_places 15 = .ok (.invokevirtual 112, 3) := by decide +kernel
theorem dX9_places_18 : decode cX9_places 18 = .ok (.iadd, 1) := by decide +kernel
theorem dX9_places_19 : decode cX9_places 19 = .ok (.istore_n 1, 1) := by decide +kernel
theorem dX9_places_20 : decode cX9_places 20 = .ok (.iinc 2 1, 3) := by decide +kernel
theorem dX9_places_23 : decode cX9_places 23 = .ok (.goto (-19), 3) := by decide +kernel
theorem dX9_places_26 : decode cX9_places 26 = .ok (.iload_n 1, 1) := by decide +kernel
theorem dX9_places_27 : decode cX9_places 27 = .ok (.ireturn, 1) := by decide +kernel
theorem dX9_pairs_0 : decode cX9_pairs 0 = .ok (.iconst 0, 1) := by decide +kernel
theorem dX9_pairs_1 : decode cX9_pairs 1 = .ok (.istore_n 1, 1) := by decide +kernel
theorem dX9_pairs_2 : decode cX9_pairs 2 = .ok (.iconst 0, 1) := by decide +kernel
theorem dX9_pairs_3 : decode cX9_pairs 3 = .ok (.istore_n 2, 1) := by decide +kernel
theorem dX9_pairs_4 : decode cX9_pairs 4 = .ok (.iload_n 2, 1) := by decide +kernel
theorem dX9_pairs_5 : decode cX9_pairs 5 = .ok (.bipush 8, 2) := by decide +kernel
theorem dX9_pairs_7 : decode cX9_pairs 7 = .ok (.aload_n 0, 1) := by decide +kernel
theorem dX9_pairs_8 : decode cX9_pairs 8 = .ok (.getfield 48, 3) := by decide +kernel
theorem dX9_pairs_11 : decode cX9_pairs 11 = .ok (.imul, 1) := by decide +kernel
theorem dX9_pairs_12 : decode cX9_pairs 12 = .ok (.if_icmp .ge 37, 3) := by decide +kernel
theorem dX9_pairs_15 : decode cX9_pairs 15 = .ok (.iload_n 1, 1) := by decide +kernel
theorem dX9_pairs_16 : decode cX9_pairs 16 = .ok (.aload_n 0, 1) := by decide +kernel
theorem dX9_pairs_17 : decode cX9_pairs 17 = .ok (.getfield 20, 3) := by decide +kernel
theorem dX9_pairs_20 : decode cX9_pairs 20 = .ok (.iload_n 2, 1) := by decide +kernel
theorem dX9_pairs_21 : decode cX9_pairs 21 = .ok (.baload, 1) := by decide +kernel
theorem dX9_pairs_22 : decode cX9_pairs 22 = .ok (.ifCond .eq 18, 3) := by decide +kernel
theorem dX9_pairs_25 : decode cX9_pairs 25 = .ok (.aload_n 0, 1) := by decide +kernel
theorem dX9_pairs_26 : decode cX9_pairs 26 = .ok (.iload_n 2, 1) := by decide +kernel
theorem dX9_pairs_27 : decode cX9_pairs 27 = .ok (.bipush 8, 2) := by decide +kernel
theorem dX9_pairs_29 : decode cX9_pairs 29 = .ok (.idiv, 1) := by decide +kernel
theorem dX9_pairs_30 : decode cX9_pairs 30 = .ok (.iload_n 2, 1) := by decide +kernel
theorem dX9_pairs_31 : decode cX9_pairs 31 = .ok (.bipush 8, 2) := by decide +kernel
theorem dX9_pairs_33 : decode cX9_pairs 33 = .ok (.irem, 1) := by decide +kernel
theorem dX9_pairs_34 : decode cX9_pairs 34 = .ok (.invokevirtual 135, 3) := by decide +kernel
theorem dX9_pairs_37 : decode cX9_pairs 37 = .ok (.goto 4, 3) := by decide +kernel
theorem dX9_pairs_40 : decode cX9_pairs 40 = .ok (.iconst 0, 1) := by decide +kernel
theorem dX9_pairs_41 : decode cX9_pairs 41 = .ok (.iadd, 1) := by decide +kernel
theorem dX9_pairs_42 : decode cX9_pairs 42 = .ok (.istore_n 1, 1) := by decide +kernel
theorem dX9_pairs_43 : decode cX9_pairs 43 = .ok (.iinc 2 1, 3) := by decide +kernel
theorem dX9_pairs_46 : decode cX9_pairs 46 = .ok (.goto (-42), 3) := by decide +kernel
theorem dX9_pairs_49 : decode cX9_pairs 49 = .ok (.iload_n 1, 1) := by decide +kernel
theorem dX9_pairs_50 : decode cX9_pairs 50 = .ok (.iconst 2, 1) := by decide +kernel
theorem dX9_pairs_51 : decode cX9_pairs 51 = .ok (.idiv, 1) := by decide +kernel
theorem dX9_pairs_52 : decode cX9_pairs 52 = .ok (.ireturn, 1) := by decide +kernel
theorem dX9_priorities_0 : decode cX9_priorities 0 = .ok (.iconst 0, 1) := by decide +kernel
theorem dX9_priorities_1 : decode cX9_priorities 1 = .ok (.istore_n 1, 1) := by decide +kernel
theorem dX9_priorities_2 : decode cX9_priorities 2 = .ok (.iconst 0, 1) := by decide +kernel
theorem dX9_priorities_3 : decode cX9_priorities 3 = .ok (.istore_n 2, 1) := by decide +kernel
theorem dX9_priorities_4 : decode cX9_priorities 4 = .ok (.iload_n 2, 1) := by decide +kernel
theorem dX9_priorities_5 : decode cX9_priorities 5 = .ok (.aload_n 0, 1) := by decide +kernel
theorem dX9_priorities_6 : decode cX9_priorities 6 = .ok (.getfield 48, 3) := by decide +kernel
theorem dX9_priorities_9 : decode cX9_priorities 9 = .ok (.if_icmp .ge 38, 3) := by decide +kernel
theorem dX9_priorities_12 : decode cX9_priorities 12 = .ok (.iload_n 1, 1) := by decide +kernel
theorem dX9_priorities_13 : decode cX9_priorities 13 = .ok (.aload_n 0, 1) := by decide +kernel
theorem dX9_priorities_14 : decode cX9_priorities 14 = .ok (.getfield 7, 3) := by decide +kernel
theorem dX9_priorities_17 : decode cX9_priorities 17 = .ok (.bipush 120, 2) := by decide +kernel
theorem dX9_priorities_19 : decode cX9_priorities 19 = .ok (.iload_n 2, 1) := by decide +kernel
theorem dX9_priorities_20 : decode cX9_priorities 20 = .ok (.iadd, 1) := by decide +kernel
theorem dX9_priorities_21 : decode cX9_priorities 21 = .ok (.iaload, 1) := by decide +kernel
theorem dX9_priorities_22 : decode cX9_priorities 22 = .ok (.iconst (-1), 1) := by decide +kernel
theorem dX9_priorities_23 : decode cX9_priorities 23 = .ok (.if_icmp .eq 15, 3) := by decide +kernel
theorem dX9_priorities_26 : decode cX9_priorities 26 = .ok (.aload_n 0, 1) := by decide +kernel
theorem dX9_priorities_27 : decode cX9_priorities 27 = .ok (.getfield 7, 3) := by decide +kernel
theorem dX9_priorities_30 : decode cX9_priorities 30 = .ok (.bipush 80, 2) := by decide +kernel
theorem dX9_priorities_32 : decode cX9_priorities 32 = .ok (.iload_n 2, 1) := by decide +kernel
theorem dX9_priorities_33 : decode cX9_priorities 33 = .ok (.iadd, 1) := by decide +kernel
theorem dX9_priorities_34 : decode cX9_priorities 34 = .ok (.iaload, 1) := by decide +kernel
theorem dX9_priorities_35 : decode cX9_priorities 35 = .ok (.goto 4, 3) := by decide +kernel
theorem dX9_priorities_38 : decode cX9_priorities 38 = .ok (.iconst 0, 1) := by decide +kernel
theorem dX9_priorities_39 : decode cX9_priorities 39 = .ok (.iadd, 1) := by decide +kernel
theorem dX9_priorities_40 : decode cX9_priorities 40 = .ok (.istore_n 1, 1) := by decide +kernel
theorem dX9_priorities_41 : decode cX9_priorities 41 = .ok (.iinc 2 1, 3) := by decide +kernel
theorem dX9_priorities_44 : decode cX9_priorities 44 = .ok (.goto (-40), 3) := by decide +kernel
theorem dX9_priorities_47 : decode cX9_priorities 47 = .ok (.iload_n 1, 1) := by decide +kernel
theorem dX9_priorities_48 : decode cX9_priorities 48 = .ok (.ireturn, 1) := by decide +kernel
theorem dX9_pushing_0 : decode cX9_pushing 0 = .ok (.iconst 0, 1) := by decide +kernel
theorem dX9_pushing_1 : decode cX9_pushing 1 = .ok (.istore_n 1, 1) := by decide +kernel
theorem dX9_pushing_2 : decode cX9_pushing 2 = .ok (.iconst 0, 1) := by decide +kernel
theorem dX9_pushing_3 : decode cX9_pushing 3 = .ok (.istore_n 2, 1) := by decide +kernel
theorem dX9_pushing_4 : decode cX9_pushing 4 = .ok (.iload_n 2, 1) := by decide +kernel
theorem dX9_pushing_5 : decode cX9_pushing 5 = .ok (.aload_n 0, 1) := by decide +kernel
theorem dX9_pushing_6 : decode cX9_pushing 6 = .ok (.getfield 48, 3) := by decide +kernel
theorem dX9_pushing_9 : decode cX9_pushing 9 = .ok (.if_icmp .ge 26, 3) := by decide +kernel
theorem dX9_pushing_12 : decode cX9_pushing 12 = .ok (.iload_n 1, 1) := by decide +kernel
theorem dX9_pushing_13 : decode cX9_pushing 13 = .ok (.aload_n 0, 1) := by decide +kernel
theorem dX9_pushing_14 : decode cX9_pushing 14 = .ok (.iload_n 2, 1) := by decide +kernel
theorem dX9_pushing_15 : decode cX9_pushing 15 = .ok (.invokevirtual 166, 3) := by decide +kernel
theorem dX9_pushing_18 : decode cX9_pushing 18 = .ok (.iconst (-1), 1) := by decide +kernel
theorem dX9_pushing_19 : decode cX9_pushing 19 = .ok (.if_icmp .eq 7, 3) := by decide +kernel
theorem dX9_pushing_22 : decode cX9_pushing 22 = .ok (.iconst 1, 1) := by decide +kernel
theorem dX9_pushing_23 : decode cX9_pushing 23 = .ok (.goto 4, 3) := by decide +kernel
theorem dX9_pushing_26 : decode cX9_pushing 26 = .ok (.iconst 0, 1) := by decide +kernel
theorem dX9_pushing_27 : decode cX9_pushing 27 = .ok (.iadd, 1) := by decide +kernel
theorem dX9_pushing_28 : decode cX9_pushing 28 = .ok (.istore_n 1, 1) := by decide +kernel
theorem dX9_pushing_29 : decode cX9_pushing 29 = .ok (.iinc 2 1, 3) := by decide +kernel
theorem dX9_pushing_32 : decode cX9_pushing 32 = .ok (.goto (-28), 3) := by decide +kernel
theorem dX9_pushing_35 : decode cX9_pushing 35 = .ok (.iload_n 1, 1) := by decide +kernel
theorem dX9_pushing_36 : decode cX9_pushing 36 = .ok (.ireturn, 1) := by decide +kernel
theorem dX9_number_0 : decode cX9_number 0 = .ok (.iload_n 1, 1) := by decide +kernel
theorem dX9_number_1 : decode cX9_number 1 = .ok (.tableswitch 123 0 11 #[63, 68, 73, 78, 83, 88, 93, 98, 103, 108, 113, 118], 63) := by decide +kernel
theorem dX9_number_64 : decode cX9_number 64 = .ok (.aload_n 0, 1) := by decide +kernel
theorem dX9_number_65 : decode cX9_number 65 = .ok (.getfield 48, 3) := by decide +kernel
theorem dX9_number_68 : decode cX9_number 68 = .ok (.ireturn, 1) := by decide +kernel
theorem dX9_number_69 : decode cX9_number 69 = .ok (.aload_n 0, 1) := by decide +kernel
theorem dX9_number_70 : decode cX9_number 70 = .ok (.invokevirtual 125, 3) := by decide +kernel
theorem dX9_number_73 : decode cX9_number 73 = .ok (.ireturn, 1) := by decide +kernel
theorem dX9_number_74 : decode cX9_number 74 = .ok (.aload_n 0, 1) := by decide +kernel
theorem dX9_number_75 : decode cX9_number 75 = .ok (.invokevirtual 255, 3) := by decide +kernel
theorem dX9_number_78 : decode cX9_number 78 = .ok (.ireturn, 1) := by decide +kernel
theorem dX9_number_79 : decode cX9_number 79 = .ok (.aload_n 0, 1) := by decide +kernel
theorem dX9_number_80 : decode cX9_number 80 = .ok (.invokevirtual 258, 3) := by decide +kernel
theorem dX9_number_83 : decode cX9_number 83 = .ok (.ireturn, 1) := by decide +kernel
theorem dX9_number_84 : decode cX9_number 84 = .ok (.aload_n 0, 1) := by decide +kernel
theorem dX9_number_85 : decode cX9_number 85 = .ok (.invokevirtual 129, 3) := by decide +kernel
theorem dX9_number_88 : decode cX9_number 88 = .ok (.ireturn, 1) := by decide +kernel
theorem dX9_number_89 : decode cX9_number 89 = .ok (.aload_n 0, 1) := by decide +kernel
theorem dX9_number_90 : decode cX9_number 90 = .ok (.invokevirtual 261, 3) := by decide +kernel
theorem dX9_number_93 : decode cX9_number 93 = .ok (.ireturn, 1) := by decide +kernel
theorem dX9_number_94 : decode cX9_number 94 = .ok (.aload_n 0, 1) := by decide +kernel
theorem dX9_number_95 : decode cX9_number 95 = .ok (.getfield 55, 3) := by decide +kernel
theorem dX9_number_98 : decode cX9_number 98 = .ok (.ireturn, 1) := by decide +kernel
theorem dX9_number_99 : decode cX9_number 99 = .ok (.aload_n 0, 1) := by decide +kernel
theorem dX9_number_100 : decode cX9_number 100 = .ok (.getfield 58, 3) := by decide +kernel
theorem dX9_number_103 : decode cX9_number 103 = .ok (.ireturn, 1) := by decide +kernel
theorem dX9_number_104 : decode cX9_number 104 = .ok (.aload_n 0, 1) := by decide +kernel
theorem dX9_number_105 : decode cX9_number 105 = .ok (.getfield 13, 3) := by decide +kernel
theorem dX9_number_108 : decode cX9_number 108 = .ok (.ireturn, 1) := by decide +kernel
theorem dX9_number_109 : decode cX9_number 109 = .ok (.aload_n 0, 1) := by decide +kernel
theorem dX9_number_110 : decode cX9_number 110 = .ok (.getfield 17, 3) := by decide +kernel
theorem dX9_number_113 : decode cX9_number 113 = .ok (.ireturn, 1) := by decide +kernel
theorem dX9_number_114 : decode cX9_number 114 = .ok (.aload_n 0, 1) := by decide +kernel
theorem dX9_number_115 : decode cX9_number 115 = .ok (.getfield 182, 3) := by decide +kernel
theorem dX9_number_118 : decode cX9_number 118 = .ok (.ireturn, 1) := by decide +kernel
theorem dX9_number_119 : decode cX9_number 119 = .ok (.aload_n 0, 1) := by decide +kernel
theorem dX9_number_120 : decode cX9_number 120 = .ok (.getfield 189, 3) := by decide +kernel
theorem dX9_number_123 : decode cX9_number 123 = .ok (.ireturn, 1) := by decide +kernel
theorem dX9_number_124 : decode cX9_number 124 = .ok (.aload_n 0, 1) := by decide +kernel
theorem dX9_number_125 : decode cX9_number 125 = .ok (.invokevirtual 264, 3) := by decide +kernel
theorem dX9_number_128 : decode cX9_number 128 = .ok (.ireturn, 1) := by decide +kernel
theorem dX9_count_0 : decode cX9_count 0 = .ok (.aload_n 0, 1) := by decide +kernel
theorem dX9_count_1 : decode cX9_count 1 = .ok (.invokevirtual 83, 3) := by decide +kernel
theorem dX9_count_4 : decode cX9_count 4 = .ok (.iload_n 1, 1) := by decide +kernel
theorem dX9_count_5 : decode cX9_count 5 = .ok (.i2l, 1) := by decide +kernel
theorem dX9_count_6 : decode cX9_count 6 = .ok (.lconst 0, 1) := by decide +kernel
theorem dX9_count_7 : decode cX9_count 7 = .ok (.ldc2_w 267, 3) := by decide +kernel
theorem dX9_count_10 : decode cX9_count 10 = .ok (.invokestatic 51, 3) := by decide +kernel
theorem dX9_count_13 : decode cX9_count 13 = .ok (.ifCond .eq 11, 3) := by decide +kernel
theorem dX9_count_16 : decode cX9_count 16 = .ok (.aload_n 0, 1) := by decide +kernel
theorem dX9_count_17 : decode cX9_count 17 = .ok (.iload_n 1, 1) := by decide +kernel
theorem dX9_count_18 : decode cX9_count 18 = .ok (.invokevirtual 269, 3) := by decide +kernel
theorem dX9_count_21 : decode cX9_count 21 = .ok (.goto 5, 3) := by decide +kernel
theorem dX9_count_24 : decode cX9_count 24 = .ok (.bipush (-2), 2) := by decide +kernel
theorem dX9_count_26 : decode cX9_count 26 = .ok (.ireturn, 1) := by decide +kernel
theorem dX9_mixes_0 : decode cX9_mixes 0 = .ok (.aload_n 0, 1) := by decide +kernel
theorem dX9_mixes_1 : decode cX9_mixes 1 = .ok (.ldc2_w 272, 3) := by decide +kernel
theorem dX9_mixes_4 : decode cX9_mixes 4 = .ok (.aload_n 0, 1) := by decide +kernel
theorem dX9_mixes_5 : decode cX9_mixes 5 = .ok (.getfield 274, 3) := by decide +kernel
theorem dX9_mixes_8 : decode cX9_mixes 8 = .ok (.lmul, 1) := by decide +kernel
theorem dX9_mixes_9 : decode cX9_mixes 9 = .ok (.lload_n 1, 1) := by decide +kernel
theorem dX9_mixes_10 : decode cX9_mixes 10 = .ok (.ladd, 1) := by decide +kernel
theorem dX9_mixes_11 : decode cX9_mixes 11 = .ok (.putfield 274, 3) := by decide +kernel
theorem dX9_mixes_14 : decode cX9_mixes 14 = .ok (.return_, 1) := by decide +kernel
set_option maxHeartbeats 4000000 in
set_option maxRecDepth 100000 in
theorem qM_command_J94_ok {σ : QS} {s0 : Int32} {r : Int32} (h : qM_command_J94 σ s0 = some r) : qx_E (qx_gM l D ci a) 2 mX9_command (some (.int r), σ) 94 [(0, .ref (a 0))] [.int s0] σ := by
  unfold qM_command_J94 at h
  refine qx_istore_n (pc := 94) (lv' := [(1, .int s0), (0, .ref (a 0))]) dX9_command_94 (Nat.le_of_ble_eq_true rfl) rfl ?_
  refine qx_aload_n (pc := 95) 1 dX9_command_95 rfl ?_
  refine qx_bipush (pc := 96) 105 dX9_command_96 (by decide) ?_
  refine qx_bipush (pc := 98) 109 dX9_command_98 (by decide) ?_
  refine qx_bipush (pc := 100) 112 dX9_command_100 (by decide) ?_
  refine qx_bipush (pc := 102) 114 dX9_command_102 (by decide) ?_
  refine qx_bipush (pc := 104) 111 dX9_command_104 (by decide) ?_
  refine qx_bipush (pc := 106) 118 dX9_command_106 (by decide) ?_
  refine qx_bipush (pc := 108) 101 dX9_command_108 (by decide) ?_
  obtain ⟨r1, hr1, h⟩ := qx_bindE h
  refine qx_callVi (pc := 110) 0 r1 σ [.int 105, .int 109, .int 112, .int 114, .int 111, .int 118, .int 101] [] rfl rfl rfl qcm_X9_isWord qcv_X9_isWord qwm_X9_208 rfl (Nat.le_of_ble_eq_true rfl) (Nat.le_of_ble_eq_true rfl) (by decide) dX9_command_110 (qM_isWord_ok hr1) ?_
  refine qx_if_eq (pc := 113) 120 h dX9_command_113 (by decide) (fun h => ?_) (fun h => ?_)
  · refine qx_aload_n (pc := 120) 1 dX9_command_120 rfl ?_
    refine qx_bipush (pc := 121) 104 dX9_command_121 (by decide) ?_
    refine qx_bipush (pc := 123) 105 dX9_command_123 (by decide) ?_
    refine qx_bipush (pc := 125) 100 dX9_command_125 (by decide) ?_
    refine qx_bipush (pc := 127) 101 dX9_command_127 (by decide) ?_
    refine qx_iconst (pc := 129) 0 dX9_command_129 (by decide) ?_
    refine qx_iconst (pc := 130) 0 dX9_command_130 (by decide) ?_
    refine qx_iconst (pc := 131) 0 dX9_command_131 (by decide) ?_
    obtain ⟨r2, hr2, h⟩ := qx_bindE h
    refine qx_callVi (pc := 132) 0 r2 σ [.int 104, .int 105, .int 100, .int 101, .int 0, .int 0, .int 0] [] rfl rfl rfl qcm_X9_isWord qcv_X9_isWord qwm_X9_208 rfl (Nat.le_of_ble_eq_true rfl) (Nat.le_of_ble_eq_true rfl) (by decide) dX9_command_132 (qM_isWord_ok hr2) ?_
    refine qx_if_eq (pc := 135) 142 h dX9_command_135 (by decide) (fun h => ?_) (fun h => ?_)
    · refine qx_iload_n (pc := 142) 0 dX9_command_142 rfl ?_
      exact qx_iret h rfl dX9_command_143
    · refine qx_iconst (pc := 138) 5 dX9_command_138 (by decide) ?_
      refine qx_goto (pc := 139) 143 dX9_command_139 (by decide) ?_
      exact qx_iret h rfl dX9_command_143
  · refine qx_iconst (pc := 116) 4 dX9_command_116 (by decide) ?_
    refine qx_goto (pc := 117) 143 dX9_command_117 (by decide) ?_
    exact qx_iret h rfl dX9_command_143
set_option maxHeartbeats 4000000 in
set_option maxRecDepth 100000 in
theorem qM_command_J48_ok {σ : QS} {s0 : Int32} {r : Int32} (h : qM_command_J48 σ s0 = some r) : qx_E (qx_gM l D ci a) 2 mX9_command (some (.int r), σ) 48 [(0, .ref (a 0))] [.int s0] σ := by
  unfold qM_command_J48 at h
  refine qx_istore_n (pc := 48) (lv' := [(1, .int s0), (0, .ref (a 0))]) dX9_command_48 (Nat.le_of_ble_eq_true rfl) rfl ?_
  refine qx_aload_n (pc := 49) 1 dX9_command_49 rfl ?_
  refine qx_bipush (pc := 50) 112 dX9_command_50 (by decide) ?_
  refine qx_bipush (pc := 52) 97 dX9_command_52 (by decide) ?_
  refine qx_bipush (pc := 54) 110 dX9_command_54 (by decide) ?_
  refine qx_iconst (pc := 56) 0 dX9_command_56 (by decide) ?_
  refine qx_iconst (pc := 57) 0 dX9_command_57 (by decide) ?_
  refine qx_iconst (pc := 58) 0 dX9_command_58 (by decide) ?_
  refine qx_iconst (pc := 59) 0 dX9_command_59 (by decide) ?_
  obtain ⟨r3, hr3, h⟩ := qx_bindE h
  refine qx_callVi (pc := 60) 0 r3 σ [.int 112, .int 97, .int 110, .int 0, .int 0, .int 0, .int 0] [] rfl rfl rfl qcm_X9_isWord qcv_X9_isWord qwm_X9_208 rfl (Nat.le_of_ble_eq_true rfl) (Nat.le_of_ble_eq_true rfl) (by decide) dX9_command_60 (qM_isWord_ok hr3) ?_
  refine qx_if_eq (pc := 63) 70 h dX9_command_63 (by decide) (fun h => ?_) (fun h => ?_)
  · refine qx_aload_n (pc := 70) 1 dX9_command_70 rfl ?_
    refine qx_bipush (pc := 71) 108 dX9_command_71 (by decide) ?_
    refine qx_bipush (pc := 73) 97 dX9_command_73 (by decide) ?_
    refine qx_bipush (pc := 75) 98 dX9_command_75 (by decide) ?_
    refine qx_bipush (pc := 77) 101 dX9_command_77 (by decide) ?_
    refine qx_bipush (pc := 79) 108 dX9_command_79 (by decide) ?_
    refine qx_iconst (pc := 81) 0 dX9_command_81 (by decide) ?_
    refine qx_iconst (pc := 82) 0 dX9_command_82 (by decide) ?_
    obtain ⟨r4, hr4, h⟩ := qx_bindE h
    refine qx_callVi (pc := 83) 0 r4 σ [.int 108, .int 97, .int 98, .int 101, .int 108, .int 0, .int 0] [] rfl rfl rfl qcm_X9_isWord qcv_X9_isWord qwm_X9_208 rfl (Nat.le_of_ble_eq_true rfl) (Nat.le_of_ble_eq_true rfl) (by decide) dX9_command_83 (qM_isWord_ok hr4) ?_
    refine qx_if_eq (pc := 86) 93 h dX9_command_86 (by decide) (fun h => ?_) (fun h => ?_)
    · refine qx_iload_n (pc := 93) 0 dX9_command_93 rfl ?_
      exact qx_sub [1] rfl (qM_command_J94_ok h)
    · refine qx_iconst (pc := 89) 3 dX9_command_89 (by decide) ?_
      refine qx_goto (pc := 90) 94 dX9_command_90 (by decide) ?_
      exact qx_sub [1] rfl (qM_command_J94_ok h)
  · refine qx_iconst (pc := 66) 2 dX9_command_66 (by decide) ?_
    refine qx_goto (pc := 67) 94 dX9_command_67 (by decide) ?_
    exact qx_sub [1] rfl (qM_command_J94_ok h)
set_option maxHeartbeats 4000000 in
set_option maxRecDepth 100000 in
theorem qM_command_ok {σ : QS} {r : Int32} (h : qM_command σ = some r) : qx_E (qx_gM l D ci a) 2 mX9_command (some (.int r), σ) 0 [(0, .ref (a 0))] [] σ := by
  unfold qM_command at h
  refine qx_aload_n (pc := 0) 0 dX9_command_0 rfl ?_
  refine qx_bipush (pc := 1) 112 dX9_command_1 (by decide) ?_
  refine qx_bipush (pc := 3) 111 dX9_command_3 (by decide) ?_
  refine qx_bipush (pc := 5) 105 dX9_command_5 (by decide) ?_
  refine qx_bipush (pc := 7) 110 dX9_command_7 (by decide) ?_
  refine qx_bipush (pc := 9) 116 dX9_command_9 (by decide) ?_
  refine qx_iconst (pc := 11) 0 dX9_command_11 (by decide) ?_
  refine qx_iconst (pc := 12) 0 dX9_command_12 (by decide) ?_
  obtain ⟨r5, hr5, h⟩ := qx_bindE h
  refine qx_callVi (pc := 13) 0 r5 σ [.int 112, .int 111, .int 105, .int 110, .int 116, .int 0, .int 0] [] rfl rfl rfl qcm_X9_isWord qcv_X9_isWord qwm_X9_208 rfl (Nat.le_of_ble_eq_true rfl) (Nat.le_of_ble_eq_true rfl) (by decide) dX9_command_13 (qM_isWord_ok hr5) ?_
  refine qx_if_eq (pc := 16) 23 h dX9_command_16 (by decide) (fun h => ?_) (fun h => ?_)
  · refine qx_aload_n (pc := 23) 0 dX9_command_23 rfl ?_
    refine qx_bipush (pc := 24) 119 dX9_command_24 (by decide) ?_
    refine qx_bipush (pc := 26) 105 dX9_command_26 (by decide) ?_
    refine qx_bipush (pc := 28) 110 dX9_command_28 (by decide) ?_
    refine qx_bipush (pc := 30) 100 dX9_command_30 (by decide) ?_
    refine qx_bipush (pc := 32) 111 dX9_command_32 (by decide) ?_
    refine qx_bipush (pc := 34) 119 dX9_command_34 (by decide) ?_
    refine qx_iconst (pc := 36) 0 dX9_command_36 (by decide) ?_
    obtain ⟨r6, hr6, h⟩ := qx_bindE h
    refine qx_callVi (pc := 37) 0 r6 σ [.int 119, .int 105, .int 110, .int 100, .int 111, .int 119, .int 0] [] rfl rfl rfl qcm_X9_isWord qcv_X9_isWord qwm_X9_208 rfl (Nat.le_of_ble_eq_true rfl) (Nat.le_of_ble_eq_true rfl) (by decide) dX9_command_37 (qM_isWord_ok hr6) ?_
    refine qx_if_eq (pc := 40) 47 h dX9_command_40 (by decide) (fun h => ?_) (fun h => ?_)
    · refine qx_iconst (pc := 47) (-1) dX9_command_47 (by decide) ?_
      exact (qM_command_J48_ok h)
    · refine qx_iconst (pc := 43) 1 dX9_command_43 (by decide) ?_
      refine qx_goto (pc := 44) 48 dX9_command_44 (by decide) ?_
      exact (qM_command_J48_ok h)
  · refine qx_iconst (pc := 19) 0 dX9_command_19 (by decide) ?_
    refine qx_goto (pc := 20) 48 dX9_command_20 (by decide) ?_
    exact (qM_command_J48_ok h)
set_option maxHeartbeats 4000000 in
set_option maxRecDepth 100000 in
theorem qM_readsNumber_J93_ok {σ : QS} {x2 : Int32} {r : Int32 × QS} (h : qM_readsNumber_J93 σ x2 = some r) : qx_E (qx_gM l D ci a) 3 mX9_readsNumber (some (.int r.1), r.2) 93 [(0, .ref (a 0)), (2, .int x2)] [] σ := by
  unfold qM_readsNumber_J93 at h
  refine qx_aload_n (pc := 93) 0 dX9_readsNumber_93 rfl ?_
  obtain ⟨r1, hr1, h⟩ := qx_bindE h
  refine qx_callVv (pc := 94) 0 r1 [] [] rfl rfl rfl qcm_X9_skips qcv_X9_skips qwm_X9_220 rfl (Nat.le_of_ble_eq_true rfl) (Nat.le_of_ble_eq_true rfl) (by decide) dX9_readsNumber_94 (qM_skips_ok hr1) ?_
  refine qx_iload_n (pc := 97) 1 dX9_readsNumber_97 rfl ?_
  exact qx_iretS h rfl dX9_readsNumber_98
set_option maxHeartbeats 4000000 in
set_option maxRecDepth 100000 in
theorem qM_readsNumber_J85_ok {σ : QS} {x2 : Int32} {r : Int32 × QS} (h : qM_readsNumber_J85 σ x2 = some r) : qx_E (qx_gM l D ci a) 3 mX9_readsNumber (some (.int r.1), r.2) 85 [(0, .ref (a 0)), (2, .int x2)] [] σ := by
  unfold qM_readsNumber_J85 at h
  refine qx_aload_n (pc := 85) 0 dX9_readsNumber_85 rfl ?_
  refine qx_aload_n (pc := 86) 0 dX9_readsNumber_86 rfl ?_
  refine qgM0_15 (pc := 87) qwf_X9_192 dX9_readsNumber_87 ?_
  obtain ⟨r2, hr2, h⟩ := qx_bindE h
  refine qx_callVv (pc := 90) 0 r2 [.int (σ.1 0 15)] [] rfl rfl rfl qcm_X9_fails qcv_X9_fails qwm_X9_216 rfl (Nat.le_of_ble_eq_true rfl) (Nat.le_of_ble_eq_true rfl) (by decide) dX9_readsNumber_90 (qM_fails_ok hr2) ?_
  exact (qM_readsNumber_J93_ok h)
set_option maxHeartbeats 4000000 in
set_option maxRecDepth 100000 in
theorem qM_readsNumber_J60_ok {σ : QS} {x1 : Int32} {x2 : Int32} {r : Int32 × QS} (h : qM_readsNumber_J60 σ x1 x2 = some r) : qx_E (qx_gM l D ci a) 3 mX9_readsNumber (some (.int r.1), r.2) 60 [(0, .ref (a 0)), (1, .int x1), (2, .int x2)] [] σ := by
  unfold qM_readsNumber_J60 at h
  refine qx_aload_n (pc := 60) 0 dX9_readsNumber_60 rfl ?_
  refine qgM0_15 (pc := 61) qwf_X9_192 dX9_readsNumber_61 ?_
  refine qx_iload_n (pc := 64) 1 dX9_readsNumber_64 rfl ?_
  refine qx_icmp_eq (pc := 65) 85 h dX9_readsNumber_65 (by decide) (fun h => ?_) (fun h => ?_)
  · exact qx_sub [0, 2] rfl (qM_readsNumber_J85_ok h)
  · refine qx_aload_n (pc := 68) 0 dX9_readsNumber_68 rfl ?_
    obtain ⟨r3, hr3, h⟩ := qx_bindE h
    refine qx_callVi (pc := 69) 0 r3 σ [] [] rfl rfl rfl qcm_X9_next qcv_X9_next qwm_X9_195 rfl (Nat.le_of_ble_eq_true rfl) (Nat.le_of_ble_eq_true rfl) (by decide) dX9_readsNumber_69 (qM_next_ok hr3) ?_
    refine qx_i2l (pc := 72) dX9_readsNumber_72 ?_
    refine qx_ldc2 (pc := 73) 48 dX9_readsNumber_73 qwc_X9_212 ?_
    refine qx_ldc2 (pc := 76) 57 dX9_readsNumber_76 qwc_X9_214 ?_
    obtain ⟨r4, hr4, h⟩ := qx_bindE h
    refine qx_callSi (pc := 79) r4 σ [.long (r3.toInt64), .long 48, .long 57] [] rfl qcm_X9_in qcs_X9_in qwm_X9_51 rfl (Nat.le_of_ble_eq_true rfl) (Nat.le_of_ble_eq_true rfl) (by decide) dX9_readsNumber_79 (qM_in_ok hr4) ?_
    refine qx_if_eq (pc := 82) 93 h dX9_readsNumber_82 (by decide) (fun h => ?_) (fun h => ?_)
    · exact qx_sub [0, 2] rfl (qM_readsNumber_J93_ok h)
    · exact qx_sub [0, 2] rfl (qM_readsNumber_J85_ok h)
set_option maxHeartbeats 4000000 in
set_option maxRecDepth 100000 in
theorem qM_readsNumber_L7_ok {x1 : Int32} : ∀ (n : Nat) (σ : QS) (x2 : Int32) (r : Int32 × QS), qM_readsNumber_L7 x1 n σ x2 = some r → qx_E (qx_gM l D ci a) 3 mX9_readsNumber (some (.int r.1), r.2) 7 [(0, .ref (a 0)), (1, .int x1), (2, .int x2)] [] σ := by
  intro n
  induction n with
  | zero =>
    intro σ x2 r h
    exact (qx_none h).elim
  | succ n ih =>
    intro σ x2 r h
    unfold qM_readsNumber_L7 at h
    refine qx_aload_n (pc := 7) 0 dX9_readsNumber_7 rfl ?_
    refine qgM0_15 (pc := 8) qwf_X9_192 dX9_readsNumber_8 ?_
    refine qx_iload_n (pc := 11) 1 dX9_readsNumber_11 rfl ?_
    refine qx_iconst (pc := 12) 3 dX9_readsNumber_12 (by decide) ?_
    refine qx_iadd (pc := 13) dX9_readsNumber_13 ?_
    refine qx_icmp_ge (pc := 14) 60 h dX9_readsNumber_14 (by decide) (fun h => ?_) (fun h => ?_)
    · exact (qM_readsNumber_J60_ok h)
    · refine qx_aload_n (pc := 17) 0 dX9_readsNumber_17 rfl ?_
      obtain ⟨r5, hr5, h⟩ := qx_bindE h
      refine qx_callVi (pc := 18) 0 r5 σ [] [] rfl rfl rfl qcm_X9_next qcv_X9_next qwm_X9_195 rfl (Nat.le_of_ble_eq_true rfl) (Nat.le_of_ble_eq_true rfl) (by decide) dX9_readsNumber_18 (qM_next_ok hr5) ?_
      refine qx_i2l (pc := 21) dX9_readsNumber_21 ?_
      refine qx_ldc2 (pc := 22) 48 dX9_readsNumber_22 qwc_X9_212 ?_
      refine qx_ldc2 (pc := 25) 57 dX9_readsNumber_25 qwc_X9_214 ?_
      obtain ⟨r6, hr6, h⟩ := qx_bindE h
      refine qx_callSi (pc := 28) r6 σ [.long (r5.toInt64), .long 48, .long 57] [] rfl qcm_X9_in qcs_X9_in qwm_X9_51 rfl (Nat.le_of_ble_eq_true rfl) (Nat.le_of_ble_eq_true rfl) (by decide) dX9_readsNumber_28 (qM_in_ok hr6) ?_
      refine qx_if_eq (pc := 31) 60 h dX9_readsNumber_31 (by decide) (fun h => ?_) (fun h => ?_)
      · exact (qM_readsNumber_J60_ok h)
      · refine qx_bipush (pc := 34) 10 dX9_readsNumber_34 (by decide) ?_
        refine qx_iload_n (pc := 36) 2 dX9_readsNumber_36 rfl ?_
        refine qx_imul (pc := 37) dX9_readsNumber_37 ?_
        refine qx_aload_n (pc := 38) 0 dX9_readsNumber_38 rfl ?_
        obtain ⟨r7, hr7, h⟩ := qx_bindE h
        refine qx_callVi (pc := 39) 0 r7 σ [] [.int (10 * x2)] rfl rfl rfl qcm_X9_next qcv_X9_next qwm_X9_195 rfl (Nat.le_of_ble_eq_true rfl) (Nat.le_of_ble_eq_true rfl) (by decide) dX9_readsNumber_39 (qM_next_ok hr7) ?_
        refine qx_iadd (pc := 42) dX9_readsNumber_42 ?_
        refine qx_bipush (pc := 43) 48 dX9_readsNumber_43 (by decide) ?_
        refine qx_isub (pc := 45) dX9_readsNumber_45 ?_
        refine qx_istore_n (pc := 46) (lv' := [(2, .int (((10 * x2) + r7) - 48)), (0, .ref (a 0)), (1, .int x1)]) dX9_readsNumber_46 (Nat.le_of_ble_eq_true rfl) rfl ?_
        refine qx_aload_n (pc := 47) 1 dX9_readsNumber_47 rfl ?_
        refine qx_dup (pc := 48) dX9_readsNumber_48 rfl ?_
        refine qgM0_15 (pc := 49) qwf_X9_192 dX9_readsNumber_49 ?_
        refine qx_iconst (pc := 52) 1 dX9_readsNumber_52 (by decide) ?_
        refine qx_iadd (pc := 53) dX9_readsNumber_53 ?_
        refine qpM0_15 (pc := 54) qwf_X9_192 dX9_readsNumber_54 ?_
        refine qx_goto (pc := 57) 7 dX9_readsNumber_57 (by decide) ?_
        exact qx_sub [1, 2, 0] rfl (ih _ _ _ h)
set_option maxHeartbeats 4000000 in
set_option maxRecDepth 100000 in
theorem qM_readsNumber_ok {σ : QS} {r : Int32 × QS} (h : qM_readsNumber σ = some r) : qx_E (qx_gM l D ci a) 3 mX9_readsNumber (some (.int r.1), r.2) 0 [(0, .ref (a 0))] [] σ := by
  unfold qM_readsNumber at h
  refine qx_aload_n (pc := 0) 0 dX9_readsNumber_0 rfl ?_
  refine qgM0_15 (pc := 1) qwf_X9_192 dX9_readsNumber_1 ?_
  refine qx_istore_n (pc := 4) (lv' := [(1, .int (σ.1 0 15)), (0, .ref (a 0))]) dX9_readsNumber_4 (Nat.le_of_ble_eq_true rfl) rfl ?_
  refine qx_iconst (pc := 5) 0 dX9_readsNumber_5 (by decide) ?_
  refine qx_istore_n (pc := 6) (lv' := [(2, .int 0), (1, .int (σ.1 0 15)), (0, .ref (a 0))]) dX9_readsNumber_6 (Nat.le_of_ble_eq_true rfl) rfl ?_
  exact qx_sub [2, 1, 0] rfl (qM_readsNumber_L7_ok qx_F _ _ _ h)
set_option maxHeartbeats 4000000 in
set_option maxRecDepth 100000 in
theorem qM_readsWhole_J33_ok {σ : QS} {x1 : Int32} {r : Int32 × QS} (h : qM_readsWhole_J33 σ x1 = some r) : qx_E (qx_gM l D ci a) 4 mX9_readsWhole (some (.int r.1), r.2) 33 [(0, .ref (a 0)), (1, .int x1)] [] σ := by
  unfold qM_readsWhole_J33 at h
  refine qx_aload_n (pc := 33) 0 dX9_readsWhole_33 rfl ?_
  obtain ⟨r1, hr1, h⟩ := qx_bindE h
  refine qx_callVi (pc := 34) 0 r1.1 r1.2 [] [] rfl rfl rfl qcm_X9_readsNumber qcv_X9_readsNumber qwm_X9_223 rfl (Nat.le_of_ble_eq_true rfl) (Nat.le_of_ble_eq_true rfl) (by decide) dX9_readsWhole_34 (qM_readsNumber_ok hr1) ?_
  refine qx_istore_n (pc := 37) (lv' := [(2, .int (r1.1)), (0, .ref (a 0)), (1, .int x1)]) dX9_readsWhole_37 (Nat.le_of_ble_eq_true rfl) rfl ?_
  refine qx_iload_n (pc := 38) 2 dX9_readsWhole_38 rfl ?_
  refine qx_if_eq (pc := 39) 47 h dX9_readsWhole_39 (by decide) (fun h => ?_) (fun h => ?_)
  · refine qx_iload_n (pc := 47) 0 dX9_readsWhole_47 rfl ?_
    exact qx_iretS h rfl dX9_readsWhole_48
  · refine qx_iload_n (pc := 42) 0 dX9_readsWhole_42 rfl ?_
    refine qx_ineg (pc := 43) dX9_readsWhole_43 ?_
    refine qx_goto (pc := 44) 48 dX9_readsWhole_44 (by decide) ?_
    exact qx_iretS h rfl dX9_readsWhole_48
set_option maxHeartbeats 4000000 in
set_option maxRecDepth 100000 in
theorem qM_readsWhole_J14_ok {σ : QS} {s0 : Int32} {r : Int32 × QS} (h : qM_readsWhole_J14 σ s0 = some r) : qx_E (qx_gM l D ci a) 4 mX9_readsWhole (some (.int r.1), r.2) 14 [(0, .ref (a 0))] [.int s0] σ := by
  unfold qM_readsWhole_J14 at h
  refine qx_istore_n (pc := 14) (lv' := [(1, .int s0), (0, .ref (a 0))]) dX9_readsWhole_14 (Nat.le_of_ble_eq_true rfl) rfl ?_
  refine qx_iload_n (pc := 15) 0 dX9_readsWhole_15 rfl ?_
  refine qx_if_eq (pc := 16) 33 h dX9_readsWhole_16 (by decide) (fun h => ?_) (fun h => ?_)
  · exact qx_sub [1, 0] rfl (qM_readsWhole_J33_ok h)
  · refine qx_aload_n (pc := 19) 1 dX9_readsWhole_19 rfl ?_
    refine qx_dup (pc := 20) dX9_readsWhole_20 rfl ?_
    refine qgM0_15 (pc := 21) qwf_X9_192 dX9_readsWhole_21 ?_
    refine qx_iconst (pc := 24) 1 dX9_readsWhole_24 (by decide) ?_
    refine qx_iadd (pc := 25) dX9_readsWhole_25 ?_
    refine qpM0_15 (pc := 26) qwf_X9_192 dX9_readsWhole_26 ?_
    refine qx_aload_n (pc := 29) 1 dX9_readsWhole_29 rfl ?_
    obtain ⟨r2, hr2, h⟩ := qx_bindE h
    refine qx_callVv (pc := 30) 0 r2 [] [] rfl rfl rfl qcm_X9_skips qcv_X9_skips qwm_X9_220 rfl (Nat.le_of_ble_eq_true rfl) (Nat.le_of_ble_eq_true rfl) (by decide) dX9_readsWhole_30 (qM_skips_ok hr2) ?_
    exact qx_sub [1, 0] rfl (qM_readsWhole_J33_ok h)
set_option maxHeartbeats 4000000 in
set_option maxRecDepth 100000 in
theorem qM_readsWhole_ok {σ : QS} {r : Int32 × QS} (h : qM_readsWhole σ = some r) : qx_E (qx_gM l D ci a) 4 mX9_readsWhole (some (.int r.1), r.2) 0 [(0, .ref (a 0))] [] σ := by
  unfold qM_readsWhole at h
  refine qx_aload_n (pc := 0) 0 dX9_readsWhole_0 rfl ?_
  obtain ⟨r3, hr3, h⟩ := qx_bindE h
  refine qx_callVi (pc := 1) 0 r3 σ [] [] rfl rfl rfl qcm_X9_next qcv_X9_next qwm_X9_195 rfl (Nat.le_of_ble_eq_true rfl) (Nat.le_of_ble_eq_true rfl) (by decide) dX9_readsWhole_1 (qM_next_ok hr3) ?_
  refine qx_bipush (pc := 4) 45 dX9_readsWhole_4 (by decide) ?_
  refine qx_icmp_ne (pc := 6) 13 h dX9_readsWhole_6 (by decide) (fun h => ?_) (fun h => ?_)
  · refine qx_iconst (pc := 13) 0 dX9_readsWhole_13 (by decide) ?_
    exact (qM_readsWhole_J14_ok h)
  · refine qx_iconst (pc := 9) 1 dX9_readsWhole_9 (by decide) ?_
    refine qx_goto (pc := 10) 14 dX9_readsWhole_10 (by decide) ?_
    exact (qM_readsWhole_J14_ok h)
set_option maxHeartbeats 4000000 in
set_option maxRecDepth 100000 in
theorem qM_reads_J134_ok {σ : QS} {x2 : Int32} {r : Int32 × QS} (h : qM_reads_J134 σ x2 = some r) : qx_E (qx_gM l D ci a) 5 mX9_reads (some (.int r.1), r.2) 134 [(0, .ref (a 0)), (2, .int x2)] [] σ := by
  unfold qM_reads_J134 at h
  refine qx_aload_n (pc := 134) 0 dX9_reads_134 rfl ?_
  refine qgM0_15 (pc := 135) qwf_X9_192 dX9_reads_135 ?_
  refine qx_aload_n (pc := 138) 0 dX9_reads_138 rfl ?_
  refine qgM0_14 (pc := 139) qwf_X9_189 dX9_reads_139 ?_
  refine qx_icmp_ge (pc := 142) 153 h dX9_reads_142 (by decide) (fun h => ?_) (fun h => ?_)
  · refine qx_iload_n (pc := 153) 1 dX9_reads_153 rfl ?_
    exact qx_iretS h rfl dX9_reads_154
  · refine qx_aload_n (pc := 145) 0 dX9_reads_145 rfl ?_
    refine qx_aload_n (pc := 146) 0 dX9_reads_146 rfl ?_
    refine qgM0_15 (pc := 147) qwf_X9_192 dX9_reads_147 ?_
    obtain ⟨r1, hr1, h⟩ := qx_bindE h
    refine qx_callVv (pc := 150) 0 r1 [.int (σ.1 0 15)] [] rfl rfl rfl qcm_X9_fails qcv_X9_fails qwm_X9_216 rfl (Nat.le_of_ble_eq_true rfl) (Nat.le_of_ble_eq_true rfl) (by decide) dX9_reads_150 (qM_fails_ok hr1) ?_
    refine qx_iload_n (pc := 153) 1 dX9_reads_153 rfl ?_
    exact qx_iretS h rfl dX9_reads_154
set_option maxHeartbeats 4000000 in
set_option maxRecDepth 100000 in
theorem qM_reads_L98_ok {x2 : Int32} : ∀ (n : Nat) (σ : QS) (x4 : Int32) (r : Int32 × QS), qM_reads_L98 x2 n σ x4 = some r → qx_E (qx_gM l D ci a) 5 mX9_reads (some (.int r.1), r.2) 98 [(0, .ref (a 0)), (2, .int x2), (4, .int x4)] [] σ := by
  intro n
  induction n with
  | zero =>
    intro σ x4 r h
    exact (qx_none h).elim
  | succ n ih =>
    intro σ x4 r h
    unfold qM_reads_L98 at h
    refine qx_iload (pc := 98) 2 dX9_reads_98 rfl ?_
    refine qx_iconst (pc := 100) 2 dX9_reads_100 (by decide) ?_
    refine qx_icmp_ge (pc := 101) 134 h dX9_reads_101 (by decide) (fun h => ?_) (fun h => ?_)
    · exact qx_sub [0, 1] rfl (qM_reads_J134_ok h)
    · refine qx_iload_n (pc := 104) 1 dX9_reads_104 rfl ?_
      refine qx_iconst (pc := 105) 2 dX9_reads_105 (by decide) ?_
      refine qx_icmp_ne (pc := 106) 134 h dX9_reads_106 (by decide) (fun h => ?_) (fun h => ?_)
      · exact qx_sub [0, 1] rfl (qM_reads_J134_ok h)
      · refine qx_aload_n (pc := 109) 0 dX9_reads_109 rfl ?_
        refine qgM0_16 (pc := 110) qwf_X9_198 dX9_reads_110 ?_
        refine qx_iconst (pc := 113) (-1) dX9_reads_113 (by decide) ?_
        refine qx_icmp_ne (pc := 114) 134 h dX9_reads_114 (by decide) (fun h => ?_) (fun h => ?_)
        · exact qx_sub [0, 1] rfl (qM_reads_J134_ok h)
        · refine qx_aload_n (pc := 117) 0 dX9_reads_117 rfl ?_
          refine qgM0_19 (pc := 118) qwf_X9_45 dX9_reads_118 ?_
          refine qx_iload (pc := 121) 2 dX9_reads_121 rfl ?_
          refine qx_aload_n (pc := 123) 0 dX9_reads_123 rfl ?_
          obtain ⟨r2, hr2, h⟩ := qx_bindE h
          refine qx_callVi (pc := 124) 0 r2.1 r2.2 [] [.int x4, .ref (a 10)] rfl rfl rfl qcm_X9_readsWhole qcv_X9_readsWhole qwm_X9_232 rfl (Nat.le_of_ble_eq_true rfl) (Nat.le_of_ble_eq_true rfl) (by decide) dX9_reads_124 (qM_readsWhole_ok hr2) ?_
          refine qsM10 (pc := 127) h dX9_reads_127 (fun h => ?_)
          refine qx_iinc (pc := 128) (lv' := [(4, .int (x4 + 1)), (0, .ref (a 0)), (2, .int x2)]) 2 (x4 + 1) dX9_reads_128 rfl rfl (Nat.le_of_ble_eq_true rfl) rfl ?_
          refine qx_goto (pc := 131) 98 dX9_reads_131 (by decide) ?_
          exact qx_sub [1, 2, 0] rfl (ih _ _ _ h)
set_option maxHeartbeats 4000000 in
set_option maxRecDepth 100000 in
theorem qM_reads_L64_ok {x2 : Int32} {x3 : Int32} : ∀ (n : Nat) (σ : QS) (x4 : Int32) (r : Int32 × QS), qM_reads_L64 x2 x3 n σ x4 = some r → qx_E (qx_gM l D ci a) 5 mX9_reads (some (.int r.1), r.2) 64 [(0, .ref (a 0)), (2, .int x2), (3, .int x3), (4, .int x4)] [] σ := by
  intro n
  induction n with
  | zero =>
    intro σ x4 r h
    exact (qx_none h).elim
  | succ n ih =>
    intro σ x4 r h
    unfold qM_reads_L64 at h
    refine qx_iload (pc := 64) 3 dX9_reads_64 rfl ?_
    refine qx_iload_n (pc := 66) 2 dX9_reads_66 rfl ?_
    refine qx_icmp_ge (pc := 67) 95 h dX9_reads_67 (by decide) (fun h => ?_) (fun h => ?_)
    · refine qx_iconst (pc := 95) 0 dX9_reads_95 (by decide) ?_
      refine qx_istore (pc := 96) (lv' := [(4, .int 0), (0, .ref (a 0)), (2, .int x2), (3, .int x3)]) dX9_reads_96 (Nat.le_of_ble_eq_true rfl) rfl ?_
      exact qx_sub [1, 2, 0] rfl (qM_reads_L98_ok qx_F _ _ _ h)
    · refine qx_aload_n (pc := 70) 0 dX9_reads_70 rfl ?_
      refine qgM0_16 (pc := 71) qwf_X9_198 dX9_reads_71 ?_
      refine qx_iconst (pc := 74) (-1) dX9_reads_74 (by decide) ?_
      refine qx_icmp_ne (pc := 75) 95 h dX9_reads_75 (by decide) (fun h => ?_) (fun h => ?_)
      · refine qx_iconst (pc := 95) 0 dX9_reads_95 (by decide) ?_
        refine qx_istore (pc := 96) (lv' := [(4, .int 0), (0, .ref (a 0)), (2, .int x2), (3, .int x3)]) dX9_reads_96 (Nat.le_of_ble_eq_true rfl) rfl ?_
        exact qx_sub [1, 2, 0] rfl (qM_reads_L98_ok qx_F _ _ _ h)
      · refine qx_aload_n (pc := 78) 0 dX9_reads_78 rfl ?_
        refine qgM0_19 (pc := 79) qwf_X9_45 dX9_reads_79 ?_
        refine qx_iload (pc := 82) 3 dX9_reads_82 rfl ?_
        refine qx_aload_n (pc := 84) 0 dX9_reads_84 rfl ?_
        obtain ⟨r3, hr3, h⟩ := qx_bindE h
        refine qx_callVi (pc := 85) 0 r3.1 r3.2 [] [.int x4, .ref (a 10)] rfl rfl rfl qcm_X9_readsNumber qcv_X9_readsNumber qwm_X9_223 rfl (Nat.le_of_ble_eq_true rfl) (Nat.le_of_ble_eq_true rfl) (by decide) dX9_reads_85 (qM_readsNumber_ok hr3) ?_
        refine qsM10 (pc := 88) h dX9_reads_88 (fun h => ?_)
        refine qx_iinc (pc := 89) (lv' := [(4, .int (x4 + 1)), (0, .ref (a 0)), (2, .int x2), (3, .int x3)]) 3 (x4 + 1) dX9_reads_89 rfl rfl (Nat.le_of_ble_eq_true rfl) rfl ?_
        refine qx_goto (pc := 92) 64 dX9_reads_92 (by decide) ?_
        exact qx_sub [1, 2, 3, 0] rfl (ih _ _ _ h)
set_option maxHeartbeats 4000000 in
set_option maxRecDepth 100000 in
theorem qM_reads_J38_ok {σ : QS} {x2 : Int32} {r : Int32 × QS} (h : qM_reads_J38 σ x2 = some r) : qx_E (qx_gM l D ci a) 5 mX9_reads (some (.int r.1), r.2) 38 [(0, .ref (a 0)), (2, .int x2)] [] σ := by
  unfold qM_reads_J38 at h
  refine qx_aload_n (pc := 38) 0 dX9_reads_38 rfl ?_
  obtain ⟨r4, hr4, h⟩ := qx_bindE h
  refine qx_callVv (pc := 39) 0 r4 [] [] rfl rfl rfl qcm_X9_skips qcv_X9_skips qwm_X9_220 rfl (Nat.le_of_ble_eq_true rfl) (Nat.le_of_ble_eq_true rfl) (by decide) dX9_reads_39 (qM_skips_ok hr4) ?_
  refine qx_iload_n (pc := 42) 1 dX9_reads_42 rfl ?_
  refine qx_if_ne (pc := 43) 50 h dX9_reads_43 (by decide) (fun h => ?_) (fun h => ?_)
  · refine qx_iload_n (pc := 50) 1 dX9_reads_50 rfl ?_
    refine qx_iconst (pc := 51) 1 dX9_reads_51 (by decide) ?_
    refine qx_icmp_ne (pc := 52) 59 h dX9_reads_52 (by decide) (fun h => ?_) (fun h => ?_)
    · refine qx_iconst (pc := 59) 0 dX9_reads_59 (by decide) ?_
      refine qx_istore_n (pc := 60) (lv' := [(3, .int 0), (0, .ref (a 0)), (2, .int x2)]) dX9_reads_60 (Nat.le_of_ble_eq_true rfl) rfl ?_
      refine qx_iconst (pc := 61) 0 dX9_reads_61 (by decide) ?_
      refine qx_istore (pc := 62) (lv' := [(4, .int 0), (3, .int 0), (0, .ref (a 0)), (2, .int x2)]) dX9_reads_62 (Nat.le_of_ble_eq_true rfl) rfl ?_
      exact qx_sub [2, 3, 1, 0] rfl (qM_reads_L64_ok qx_F _ _ _ h)
    · refine qx_iconst (pc := 55) 4 dX9_reads_55 (by decide) ?_
      refine qx_goto (pc := 56) 60 dX9_reads_56 (by decide) ?_
      refine qx_istore_n (pc := 60) (lv' := [(3, .int 4), (0, .ref (a 0)), (2, .int x2)]) dX9_reads_60 (Nat.le_of_ble_eq_true rfl) rfl ?_
      refine qx_iconst (pc := 61) 0 dX9_reads_61 (by decide) ?_
      refine qx_istore (pc := 62) (lv' := [(4, .int 0), (3, .int 4), (0, .ref (a 0)), (2, .int x2)]) dX9_reads_62 (Nat.le_of_ble_eq_true rfl) rfl ?_
      exact qx_sub [2, 3, 1, 0] rfl (qM_reads_L64_ok qx_F _ _ _ h)
  · refine qx_iconst (pc := 46) 5 dX9_reads_46 (by decide) ?_
    refine qx_goto (pc := 47) 60 dX9_reads_47 (by decide) ?_
    refine qx_istore_n (pc := 60) (lv' := [(3, .int 5), (0, .ref (a 0)), (2, .int x2)]) dX9_reads_60 (Nat.le_of_ble_eq_true rfl) rfl ?_
    refine qx_iconst (pc := 61) 0 dX9_reads_61 (by decide) ?_
    refine qx_istore (pc := 62) (lv' := [(4, .int 0), (3, .int 5), (0, .ref (a 0)), (2, .int x2)]) dX9_reads_62 (Nat.le_of_ble_eq_true rfl) rfl ?_
    exact qx_sub [2, 3, 1, 0] rfl (qM_reads_L64_ok qx_F _ _ _ h)
set_option maxHeartbeats 4000000 in
set_option maxRecDepth 100000 in
theorem qM_reads_ok {σ : QS} {r : Int32 × QS} (h : qM_reads σ = some r) : qx_E (qx_gM l D ci a) 5 mX9_reads (some (.int r.1), r.2) 0 [(0, .ref (a 0))] [] σ := by
  unfold qM_reads at h
  refine qx_aload_n (pc := 0) 0 dX9_reads_0 rfl ?_
  refine qx_iconst (pc := 1) 0 dX9_reads_1 (by decide) ?_
  refine qpM0_15 (pc := 2) qwf_X9_192 dX9_reads_2 ?_
  refine qx_aload_n (pc := 5) 0 dX9_reads_5 rfl ?_
  refine qx_iconst (pc := 6) (-1) dX9_reads_6 (by decide) ?_
  refine qpM0_16 (pc := 7) qwf_X9_198 dX9_reads_7 ?_
  refine qx_aload_n (pc := 10) 0 dX9_reads_10 rfl ?_
  obtain ⟨r5, hr5, h⟩ := qx_bindE h
  refine qx_callVv (pc := 11) 0 r5 [] [] rfl rfl rfl qcm_X9_skips qcv_X9_skips qwm_X9_220 rfl (Nat.le_of_ble_eq_true rfl) (Nat.le_of_ble_eq_true rfl) (by decide) dX9_reads_11 (qM_skips_ok hr5) ?_
  refine qx_aload_n (pc := 14) 0 dX9_reads_14 rfl ?_
  refine qgM0_15 (pc := 15) qwf_X9_192 dX9_reads_15 ?_
  refine qx_istore_n (pc := 18) (lv' := [(1, .int (r5.1 0 15)), (0, .ref (a 0))]) dX9_reads_18 (Nat.le_of_ble_eq_true rfl) rfl ?_
  refine qx_aload_n (pc := 19) 1 dX9_reads_19 rfl ?_
  obtain ⟨r6, hr6, h⟩ := qx_bindE h
  refine qx_callVv (pc := 20) 0 r6 [] [] rfl rfl rfl qcm_X9_readsWord qcv_X9_readsWord qwm_X9_226 rfl (Nat.le_of_ble_eq_true rfl) (Nat.le_of_ble_eq_true rfl) (by decide) dX9_reads_20 (qM_readsWord_ok hr6) ?_
  refine qx_aload_n (pc := 23) 1 dX9_reads_23 rfl ?_
  obtain ⟨r7, hr7, h⟩ := qx_bindE h
  refine qx_callVi (pc := 24) 0 r7 r6 [] [] rfl rfl rfl qcm_X9_command qcv_X9_command qwm_X9_229 rfl (Nat.le_of_ble_eq_true rfl) (Nat.le_of_ble_eq_true rfl) (by decide) dX9_reads_24 (qM_command_ok hr7) ?_
  refine qx_istore_n (pc := 27) (lv' := [(2, .int r7), (1, .int (r5.1 0 15)), (0, .ref (a 0))]) dX9_reads_27 (Nat.le_of_ble_eq_true rfl) rfl ?_
  refine qx_iload_n (pc := 28) 0 dX9_reads_28 rfl ?_
  refine qx_iconst (pc := 29) (-1) dX9_reads_29 (by decide) ?_
  refine qx_icmp_ne (pc := 30) 38 h dX9_reads_30 (by decide) (fun h => ?_) (fun h => ?_)
  · exact qx_sub [2, 0] rfl (qM_reads_J38_ok h)
  · refine qx_aload_n (pc := 33) 2 dX9_reads_33 rfl ?_
    refine qx_iload_n (pc := 34) 1 dX9_reads_34 rfl ?_
    obtain ⟨r8, hr8, h⟩ := qx_bindE h
    refine qx_callVv (pc := 35) 0 r8 [.int (r5.1 0 15)] [] rfl rfl rfl qcm_X9_fails qcv_X9_fails qwm_X9_216 rfl (Nat.le_of_ble_eq_true rfl) (Nat.le_of_ble_eq_true rfl) (by decide) dX9_reads_35 (qM_fails_ok hr8) ?_
    exact qx_sub [2, 0] rfl (qM_reads_J38_ok h)
set_option maxHeartbeats 4000000 in
set_option maxRecDepth 100000 in
theorem qM_run_ok {σ : QS} {r : Int32 × QS} (h : qM_run σ = some r) : qx_E (qx_gM l D ci a) 7 mX9_run (some (.int r.1), r.2) 0 [(0, .ref (a 0))] [] σ := by
  unfold qM_run at h
  refine qx_aload_n (pc := 0) 0 dX9_run_0 rfl ?_
  obtain ⟨r1, hr1, h⟩ := qx_bindE h
  refine qx_callVi (pc := 1) 0 r1.1 r1.2 [] [] rfl rfl rfl qcm_X9_reads qcv_X9_reads qwm_X9_235 rfl (Nat.le_of_ble_eq_true rfl) (Nat.le_of_ble_eq_true rfl) (by decide) dX9_run_1 (qM_reads_ok hr1) ?_
  refine qx_istore_n (pc := 4) (lv' := [(1, .int (r1.1)), (0, .ref (a 0))]) dX9_run_4 (Nat.le_of_ble_eq_true rfl) rfl ?_
  refine qx_aload_n (pc := 5) 1 dX9_run_5 rfl ?_
  refine qgM0_16 (pc := 6) qwf_X9_198 dX9_run_6 ?_
  refine qx_iconst (pc := 9) (-1) dX9_run_9 (by decide) ?_
  refine qx_icmp_eq (pc := 10) 22 h dX9_run_10 (by decide) (fun h => ?_) (fun h => ?_)
  · refine qx_aload_n (pc := 22) 1 dX9_run_22 rfl ?_
    refine qx_iconst (pc := 23) 0 dX9_run_23 (by decide) ?_
    refine qpM0_14 (pc := 24) qwf_X9_189 dX9_run_24 ?_
    refine qx_iload_n (pc := 27) 0 dX9_run_27 rfl ?_
    rcases qx_ite h with ⟨hc0, h⟩ | ⟨hc0, h⟩
    · refine qx_tsIn (pc := 28) 64 0 hc0 dX9_run_28 (by decide) (by decide) rfl (by decide) ?_
      refine qx_aload_n (pc := 64) 1 dX9_run_64 rfl ?_
      refine qx_aload_n (pc := 65) 1 dX9_run_65 rfl ?_
      refine qgM0_19 (pc := 66) qwf_X9_45 dX9_run_66 ?_
      refine qx_iconst (pc := 69) 0 dX9_run_69 (by decide) ?_
      refine qlM10 (pc := 70) h dX9_run_70 (fun h => ?_)
      refine qx_aload_n (pc := 71) 1 dX9_run_71 rfl ?_
      refine qgM0_19 (pc := 72) qwf_X9_45 dX9_run_72 ?_
      refine qx_iconst (pc := 75) 1 dX9_run_75 (by decide) ?_
      refine qlM10 (pc := 76) h dX9_run_76 (fun h => ?_)
      refine qx_aload_n (pc := 77) 1 dX9_run_77 rfl ?_
      refine qgM0_19 (pc := 78) qwf_X9_45 dX9_run_78 ?_
      refine qx_iconst (pc := 81) 2 dX9_run_81 (by decide) ?_
      refine qlM10 (pc := 82) h dX9_run_82 (fun h => ?_)
      refine qx_aload_n (pc := 83) 1 dX9_run_83 rfl ?_
      refine qgM0_19 (pc := 84) qwf_X9_45 dX9_run_84 ?_
      refine qx_iconst (pc := 87) 3 dX9_run_87 (by decide) ?_
      refine qlM10 (pc := 88) h dX9_run_88 (fun h => ?_)
      refine qx_aload_n (pc := 89) 1 dX9_run_89 rfl ?_
      refine qgM0_19 (pc := 90) qwf_X9_45 dX9_run_90 ?_
      refine qx_iconst (pc := 93) 4 dX9_run_93 (by decide) ?_
      refine qlM10 (pc := 94) h dX9_run_94 (fun h => ?_)
      refine qx_sipush (pc := 95) 255 dX9_run_95 (by decide) ?_
      obtain ⟨r3, hr3, h⟩ := qx_bindE h
      refine qx_callVi (pc := 98) 0 r3.1 r3.2 [.int ((qx_up r1.2 0 14 0).1 10 (0 : Int32).toNatClampNeg), .int ((qx_up r1.2 0 14 0).1 10 (1 : Int32).toNatClampNeg), .int ((qx_up r1.2 0 14 0).1 10 (2 : Int32).toNatClampNeg), .int ((qx_up r1.2 0 14 0).1 10 (3 : Int32).toNatClampNeg), .int ((qx_up r1.2 0 14 0).1 10 (4 : Int32).toNatClampNeg), .int 255] [] rfl rfl rfl qcm_X9_addPoint qcv_X9_addPoint qwm_X9_238 rfl (Nat.le_of_ble_eq_true rfl) (Nat.le_of_ble_eq_true rfl) (by decide) dX9_run_98 (qM_addPoint_ok hr3) ?_
      exact qx_iretS h rfl dX9_run_101
    rcases qx_ite h with ⟨hc1, h⟩ | ⟨hc1, h⟩
    · refine qx_tsIn (pc := 28) 102 1 hc1 dX9_run_28 (by decide) (by decide) rfl (by decide) ?_
      refine qx_aload_n (pc := 102) 1 dX9_run_102 rfl ?_
      refine qx_aload_n (pc := 103) 1 dX9_run_103 rfl ?_
      refine qgM0_19 (pc := 104) qwf_X9_45 dX9_run_104 ?_
      refine qx_iconst (pc := 107) 0 dX9_run_107 (by decide) ?_
      refine qlM10 (pc := 108) h dX9_run_108 (fun h => ?_)
      refine qx_aload_n (pc := 109) 1 dX9_run_109 rfl ?_
      refine qgM0_19 (pc := 110) qwf_X9_45 dX9_run_110 ?_
      refine qx_iconst (pc := 113) 1 dX9_run_113 (by decide) ?_
      refine qlM10 (pc := 114) h dX9_run_114 (fun h => ?_)
      refine qx_aload_n (pc := 115) 1 dX9_run_115 rfl ?_
      refine qgM0_19 (pc := 116) qwf_X9_45 dX9_run_116 ?_
      refine qx_iconst (pc := 119) 2 dX9_run_119 (by decide) ?_
      refine qlM10 (pc := 120) h dX9_run_120 (fun h => ?_)
      refine qx_aload_n (pc := 121) 1 dX9_run_121 rfl ?_
      refine qgM0_19 (pc := 122) qwf_X9_45 dX9_run_122 ?_
      refine qx_iconst (pc := 125) 3 dX9_run_125 (by decide) ?_
      refine qlM10 (pc := 126) h dX9_run_126 (fun h => ?_)
      obtain ⟨r4, hr4, h⟩ := qx_bindE h
      refine qx_callVi (pc := 127) 0 r4.1 r4.2 [.int ((qx_up r1.2 0 14 0).1 10 (0 : Int32).toNatClampNeg), .int ((qx_up r1.2 0 14 0).1 10 (1 : Int32).toNatClampNeg), .int ((qx_up r1.2 0 14 0).1 10 (2 : Int32).toNatClampNeg), .int ((qx_up r1.2 0 14 0).1 10 (3 : Int32).toNatClampNeg)] [] rfl rfl rfl qcm_X9_setWindow qcv_X9_setWindow qwm_X9_242 rfl (Nat.le_of_ble_eq_true rfl) (Nat.le_of_ble_eq_true rfl) (by decide) dX9_run_127 (qM_setWindow_ok hr4) ?_
      exact qx_iretS h rfl dX9_run_130
    rcases qx_ite h with ⟨hc2, h⟩ | ⟨hc2, h⟩
    · refine qx_tsIn (pc := 28) 131 2 hc2 dX9_run_28 (by decide) (by decide) rfl (by decide) ?_
      refine qx_aload_n (pc := 131) 1 dX9_run_131 rfl ?_
      refine qx_aload_n (pc := 132) 1 dX9_run_132 rfl ?_
      refine qgM0_19 (pc := 133) qwf_X9_45 dX9_run_133 ?_
      refine qx_iconst (pc := 136) 0 dX9_run_136 (by decide) ?_
      refine qlM10 (pc := 137) h dX9_run_137 (fun h => ?_)
      refine qx_aload_n (pc := 138) 1 dX9_run_138 rfl ?_
      refine qgM0_19 (pc := 139) qwf_X9_45 dX9_run_139 ?_
      refine qx_iconst (pc := 142) 1 dX9_run_142 (by decide) ?_
      refine qlM10 (pc := 143) h dX9_run_143 (fun h => ?_)
      obtain ⟨r5, hr5, h⟩ := qx_bindE h
      refine qx_callVi (pc := 144) 0 r5.1 r5.2 [.int ((qx_up r1.2 0 14 0).1 10 (0 : Int32).toNatClampNeg), .int ((qx_up r1.2 0 14 0).1 10 (1 : Int32).toNatClampNeg)] [] rfl rfl rfl qcm_X9_pan qcv_X9_pan qwm_X9_246 rfl (Nat.le_of_ble_eq_true rfl) (Nat.le_of_ble_eq_true rfl) (by decide) dX9_run_144 (qM_pan_ok hr5) ?_
      exact qx_iretS h rfl dX9_run_147
    rcases qx_ite h with ⟨hc3, h⟩ | ⟨hc3, h⟩
    · refine qx_tsIn (pc := 28) 148 3 hc3 dX9_run_28 (by decide) (by decide) rfl (by decide) ?_
      refine qx_aload_n (pc := 148) 1 dX9_run_148 rfl ?_
      obtain ⟨r6, hr6, h⟩ := qx_bindE h
      refine qx_callVi (pc := 149) 0 r6.1 r6.2 [] [] rfl rfl rfl qcm_X9_fill qcv_X9_fill qwm_X9_132 rfl (Nat.le_of_ble_eq_true rfl) (Nat.le_of_ble_eq_true rfl) (by decide) dX9_run_149 (qM_fill_ok hr6) ?_
      exact qx_iretS h rfl dX9_run_152
    rcases qx_ite h with ⟨hc4, h⟩ | ⟨hc4, h⟩
    · refine qx_tsIn (pc := 28) 153 4 hc4 dX9_run_28 (by decide) (by decide) rfl (by decide) ?_
      refine qx_aload_n (pc := 153) 1 dX9_run_153 rfl ?_
      obtain ⟨r7, hr7, h⟩ := qx_bindE h
      refine qx_callVi (pc := 154) 0 r7.1 r7.2 [] [] rfl rfl rfl qcm_X9_improve qcv_X9_improve qwm_X9_249 rfl (Nat.le_of_ble_eq_true rfl) (Nat.le_of_ble_eq_true rfl) (by decide) dX9_run_154 (qM_improve_ok hr7) ?_
      exact qx_iretS h rfl dX9_run_157
    have ht0 := lv_neT (a := 0) hc0 rfl
    have ht1 := lv_neT (a := 1) hc1 rfl
    have ht2 := lv_neT (a := 2) hc2 rfl
    have ht3 := lv_neT (a := 3) hc3 rfl
    have ht4 := lv_neT (a := 4) hc4 rfl
    refine qx_tsOut (pc := 28) 158 dX9_run_28 (by omega) (by decide) ?_
    refine qx_aload_n (pc := 158) 1 dX9_run_158 rfl ?_
    obtain ⟨r2, hr2, h⟩ := qx_bindE h
    refine qx_callVi (pc := 159) 0 r2.1 r2.2 [] [] rfl rfl rfl qcm_X9_hideAll qcv_X9_hideAll qwm_X9_252 rfl (Nat.le_of_ble_eq_true rfl) (Nat.le_of_ble_eq_true rfl) (by decide) dX9_run_159 (qM_hideAll_ok hr2) ?_
    exact qx_iretS h rfl dX9_run_162
  · refine qx_sipush (pc := 13) (-2000) dX9_run_13 (by decide) ?_
    refine qx_aload_n (pc := 16) 1 dX9_run_16 rfl ?_
    refine qgM0_16 (pc := 17) qwf_X9_198 dX9_run_17 ?_
    refine qx_isub (pc := 20) dX9_run_20 ?_
    exact qx_iretS h rfl dX9_run_21
set_option maxHeartbeats 4000000 in
set_option maxRecDepth 100000 in
theorem qM_places_L4_ok {σ : QS} : ∀ (n : Nat) (x1 : Int32) (x2 : Int32) (r : Int32), qM_places_L4 σ n x1 x2 = some r → qx_E (qx_gM l D ci a) 2 mX9_places (some (.int r), σ) 4 [(0, .ref (a 0)), (1, .int x1), (2, .int x2)] [] σ := by
  intro n
  induction n with
  | zero =>
    intro x1 x2 r h
    exact (qx_none h).elim
  | succ n ih =>
    intro x1 x2 r h
    unfold qM_places_L4 at h
    refine qx_iload_n (pc := 4) 2 dX9_places_4 rfl ?_
    refine qx_aload_n (pc := 5) 0 dX9_places_5 rfl ?_
    refine qgM0_1 (pc := 6) qwf_X9_48 dX9_places_6 ?_
    refine qx_icmp_ge (pc := 9) 26 h dX9_places_9 (by decide) (fun h => ?_) (fun h => ?_)
    · refine qx_iload_n (pc := 26) 1 dX9_places_26 rfl ?_
      exact qx_iret h rfl dX9_places_27
    · refine qx_iload_n (pc := 12) 1 dX9_places_12 rfl ?_
      refine qx_aload_n (pc := 13) 0 dX9_places_13 rfl ?_
      refine qx_iload_n (pc := 14) 2 dX9_places_14 rfl ?_
      obtain ⟨r1, hr1, h⟩ := qx_bindE h
      refine qx_callVi (pc := 15) 0 r1 σ [.int x2] [.int x1] rfl rfl rfl qcm_X9_placesOf qcv_X9_placesOf qwm_X9_112 rfl (Nat.le_of_ble_eq_true rfl) (Nat.le_of_ble_eq_true rfl) (by decide) dX9_places_15 (qM_placesOf_ok hr1) ?_
      refine qx_iadd (pc := 18) dX9_places_18 ?_
      refine qx_istore_n (pc := 19) (lv' := [(1, .int (x1 + r1)), (0, .ref (a 0)), (2, .int x2)]) dX9_places_19 (Nat.le_of_ble_eq_true rfl) rfl ?_
      refine qx_iinc (pc := 20) (lv' := [(2, .int (x2 + 1)), (1, .int (x1 + r1)), (0, .ref (a 0))]) 2 (x2 + 1) dX9_places_20 rfl rfl (Nat.le_of_ble_eq_true rfl) rfl ?_
      refine qx_goto (pc := 23) 4 dX9_places_23 (by decide) ?_
      exact qx_sub [2, 1, 0] rfl (ih _ _ _ h)
set_option maxHeartbeats 4000000 in
set_option maxRecDepth 100000 in
theorem qM_places_ok {σ : QS} {r : Int32} (h : qM_places σ = some r) : qx_E (qx_gM l D ci a) 2 mX9_places (some (.int r), σ) 0 [(0, .ref (a 0))] [] σ := by
  unfold qM_places at h
  refine qx_iconst (pc := 0) 0 dX9_places_0 (by decide) ?_
  refine qx_istore_n (pc := 1) (lv' := [(1, .int 0), (0, .ref (a 0))]) dX9_places_1 (Nat.le_of_ble_eq_true rfl) rfl ?_
  refine qx_iconst (pc := 2) 0 dX9_places_2 (by decide) ?_
  refine qx_istore_n (pc := 3) (lv' := [(2, .int 0), (1, .int 0), (0, .ref (a 0))]) dX9_places_3 (Nat.le_of_ble_eq_true rfl) rfl ?_
  exact qx_sub [2, 1, 0] rfl (qM_places_L4_ok qx_F _ _ _ h)
set_option maxHeartbeats 4000000 in
set_option maxRecDepth 100000 in
theorem qM_pairs_L4_ok {σ : QS} : ∀ (n : Nat) (x1 : Int32) (x2 : Int32) (r : Int32), qM_pairs_L4 σ n x1 x2 = some r → qx_E (qx_gM l D ci a) 4 mX9_pairs (some (.int r), σ) 4 [(0, .ref (a 0)), (1, .int x1), (2, .int x2)] [] σ := by
  intro n
  induction n with
  | zero =>
    intro x1 x2 r h
    exact (qx_none h).elim
  | succ n ih =>
    intro x1 x2 r h
    unfold qM_pairs_L4 at h
    refine qx_iload_n (pc := 4) 2 dX9_pairs_4 rfl ?_
    refine qx_bipush (pc := 5) 8 dX9_pairs_5 (by decide) ?_
    refine qx_aload_n (pc := 7) 0 dX9_pairs_7 rfl ?_
    refine qgM0_1 (pc := 8) qwf_X9_48 dX9_pairs_8 ?_
    refine qx_imul (pc := 11) dX9_pairs_11 ?_
    refine qx_icmp_ge (pc := 12) 49 h dX9_pairs_12 (by decide) (fun h => ?_) (fun h => ?_)
    · refine qx_iload_n (pc := 49) 1 dX9_pairs_49 rfl ?_
      refine qx_iconst (pc := 50) 2 dX9_pairs_50 (by decide) ?_
      refine qx_idiv (pc := 51) dX9_pairs_51 (by decide) ?_
      exact qx_iret h rfl dX9_pairs_52
    · refine qx_iload_n (pc := 15) 1 dX9_pairs_15 rfl ?_
      refine qx_aload_n (pc := 16) 0 dX9_pairs_16 rfl ?_
      refine qgM0_6 (pc := 17) qwf_X9_20 dX9_pairs_17 ?_
      refine qx_iload_n (pc := 20) 2 dX9_pairs_20 rfl ?_
      refine qlM2 (pc := 21) h dX9_pairs_21 (fun h => ?_)
      refine qx_if_eq (pc := 22) 40 h dX9_pairs_22 (by decide) (fun h => ?_) (fun h => ?_)
      · refine qx_iconst (pc := 40) 0 dX9_pairs_40 (by decide) ?_
        refine qx_iadd (pc := 41) dX9_pairs_41 ?_
        refine qx_istore_n (pc := 42) (lv' := [(1, .int (x1 + 0)), (0, .ref (a 0)), (2, .int x2)]) dX9_pairs_42 (Nat.le_of_ble_eq_true rfl) rfl ?_
        refine qx_iinc (pc := 43) (lv' := [(2, .int (x2 + 1)), (1, .int (x1 + 0)), (0, .ref (a 0))]) 2 (x2 + 1) dX9_pairs_43 rfl rfl (Nat.le_of_ble_eq_true rfl) rfl ?_
        refine qx_goto (pc := 46) 4 dX9_pairs_46 (by decide) ?_
        exact qx_sub [2, 1, 0] rfl (ih _ _ _ h)
      · refine qx_aload_n (pc := 25) 0 dX9_pairs_25 rfl ?_
        refine qx_iload_n (pc := 26) 2 dX9_pairs_26 rfl ?_
        refine qx_bipush (pc := 27) 8 dX9_pairs_27 (by decide) ?_
        refine qx_idiv (pc := 29) dX9_pairs_29 (by decide) ?_
        refine qx_iload_n (pc := 30) 2 dX9_pairs_30 rfl ?_
        refine qx_bipush (pc := 31) 8 dX9_pairs_31 (by decide) ?_
        refine qx_irem (pc := 33) dX9_pairs_33 (by decide) ?_
        obtain ⟨r1, hr1, h⟩ := qx_bindE h
        refine qx_callVi (pc := 34) 0 r1 σ [.int (x2 / 8), .int (x2 - x2 / 8 * 8)] [.int x1] rfl rfl rfl qcm_X9_meets qcv_X9_meets qwm_X9_135 rfl (Nat.le_of_ble_eq_true rfl) (Nat.le_of_ble_eq_true rfl) (by decide) dX9_pairs_34 (qM_meets_ok hr1) ?_
        refine qx_goto (pc := 37) 41 dX9_pairs_37 (by decide) ?_
        refine qx_iadd (pc := 41) dX9_pairs_41 ?_
        refine qx_istore_n (pc := 42) (lv' := [(1, .int (x1 + r1)), (0, .ref (a 0)), (2, .int x2)]) dX9_pairs_42 (Nat.le_of_ble_eq_true rfl) rfl ?_
        refine qx_iinc (pc := 43) (lv' := [(2, .int (x2 + 1)), (1, .int (x1 + r1)), (0, .ref (a 0))]) 2 (x2 + 1) dX9_pairs_43 rfl rfl (Nat.le_of_ble_eq_true rfl) rfl ?_
        refine qx_goto (pc := 46) 4 dX9_pairs_46 (by decide) ?_
        exact qx_sub [2, 1, 0] rfl (ih _ _ _ h)
set_option maxHeartbeats 4000000 in
set_option maxRecDepth 100000 in
theorem qM_pairs_ok {σ : QS} {r : Int32} (h : qM_pairs σ = some r) : qx_E (qx_gM l D ci a) 4 mX9_pairs (some (.int r), σ) 0 [(0, .ref (a 0))] [] σ := by
  unfold qM_pairs at h
  refine qx_iconst (pc := 0) 0 dX9_pairs_0 (by decide) ?_
  refine qx_istore_n (pc := 1) (lv' := [(1, .int 0), (0, .ref (a 0))]) dX9_pairs_1 (Nat.le_of_ble_eq_true rfl) rfl ?_
  refine qx_iconst (pc := 2) 0 dX9_pairs_2 (by decide) ?_
  refine qx_istore_n (pc := 3) (lv' := [(2, .int 0), (1, .int 0), (0, .ref (a 0))]) dX9_pairs_3 (Nat.le_of_ble_eq_true rfl) rfl ?_
  exact qx_sub [2, 1, 0] rfl (qM_pairs_L4_ok qx_F _ _ _ h)
set_option maxHeartbeats 4000000 in
set_option maxRecDepth 100000 in
theorem qM_priorities_L4_ok {σ : QS} : ∀ (n : Nat) (x1 : Int32) (x2 : Int32) (r : Int32), qM_priorities_L4 σ n x1 x2 = some r → qx_E (qx_gM l D ci a) 1 mX9_priorities (some (.int r), σ) 4 [(0, .ref (a 0)), (1, .int x1), (2, .int x2)] [] σ := by
  intro n
  induction n with
  | zero =>
    intro x1 x2 r h
    exact (qx_none h).elim
  | succ n ih =>
    intro x1 x2 r h
    unfold qM_priorities_L4 at h
    refine qx_iload_n (pc := 4) 2 dX9_priorities_4 rfl ?_
    refine qx_aload_n (pc := 5) 0 dX9_priorities_5 rfl ?_
    refine qgM0_1 (pc := 6) qwf_X9_48 dX9_priorities_6 ?_
    refine qx_icmp_ge (pc := 9) 47 h dX9_priorities_9 (by decide) (fun h => ?_) (fun h => ?_)
    · refine qx_iload_n (pc := 47) 1 dX9_priorities_47 rfl ?_
      exact qx_iret h rfl dX9_priorities_48
    · refine qx_iload_n (pc := 12) 1 dX9_priorities_12 rfl ?_
      refine qx_aload_n (pc := 13) 0 dX9_priorities_13 rfl ?_
      refine qgM0_0 (pc := 14) qwf_X9_7 dX9_priorities_14 ?_
      refine qx_bipush (pc := 17) 120 dX9_priorities_17 (by decide) ?_
      refine qx_iload_n (pc := 19) 2 dX9_priorities_19 rfl ?_
      refine qx_iadd (pc := 20) dX9_priorities_20 ?_
      refine qlM1 (pc := 21) h dX9_priorities_21 (fun h => ?_)
      refine qx_iconst (pc := 22) (-1) dX9_priorities_22 (by decide) ?_
      refine qx_icmp_eq (pc := 23) 38 h dX9_priorities_23 (by decide) (fun h => ?_) (fun h => ?_)
      · refine qx_iconst (pc := 38) 0 dX9_priorities_38 (by decide) ?_
        refine qx_iadd (pc := 39) dX9_priorities_39 ?_
        refine qx_istore_n (pc := 40) (lv' := [(1, .int (x1 + 0)), (0, .ref (a 0)), (2, .int x2)]) dX9_priorities_40 (Nat.le_of_ble_eq_true rfl) rfl ?_
        refine qx_iinc (pc := 41) (lv' := [(2, .int (x2 + 1)), (1, .int (x1 + 0)), (0, .ref (a 0))]) 2 (x2 + 1) dX9_priorities_41 rfl rfl (Nat.le_of_ble_eq_true rfl) rfl ?_
        refine qx_goto (pc := 44) 4 dX9_priorities_44 (by decide) ?_
        exact qx_sub [2, 1, 0] rfl (ih _ _ _ h)
      · refine qx_aload_n (pc := 26) 0 dX9_priorities_26 rfl ?_
        refine qgM0_0 (pc := 27) qwf_X9_7 dX9_priorities_27 ?_
        refine qx_bipush (pc := 30) 80 dX9_priorities_30 (by decide) ?_
        refine qx_iload_n (pc := 32) 2 dX9_priorities_32 rfl ?_
        refine qx_iadd (pc := 33) dX9_priorities_33 ?_
        refine qlM1 (pc := 34) h dX9_priorities_34 (fun h => ?_)
        refine qx_goto (pc := 35) 39 dX9_priorities_35 (by decide) ?_
        refine qx_iadd (pc := 39) dX9_priorities_39 ?_
        refine qx_istore_n (pc := 40) (lv' := [(1, .int (x1 + (σ.1 1 (80 + x2).toNatClampNeg))), (0, .ref (a 0)), (2, .int x2)]) dX9_priorities_40 (Nat.le_of_ble_eq_true rfl) rfl ?_
        refine qx_iinc (pc := 41) (lv' := [(2, .int (x2 + 1)), (1, .int (x1 + (σ.1 1 (80 + x2).toNatClampNeg))), (0, .ref (a 0))]) 2 (x2 + 1) dX9_priorities_41 rfl rfl (Nat.le_of_ble_eq_true rfl) rfl ?_
        refine qx_goto (pc := 44) 4 dX9_priorities_44 (by decide) ?_
        exact qx_sub [2, 1, 0] rfl (ih _ _ _ h)
set_option maxHeartbeats 4000000 in
set_option maxRecDepth 100000 in
theorem qM_priorities_ok {σ : QS} {r : Int32} (h : qM_priorities σ = some r) : qx_E (qx_gM l D ci a) 1 mX9_priorities (some (.int r), σ) 0 [(0, .ref (a 0))] [] σ := by
  unfold qM_priorities at h
  refine qx_iconst (pc := 0) 0 dX9_priorities_0 (by decide) ?_
  refine qx_istore_n (pc := 1) (lv' := [(1, .int 0), (0, .ref (a 0))]) dX9_priorities_1 (Nat.le_of_ble_eq_true rfl) rfl ?_
  refine qx_iconst (pc := 2) 0 dX9_priorities_2 (by decide) ?_
  refine qx_istore_n (pc := 3) (lv' := [(2, .int 0), (1, .int 0), (0, .ref (a 0))]) dX9_priorities_3 (Nat.le_of_ble_eq_true rfl) rfl ?_
  exact qx_sub [2, 1, 0] rfl (qM_priorities_L4_ok qx_F _ _ _ h)
set_option maxHeartbeats 4000000 in
set_option maxRecDepth 100000 in
theorem qM_pushing_L4_ok {σ : QS} : ∀ (n : Nat) (x1 : Int32) (x2 : Int32) (r : Int32), qM_pushing_L4 σ n x1 x2 = some r → qx_E (qx_gM l D ci a) 5 mX9_pushing (some (.int r), σ) 4 [(0, .ref (a 0)), (1, .int x1), (2, .int x2)] [] σ := by
  intro n
  induction n with
  | zero =>
    intro x1 x2 r h
    exact (qx_none h).elim
  | succ n ih =>
    intro x1 x2 r h
    unfold qM_pushing_L4 at h
    refine qx_iload_n (pc := 4) 2 dX9_pushing_4 rfl ?_
    refine qx_aload_n (pc := 5) 0 dX9_pushing_5 rfl ?_
    refine qgM0_1 (pc := 6) qwf_X9_48 dX9_pushing_6 ?_
    refine qx_icmp_ge (pc := 9) 35 h dX9_pushing_9 (by decide) (fun h => ?_) (fun h => ?_)
    · refine qx_iload_n (pc := 35) 1 dX9_pushing_35 rfl ?_
      exact qx_iret h rfl dX9_pushing_36
    · refine qx_iload_n (pc := 12) 1 dX9_pushing_12 rfl ?_
      refine qx_aload_n (pc := 13) 0 dX9_pushing_13 rfl ?_
      refine qx_iload_n (pc := 14) 2 dX9_pushing_14 rfl ?_
      obtain ⟨r1, hr1, h⟩ := qx_bindE h
      refine qx_callVi (pc := 15) 0 r1 σ [.int x2] [.int x1] rfl rfl rfl qcm_X9_strongest qcv_X9_strongest qwm_X9_166 rfl (Nat.le_of_ble_eq_true rfl) (Nat.le_of_ble_eq_true rfl) (by decide) dX9_pushing_15 (qM_strongest_ok hr1) ?_
      refine qx_iconst (pc := 18) (-1) dX9_pushing_18 (by decide) ?_
      refine qx_icmp_eq (pc := 19) 26 h dX9_pushing_19 (by decide) (fun h => ?_) (fun h => ?_)
      · refine qx_iconst (pc := 26) 0 dX9_pushing_26 (by decide) ?_
        refine qx_iadd (pc := 27) dX9_pushing_27 ?_
        refine qx_istore_n (pc := 28) (lv' := [(1, .int (x1 + 0)), (0, .ref (a 0)), (2, .int x2)]) dX9_pushing_28 (Nat.le_of_ble_eq_true rfl) rfl ?_
        refine qx_iinc (pc := 29) (lv' := [(2, .int (x2 + 1)), (1, .int (x1 + 0)), (0, .ref (a 0))]) 2 (x2 + 1) dX9_pushing_29 rfl rfl (Nat.le_of_ble_eq_true rfl) rfl ?_
        refine qx_goto (pc := 32) 4 dX9_pushing_32 (by decide) ?_
        exact qx_sub [2, 1, 0] rfl (ih _ _ _ h)
      · refine qx_iconst (pc := 22) 1 dX9_pushing_22 (by decide) ?_
        refine qx_goto (pc := 23) 27 dX9_pushing_23 (by decide) ?_
        refine qx_iadd (pc := 27) dX9_pushing_27 ?_
        refine qx_istore_n (pc := 28) (lv' := [(1, .int (x1 + 1)), (0, .ref (a 0)), (2, .int x2)]) dX9_pushing_28 (Nat.le_of_ble_eq_true rfl) rfl ?_
        refine qx_iinc (pc := 29) (lv' := [(2, .int (x2 + 1)), (1, .int (x1 + 1)), (0, .ref (a 0))]) 2 (x2 + 1) dX9_pushing_29 rfl rfl (Nat.le_of_ble_eq_true rfl) rfl ?_
        refine qx_goto (pc := 32) 4 dX9_pushing_32 (by decide) ?_
        exact qx_sub [2, 1, 0] rfl (ih _ _ _ h)
set_option maxHeartbeats 4000000 in
set_option maxRecDepth 100000 in
theorem qM_pushing_ok {σ : QS} {r : Int32} (h : qM_pushing σ = some r) : qx_E (qx_gM l D ci a) 5 mX9_pushing (some (.int r), σ) 0 [(0, .ref (a 0))] [] σ := by
  unfold qM_pushing at h
  refine qx_iconst (pc := 0) 0 dX9_pushing_0 (by decide) ?_
  refine qx_istore_n (pc := 1) (lv' := [(1, .int 0), (0, .ref (a 0))]) dX9_pushing_1 (Nat.le_of_ble_eq_true rfl) rfl ?_
  refine qx_iconst (pc := 2) 0 dX9_pushing_2 (by decide) ?_
  refine qx_istore_n (pc := 3) (lv' := [(2, .int 0), (1, .int 0), (0, .ref (a 0))]) dX9_pushing_3 (Nat.le_of_ble_eq_true rfl) rfl ?_
  exact qx_sub [2, 1, 0] rfl (qM_pushing_L4_ok qx_F _ _ _ h)
set_option maxHeartbeats 4000000 in
set_option maxRecDepth 100000 in
theorem qM_number_ok {σ : QS} {x1 : Int32} {r : Int32} (h : qM_number σ x1 = some r) : qx_E (qx_gM l D ci a) 6 mX9_number (some (.int r), σ) 0 [(0, .ref (a 0)), (1, .int x1)] [] σ := by
  unfold qM_number at h
  refine qx_iload_n (pc := 0) 1 dX9_number_0 rfl ?_
  rcases qx_ite h with ⟨hc0, h⟩ | ⟨hc0, h⟩
  · refine qx_tsIn (pc := 1) 64 0 hc0 dX9_number_1 (by decide) (by decide) rfl (by decide) ?_
    refine qx_aload_n (pc := 64) 0 dX9_number_64 rfl ?_
    refine qgM0_1 (pc := 65) qwf_X9_48 dX9_number_65 ?_
    exact qx_iret h rfl dX9_number_68
  rcases qx_ite h with ⟨hc1, h⟩ | ⟨hc1, h⟩
  · refine qx_tsIn (pc := 1) 69 1 hc1 dX9_number_1 (by decide) (by decide) rfl (by decide) ?_
    refine qx_aload_n (pc := 69) 0 dX9_number_69 rfl ?_
    obtain ⟨r2, hr2, h⟩ := qx_bindE h
    refine qx_callVi (pc := 70) 0 r2 σ [] [] rfl rfl rfl qcm_X9_visible qcv_X9_visible qwm_X9_125 rfl (Nat.le_of_ble_eq_true rfl) (Nat.le_of_ble_eq_true rfl) (by decide) dX9_number_70 (qM_visible_ok hr2) ?_
    exact qx_iret h rfl dX9_number_73
  rcases qx_ite h with ⟨hc2, h⟩ | ⟨hc2, h⟩
  · refine qx_tsIn (pc := 1) 74 2 hc2 dX9_number_1 (by decide) (by decide) rfl (by decide) ?_
    refine qx_aload_n (pc := 74) 0 dX9_number_74 rfl ?_
    obtain ⟨r3, hr3, h⟩ := qx_bindE h
    refine qx_callVi (pc := 75) 0 r3 σ [] [] rfl rfl rfl qcm_X9_places qcv_X9_places qwm_X9_255 rfl (Nat.le_of_ble_eq_true rfl) (Nat.le_of_ble_eq_true rfl) (by decide) dX9_number_75 (qM_places_ok hr3) ?_
    exact qx_iret h rfl dX9_number_78
  rcases qx_ite h with ⟨hc3, h⟩ | ⟨hc3, h⟩
  · refine qx_tsIn (pc := 1) 79 3 hc3 dX9_number_1 (by decide) (by decide) rfl (by decide) ?_
    refine qx_aload_n (pc := 79) 0 dX9_number_79 rfl ?_
    obtain ⟨r4, hr4, h⟩ := qx_bindE h
    refine qx_callVi (pc := 80) 0 r4 σ [] [] rfl rfl rfl qcm_X9_pairs qcv_X9_pairs qwm_X9_258 rfl (Nat.le_of_ble_eq_true rfl) (Nat.le_of_ble_eq_true rfl) (by decide) dX9_number_80 (qM_pairs_ok hr4) ?_
    exact qx_iret h rfl dX9_number_83
  rcases qx_ite h with ⟨hc4, h⟩ | ⟨hc4, h⟩
  · refine qx_tsIn (pc := 1) 84 4 hc4 dX9_number_1 (by decide) (by decide) rfl (by decide) ?_
    refine qx_aload_n (pc := 84) 0 dX9_number_84 rfl ?_
    obtain ⟨r5, hr5, h⟩ := qx_bindE h
    refine qx_callVi (pc := 85) 0 r5 σ [] [] rfl rfl rfl qcm_X9_shown qcv_X9_shown qwm_X9_129 rfl (Nat.le_of_ble_eq_true rfl) (Nat.le_of_ble_eq_true rfl) (by decide) dX9_number_85 (qM_shown_ok hr5) ?_
    exact qx_iret h rfl dX9_number_88
  rcases qx_ite h with ⟨hc5, h⟩ | ⟨hc5, h⟩
  · refine qx_tsIn (pc := 1) 89 5 hc5 dX9_number_1 (by decide) (by decide) rfl (by decide) ?_
    refine qx_aload_n (pc := 89) 0 dX9_number_89 rfl ?_
    obtain ⟨r6, hr6, h⟩ := qx_bindE h
    refine qx_callVi (pc := 90) 0 r6 σ [] [] rfl rfl rfl qcm_X9_priorities qcv_X9_priorities qwm_X9_261 rfl (Nat.le_of_ble_eq_true rfl) (Nat.le_of_ble_eq_true rfl) (by decide) dX9_number_90 (qM_priorities_ok hr6) ?_
    exact qx_iret h rfl dX9_number_93
  rcases qx_ite h with ⟨hc6, h⟩ | ⟨hc6, h⟩
  · refine qx_tsIn (pc := 1) 94 6 hc6 dX9_number_1 (by decide) (by decide) rfl (by decide) ?_
    refine qx_aload_n (pc := 94) 0 dX9_number_94 rfl ?_
    refine qgM0_2 (pc := 95) qwf_X9_55 dX9_number_95 ?_
    exact qx_iret h rfl dX9_number_98
  rcases qx_ite h with ⟨hc7, h⟩ | ⟨hc7, h⟩
  · refine qx_tsIn (pc := 1) 99 7 hc7 dX9_number_1 (by decide) (by decide) rfl (by decide) ?_
    refine qx_aload_n (pc := 99) 0 dX9_number_99 rfl ?_
    refine qgM0_3 (pc := 100) qwf_X9_58 dX9_number_100 ?_
    exact qx_iret h rfl dX9_number_103
  rcases qx_ite h with ⟨hc8, h⟩ | ⟨hc8, h⟩
  · refine qx_tsIn (pc := 1) 104 8 hc8 dX9_number_1 (by decide) (by decide) rfl (by decide) ?_
    refine qx_aload_n (pc := 104) 0 dX9_number_104 rfl ?_
    refine qgM0_4 (pc := 105) qwf_X9_13 dX9_number_105 ?_
    exact qx_iret h rfl dX9_number_108
  rcases qx_ite h with ⟨hc9, h⟩ | ⟨hc9, h⟩
  · refine qx_tsIn (pc := 1) 109 9 hc9 dX9_number_1 (by decide) (by decide) rfl (by decide) ?_
    refine qx_aload_n (pc := 109) 0 dX9_number_109 rfl ?_
    refine qgM0_5 (pc := 110) qwf_X9_17 dX9_number_110 ?_
    exact qx_iret h rfl dX9_number_113
  rcases qx_ite h with ⟨hc10, h⟩ | ⟨hc10, h⟩
  · refine qx_tsIn (pc := 1) 114 10 hc10 dX9_number_1 (by decide) (by decide) rfl (by decide) ?_
    refine qx_aload_n (pc := 114) 0 dX9_number_114 rfl ?_
    refine qgM0_11 (pc := 115) qwf_X9_182 dX9_number_115 ?_
    exact qx_iret h rfl dX9_number_118
  rcases qx_ite h with ⟨hc11, h⟩ | ⟨hc11, h⟩
  · refine qx_tsIn (pc := 1) 119 11 hc11 dX9_number_1 (by decide) (by decide) rfl (by decide) ?_
    refine qx_aload_n (pc := 119) 0 dX9_number_119 rfl ?_
    refine qgM0_14 (pc := 120) qwf_X9_189 dX9_number_120 ?_
    exact qx_iret h rfl dX9_number_123
  have ht0 := lv_neT (a := 0) hc0 rfl
  have ht1 := lv_neT (a := 1) hc1 rfl
  have ht2 := lv_neT (a := 2) hc2 rfl
  have ht3 := lv_neT (a := 3) hc3 rfl
  have ht4 := lv_neT (a := 4) hc4 rfl
  have ht5 := lv_neT (a := 5) hc5 rfl
  have ht6 := lv_neT (a := 6) hc6 rfl
  have ht7 := lv_neT (a := 7) hc7 rfl
  have ht8 := lv_neT (a := 8) hc8 rfl
  have ht9 := lv_neT (a := 9) hc9 rfl
  have ht10 := lv_neT (a := 10) hc10 rfl
  have ht11 := lv_neT (a := 11) hc11 rfl
  refine qx_tsOut (pc := 1) 124 dX9_number_1 (by omega) (by decide) ?_
  refine qx_aload_n (pc := 124) 0 dX9_number_124 rfl ?_
  obtain ⟨r1, hr1, h⟩ := qx_bindE h
  refine qx_callVi (pc := 125) 0 r1 σ [] [] rfl rfl rfl qcm_X9_pushing qcv_X9_pushing qwm_X9_264 rfl (Nat.le_of_ble_eq_true rfl) (Nat.le_of_ble_eq_true rfl) (by decide) dX9_number_125 (qM_pushing_ok hr1) ?_
  exact qx_iret h rfl dX9_number_128
set_option maxHeartbeats 4000000 in
set_option maxRecDepth 100000 in
theorem qM_count_ok {σ : QS} {x1 : Int32} {r : Int32 × QS} (h : qM_count σ x1 = some r) : qx_E (qx_gM l D ci a) 7 mX9_count (some (.int r.1), r.2) 0 [(0, .ref (a 0)), (1, .int x1)] [] σ := by
  unfold qM_count at h
  refine qx_aload_n (pc := 0) 0 dX9_count_0 rfl ?_
  obtain ⟨r1, hr1, h⟩ := qx_bindE h
  refine qx_callVv (pc := 1) 0 r1 [] [] rfl rfl rfl qcm_X9_findsAll qcv_X9_findsAll qwm_X9_83 rfl (Nat.le_of_ble_eq_true rfl) (Nat.le_of_ble_eq_true rfl) (by decide) dX9_count_1 (qM_findsAll_ok hr1) ?_
  refine qx_iload_n (pc := 4) 1 dX9_count_4 rfl ?_
  refine qx_i2l (pc := 5) dX9_count_5 ?_
  refine qx_lconst (pc := 6) 0 dX9_count_6 (by decide) ?_
  refine qx_ldc2 (pc := 7) 12 dX9_count_7 qwc_X9_267 ?_
  obtain ⟨r2, hr2, h⟩ := qx_bindE h
  refine qx_callSi (pc := 10) r2 r1 [.long (x1.toInt64), .long 0, .long 12] [] rfl qcm_X9_in qcs_X9_in qwm_X9_51 rfl (Nat.le_of_ble_eq_true rfl) (Nat.le_of_ble_eq_true rfl) (by decide) dX9_count_10 (qM_in_ok hr2) ?_
  refine qx_if_eq (pc := 13) 24 h dX9_count_13 (by decide) (fun h => ?_) (fun h => ?_)
  · refine qx_bipush (pc := 24) (-2) dX9_count_24 (by decide) ?_
    exact qx_iretS h rfl dX9_count_26
  · refine qx_aload_n (pc := 16) 0 dX9_count_16 rfl ?_
    refine qx_iload_n (pc := 17) 1 dX9_count_17 rfl ?_
    obtain ⟨r3, hr3, h⟩ := qx_bindE h
    refine qx_callVi (pc := 18) 0 r3 r1 [.int x1] [] rfl rfl rfl qcm_X9_number qcv_X9_number qwm_X9_269 rfl (Nat.le_of_ble_eq_true rfl) (Nat.le_of_ble_eq_true rfl) (by decide) dX9_count_18 (qM_number_ok hr3) ?_
    refine qx_goto (pc := 21) 26 dX9_count_21 (by decide) ?_
    exact qx_iretS h rfl dX9_count_26
set_option maxHeartbeats 4000000 in
set_option maxRecDepth 100000 in
theorem qM_mixes_ok {σ : QS} {x1 : Int64} {r : QS} (h : qM_mixes σ x1 = some r) : qx_E (qx_gM l D ci a) 1 mX9_mixes (none, r) 0 [(0, .ref (a 0)), (1, .long x1)] [] σ := by
  unfold qM_mixes at h
  refine qx_aload_n (pc := 0) 0 dX9_mixes_0 rfl ?_
  refine qx_ldc2 (pc := 1) 31 dX9_mixes_1 qwc_X9_272 ?_
  refine qx_aload_n (pc := 4) 0 dX9_mixes_4 rfl ?_
  refine qgM0_20 (pc := 5) qwf_X9_274 dX9_mixes_5 ?_
  refine qx_lmul (pc := 8) dX9_mixes_8 ?_
  refine qx_lload_n (pc := 9) 1 dX9_mixes_9 rfl ?_
  refine qx_ladd (pc := 10) dX9_mixes_10 ?_
  refine qpM0_20 (pc := 11) qwf_X9_274 dX9_mixes_11 ?_
  exact qx_vret h rfl dX9_mixes_14
end
