section
variable {l : Launch} {D : va_G} {ci : Nat → ClassId} {a z : Nat → Nat}
theorem dX9_place_0 : decode cX9_place 0 = .ok (.aload_n 0, 1) := by decide +kernel
theorem dX9_place_1 : decode cX9_place 1 = .ok (.iload_n 1, 1) := by decide +kernel
theorem dX9_place_2 : decode cX9_place 2 = .ok (.invokevirtual 105, 3) := by decide +kernel
theorem dX9_place_5 : decode cX9_place 5 = .ok (.ifCond .eq 22, 3) := by decide +kernel
theorem dX9_place_8 : decode cX9_place 8 = .ok (.iload_n 2, 1) := by decide +kernel
theorem dX9_place_9 : decode cX9_place 9 = .ok (.invokestatic 140, 3) := by decide +kernel
theorem dX9_place_12 : decode cX9_place 12 = .ok (.ifCond .eq 15, 3) := by decide +kernel
theorem dX9_place_15 : decode cX9_place 15 = .ok (.iload_n 3, 1) := by decide +kernel
theorem dX9_place_16 : decode cX9_place 16 = .ok (.i2l, 1) := by decide +kernel
theorem dX9_place_17 : decode cX9_place 17 = .ok (.lconst 0, 1) := by decide +kernel
theorem dX9_place_18 : decode cX9_place 18 = .ok (.ldc2_w 143, 3) := by decide +kernel
theorem dX9_place_21 : decode cX9_place 21 = .ok (.invokestatic 51, 3) := by decide +kernel
theorem dX9_place_24 : decode cX9_place 24 = .ok (.ifCond .ne 6, 3) := by decide +kernel
theorem dX9_place_27 : decode cX9_place 27 = .ok (.bipush (-2), 2) := by decide +kernel
theorem dX9_place_29 : decode cX9_place 29 = .ok (.ireturn, 1) := by decide +kernel
theorem dX9_place_30 : decode cX9_place 30 = .ok (.aload_n 0, 1) := by decide +kernel
theorem dX9_place_31 : decode cX9_place 31 = .ok (.invokevirtual 83, 3) := by decide +kernel
theorem dX9_place_34 : decode cX9_place 34 = .ok (.aload_n 0, 1) := by decide +kernel
theorem dX9_place_35 : decode cX9_place 35 = .ok (.iload_n 1, 1) := by decide +kernel
theorem dX9_place_36 : decode cX9_place 36 = .ok (.iload_n 2, 1) := by decide +kernel
theorem dX9_place_37 : decode cX9_place 37 = .ok (.iload_n 3, 1) := by decide +kernel
theorem dX9_place_38 : decode cX9_place 38 = .ok (.invokevirtual 145, 3) := by decide +kernel
theorem dX9_place_41 : decode cX9_place 41 = .ok (.ireturn, 1) := by decide +kernel
theorem dX9_clash_0 : decode cX9_clash 0 = .ok (.aload_n 0, 1) := by decide +kernel
theorem dX9_clash_1 : decode cX9_clash 1 = .ok (.iload_n 1, 1) := by decide +kernel
theorem dX9_clash_2 : decode cX9_clash 2 = .ok (.invokevirtual 105, 3) := by decide +kernel
theorem dX9_clash_5 : decode cX9_clash 5 = .ok (.ifCond .eq 31, 3) := by decide +kernel
theorem dX9_clash_8 : decode cX9_clash 8 = .ok (.iload_n 2, 1) := by decide +kernel
theorem dX9_clash_9 : decode cX9_clash 9 = .ok (.invokestatic 140, 3) := by decide +kernel
theorem dX9_clash_12 : decode cX9_clash 12 = .ok (.ifCond .eq 24, 3) := by decide +kernel
theorem dX9_clash_15 : decode cX9_clash 15 = .ok (.aload_n 0, 1) := by decide +kernel
theorem dX9_clash_16 : decode cX9_clash 16 = .ok (.iload_n 3, 1) := by decide +kernel
theorem dX9_clash_17 : decode cX9_clash 17 = .ok (.invokevirtual 105, 3) := by decide +kernel
theorem dX9_clash_20 : decode cX9_clash 20 = .ok (.ifCond .eq 16, 3) := by decide +kernel
theorem dX9_clash_23 : decode cX9_clash 23 = .ok (.iload 4, 2) := by decide +kernel
theorem dX9_clash_25 : decode cX9_clash 25 = .ok (.invokestatic 140, 3) := by decide +kernel
theorem dX9_clash_28 : decode cX9_clash 28 = .ok (.ifCond .eq 8, 3) := by decide +kernel
theorem dX9_clash_31 : decode cX9_clash 31 = .ok (.iload_n 1, 1) := by decide +kernel
theorem dX9_clash_32 : decode cX9_clash 32 = .ok (.iload_n 3, 1) := by decide +kernel
theorem dX9_clash_33 : decode cX9_clash 33 = .ok (.if_icmp .ne 6, 3) := by decide +kernel
theorem dX9_clash_36 : decode cX9_clash 36 = .ok (.bipush (-2), 2) := by decide +kernel
theorem dX9_clash_38 : decode cX9_clash 38 = .ok (.ireturn, 1) := by decide +kernel
theorem dX9_clash_39 : decode cX9_clash 39 = .ok (.aload_n 0, 1) := by decide +kernel
theorem dX9_clash_40 : decode cX9_clash 40 = .ok (.invokevirtual 83, 3) := by decide +kernel
theorem dX9_clash_43 : decode cX9_clash 43 = .ok (.aload_n 0, 1) := by decide +kernel
theorem dX9_clash_44 : decode cX9_clash 44 = .ok (.getfield 20, 3) := by decide +kernel
theorem dX9_clash_47 : decode cX9_clash 47 = .ok (.bipush 8, 2) := by decide +kernel
theorem dX9_clash_49 : decode cX9_clash 49 = .ok (.iload_n 1, 1) := by decide +kernel
theorem dX9_clash_50 : decode cX9_clash 50 = .ok (.imul, 1) := by decide +kernel
theorem dX9_clash_51 : decode cX9_clash 51 = .ok (.iload_n 2, 1) := by decide +kernel
theorem dX9_clash_52 : decode cX9_clash 52 = .ok (.iadd, 1) := by decide +kernel
theorem dX9_clash_53 : decode cX9_clash 53 = .ok (.baload, 1) := by decide +kernel
theorem dX9_clash_54 : decode cX9_clash 54 = .ok (.ifCond .eq 18, 3) := by decide +kernel
theorem dX9_clash_57 : decode cX9_clash 57 = .ok (.aload_n 0, 1) := by decide +kernel
theorem dX9_clash_58 : decode cX9_clash 58 = .ok (.getfield 20, 3) := by decide +kernel
theorem dX9_clash_61 : decode cX9_clash 61 = .ok (.bipush 8, 2) := by decide +kernel
theorem dX9_clash_63 : decode cX9_clash 63 = .ok (.iload_n 3, 1) := by decide +kernel
theorem dX9_clash_64 : decode cX9_clash 64 = .ok (.imul, 1) := by decide +kernel
theorem dX9_clash_65 : decode cX9_clash 65 = .ok (.iload 4, 2) := by decide +kernel
theorem dX9_clash_67 : decode cX9_clash 67 = .ok (.iadd, 1) := by decide +kernel
theorem dX9_clash_68 : decode cX9_clash 68 = .ok (.baload, 1) := by decide +kernel
theorem dX9_clash_69 : decode cX9_clash 69 = .ok (.ifCond .ne 6, 3) := by decide +kernel
theorem dX9_clash_72 : decode cX9_clash 72 = .ok (.bipush (-3), 2) := by decide +kernel
theorem dX9_clash_74 : decode cX9_clash 74 = .ok (.ireturn, 1) := by decide +kernel
theorem dX9_clash_75 : decode cX9_clash 75 = .ok (.aload_n 0, 1) := by decide +kernel
theorem dX9_clash_76 : decode cX9_clash 76 = .ok (.iload_n 1, 1) := by decide +kernel
theorem dX9_clash_77 : decode cX9_clash 77 = .ok (.iload_n 2, 1) := by decide +kernel
theorem dX9_clash_78 : decode cX9_clash 78 = .ok (.iload_n 3, 1) := by decide +kernel
theorem dX9_clash_79 : decode cX9_clash 79 = .ok (.iload 4, 2) := by decide +kernel
theorem dX9_clash_81 : decode cX9_clash 81 = .ok (.invokevirtual 80, 3) := by decide +kernel
theorem dX9_clash_84 : decode cX9_clash 84 = .ok (.ifCond .eq 7, 3) := by decide +kernel
theorem dX9_clash_87 : decode cX9_clash 87 = .ok (.iconst 1, 1) := by decide +kernel
theorem dX9_clash_88 : decode cX9_clash 88 = .ok (.goto 4, 3) := by decide +kernel
theorem dX9_clash_91 : decode cX9_clash 91 = .ok (.iconst 0, 1) := by decide +kernel
theorem dX9_clash_92 : decode cX9_clash 92 = .ok (.ireturn, 1) := by decide +kernel
theorem dX9_labelAt_0 : decode cX9_labelAt 0 = .ok (.iload_n 1, 1) := by decide +kernel
theorem dX9_labelAt_1 : decode cX9_labelAt 1 = .ok (.i2l, 1) := by decide +kernel
theorem dX9_labelAt_2 : decode cX9_labelAt 2 = .ok (.lconst 0, 1) := by decide +kernel
theorem dX9_labelAt_3 : decode cX9_labelAt 3 = .ok (.ldc2_w 94, 3) := by decide +kernel
theorem dX9_labelAt_6 : decode cX9_labelAt 6 = .ok (.invokestatic 51, 3) := by decide +kernel
theorem dX9_labelAt_9 : decode cX9_labelAt 9 = .ok (.ifCond .eq 15, 3) := by decide +kernel
theorem dX9_labelAt_12 : decode cX9_labelAt 12 = .ok (.iload_n 2, 1) := by decide +kernel
theorem dX9_labelAt_13 : decode cX9_labelAt 13 = .ok (.i2l, 1) := by decide +kernel
theorem dX9_labelAt_14 : decode cX9_labelAt 14 = .ok (.lconst 0, 1) := by decide +kernel
theorem dX9_labelAt_15 : decode cX9_labelAt 15 = .ok (.ldc2_w 94, 3) := by decide +kernel
theorem dX9_labelAt_18 : decode cX9_labelAt 18 = .ok (.invokestatic 51, 3) := by decide +kernel
theorem dX9_labelAt_21 : decode cX9_labelAt 21 = .ok (.ifCond .ne 6, 3) := by decide +kernel
theorem dX9_labelAt_24 : decode cX9_labelAt 24 = .ok (.bipush (-2), 2) := by decide +kernel
theorem dX9_labelAt_26 : decode cX9_labelAt 26 = .ok (.ireturn, 1) := by decide +kernel
theorem dX9_labelAt_27 : decode cX9_labelAt 27 = .ok (.iconst 0, 1) := by decide +kernel
theorem dX9_labelAt_28 : decode cX9_labelAt 28 = .ok (.istore_n 3, 1) := by decide +kernel
theorem dX9_labelAt_29 : decode cX9_labelAt 29 = .ok (.iload_n 3, 1) := by decide +kernel
theorem dX9_labelAt_30 : decode cX9_labelAt 30 = .ok (.aload_n 0, 1) := by decide +kernel
theorem dX9_labelAt_31 : decode cX9_labelAt 31 = .ok (.getfield 48, 3) := by decide +kernel
theorem dX9_labelAt_34 : decode cX9_labelAt 34 = .ok (.if_icmp .ge 43, 3) := by decide +kernel
theorem dX9_labelAt_37 : decode cX9_labelAt 37 = .ok (.aload_n 0, 1) := by decide +kernel
theorem dX9_labelAt_38 : decode cX9_labelAt 38 = .ok (.getfield 7, 3) := by decide +kernel
theorem dX9_labelAt_41 : decode cX9_labelAt 41 = .ok (.bipush 120, 2) := by decide +kernel
theorem dX9_labelAt_43 : decode cX9_labelAt 43 = .ok (.iload_n 3, 1) := by decide +kernel
theorem dX9_labelAt_44 : decode cX9_labelAt 44 = .ok (.iadd, 1) := by decide +kernel
theorem dX9_labelAt_45 : decode cX9_labelAt 45 = .ok (.iaload, 1) := by decide +kernel
theorem dX9_labelAt_46 : decode cX9_labelAt 46 = .ok (.iconst (-1), 1) := by decide +kernel
theorem dX9_labelAt_47 : decode cX9_labelAt 47 = .ok (.if_icmp .eq 24, 3) := by decide +kernel
theorem dX9_labelAt_50 : decode cX9_labelAt 50 = .ok (.aload_n 0, 1) := by decide +kernel
theorem dX9_labelAt_51 : decode cX9_labelAt 51 = .ok (.iload_n 3, 1) := by decide +kernel
theorem dX9_labelAt_52 : decode cX9_labelAt 52 = .ok (.aload_n 0, 1) := by decide +kernel
theorem dX9_labelAt_53 : decode cX9_labelAt 53 = .ok (.getfield 7, 3) := by decide +kernel
theorem dX9_labelAt_56 : decode cX9_labelAt 56 = .ok (.bipush 120, 2) := by decide +kernel
theorem dX9_labelAt_58 : decode cX9_labelAt 58 = .ok (.iload_n 3, 1) := by decide +kernel
theorem dX9_labelAt_59 : decode cX9_labelAt 59 = .ok (.iadd, 1) := by decide +kernel
theorem dX9_labelAt_60 : decode cX9_labelAt 60 = .ok (.iaload, 1) := by decide +kernel
theorem dX9_labelAt_61 : decode cX9_labelAt 61 = .ok (.iload_n 1, 1) := by decide +kernel
theorem dX9_labelAt_62 : decode cX9_labelAt 62 = .ok (.iload_n 2, 1) := by decide +kernel
theorem dX9_labelAt_63 : decode cX9_labelAt 63 = .ok (.invokevirtual 72, 3) := by decide +kernel
theorem dX9_labelAt_66 : decode cX9_labelAt 66 = .ok (.ifCond .eq 5, 3) := by decide +kernel
theorem dX9_labelAt_69 : decode cX9_labelAt 69 = .ok (.iload_n 3, 1) := by decide +kernel
theorem dX9_labelAt_70 : decode cX9_labelAt 70 = .ok (.ireturn, 1) := by decide +kernel
theorem dX9_labelAt_71 : decode cX9_labelAt 71 = .ok (.iinc 3 1, 3) := by decide +kernel
theorem dX9_labelAt_74 : decode cX9_labelAt 74 = .ok (.goto (-45), 3) := by decide +kernel
theorem dX9_labelAt_77 : decode cX9_labelAt 77 = .ok (.iconst (-1), 1) := by decide +kernel
theorem dX9_labelAt_78 : decode cX9_labelAt 78 = .ok (.ireturn, 1) := by decide +kernel
theorem dX9_escapes_0 : decode cX9_escapes 0 = .ok (.iconst 0, 1) := by decide +kernel
theorem dX9_escapes_1 : decode cX9_escapes 1 = .ok (.istore 4, 2) := by decide +kernel
theorem dX9_escapes_3 : decode cX9_escapes 3 = .ok (.iload 4, 2) := by decide +kernel
theorem dX9_escapes_5 : decode cX9_escapes 5 = .ok (.bipush 8, 2) := by decide +kernel
theorem dX9_escapes_7 : decode cX9_escapes 7 = .ok (.if_icmp .ge 76, 3) := by decide +kernel
theorem dX9_escapes_10 : decode cX9_escapes 10 = .ok (.aload_n 0, 1) := by decide +kernel
theorem dX9_escapes_11 : decode cX9_escapes 11 = .ok (.getfield 20, 3) := by decide +kernel
theorem dX9_escapes_14 : decode cX9_escapes 14 = .ok (.bipush 8, 2) := by decide +kernel
theorem dX9_escapes_16 : decode cX9_escapes 16 = .ok (.iload_n 1, 1) := by decide +kernel
theorem dX9_escapes_17 : decode cX9_escapes 17 = .ok (.imul, 1) := by decide +kernel
theorem dX9_escapes_18 : decode cX9_escapes 18 = .ok (.iload 4, 2) := by decide +kernel
theorem dX9_escapes_20 : decode cX9_escapes 20 = .ok (.iadd, 1) := by decide +kernel
theorem dX9_escapes_21 : decode cX9_escapes 21 = .ok (.baload, 1) := by decide +kernel
theorem dX9_escapes_22 : decode cX9_escapes 22 = .ok (.ifCond .eq 33, 3) := by decide +kernel
theorem dX9_escapes_25 : decode cX9_escapes 25 = .ok (.iload 4, 2) := by decide +kernel
theorem dX9_escapes_27 : decode cX9_escapes 27 = .ok (.aload_n 0, 1) := by decide +kernel
theorem dX9_escapes_28 : decode cX9_escapes 28 = .ok (.getfield 7, 3) := by decide +kernel
theorem dX9_escapes_31 : decode cX9_escapes 31 = .ok (.bipush 120, 2) := by decide +kernel
theorem dX9_escapes_33 : decode cX9_escapes 33 = .ok (.iload_n 1, 1) := by decide +kernel
theorem dX9_escapes_34 : decode cX9_escapes 34 = .ok (.iadd, 1) := by decide +kernel
theorem dX9_escapes_35 : decode cX9_escapes 35 = .ok (.iaload, 1) := by decide +kernel
theorem dX9_escapes_36 : decode cX9_escapes 36 = .ok (.if_icmp .eq 19, 3) := by decide +kernel
theorem dX9_escapes_39 : decode cX9_escapes 39 = .ok (.aload_n 0, 1) := by decide +kernel
theorem dX9_escapes_40 : decode cX9_escapes 40 = .ok (.iload_n 1, 1) := by decide +kernel
theorem dX9_escapes_41 : decode cX9_escapes 41 = .ok (.iload 4, 2) := by decide +kernel
theorem dX9_escapes_43 : decode cX9_escapes 43 = .ok (.iload_n 2, 1) := by decide +kernel
theorem dX9_escapes_44 : decode cX9_escapes 44 = .ok (.iload_n 3, 1) := by decide +kernel
theorem dX9_escapes_45 : decode cX9_escapes 45 = .ok (.invokevirtual 80, 3) := by decide +kernel
theorem dX9_escapes_48 : decode cX9_escapes 48 = .ok (.ifCond .ne 7, 3) := by decide +kernel
theorem dX9_escapes_51 : decode cX9_escapes 51 = .ok (.iconst 1, 1) := by decide +kernel
theorem dX9_escapes_52 : decode cX9_escapes 52 = .ok (.goto 4, 3) := by decide +kernel
theorem dX9_escapes_55 : decode cX9_escapes 55 = .ok (.iconst 0, 1) := by decide +kernel
theorem dX9_escapes_56 : decode cX9_escapes 56 = .ok (.istore 5, 2) := by decide +kernel
theorem dX9_escapes_58 : decode cX9_escapes 58 = .ok (.iload 5, 2) := by decide +kernel
theorem dX9_escapes_60 : decode cX9_escapes 60 = .ok (.ifCond .eq 17, 3) := by decide +kernel
theorem dX9_escapes_63 : decode cX9_escapes 63 = .ok (.aload_n 0, 1) := by decide +kernel
theorem dX9_escapes_64 : decode cX9_escapes 64 = .ok (.iload_n 1, 1) := by decide +kernel
theorem dX9_escapes_65 : decode cX9_escapes 65 = .ok (.iload 4, 2) := by decide +kernel
theorem dX9_escapes_67 : decode cX9_escapes 67 = .ok (.iconst (-1), 1) := by decide +kernel
theorem dX9_escapes_68 : decode cX9_escapes 68 = .ok (.invokevirtual 108, 3) := by decide +kernel
theorem dX9_escapes_71 : decode cX9_escapes 71 = .ok (.ifCond .ne 6, 3) := by decide +kernel
theorem dX9_escapes_74 : decode cX9_escapes 74 = .ok (.iload 4, 2) := by decide +kernel
theorem dX9_escapes_76 : decode cX9_escapes 76 = .ok (.ireturn, 1) := by decide +kernel
theorem dX9_escapes_77 : decode cX9_escapes 77 = .ok (.iinc 4 1, 3) := by decide +kernel
theorem dX9_escapes_80 : decode cX9_escapes 80 = .ok (.goto (-77), 3) := by decide +kernel
theorem dX9_escapes_83 : decode cX9_escapes 83 = .ok (.iconst (-1), 1) := by decide +kernel
theorem dX9_escapes_84 : decode cX9_escapes 84 = .ok (.ireturn, 1) := by decide +kernel
theorem dX9_makesRoom_0 : decode cX9_makesRoom 0 = .ok (.aload_n 0, 1) := by decide +kernel
theorem dX9_makesRoom_1 : decode cX9_makesRoom 1 = .ok (.iload_n 1, 1) := by decide +kernel
theorem dX9_makesRoom_2 : decode cX9_makesRoom 2 = .ok (.iload_n 2, 1) := by decide +kernel
theorem dX9_makesRoom_3 : decode cX9_makesRoom 3 = .ok (.iconst (-1), 1) := by decide +kernel
theorem dX9_makesRoom_4 : decode cX9_makesRoom 4 = .ok (.invokevirtual 108, 3) := by decide +kernel
theorem dX9_makesRoom_7 : decode cX9_makesRoom 7 = .ok (.istore_n 3, 1) := by decide +kernel
theorem dX9_makesRoom_8 : decode cX9_makesRoom 8 = .ok (.aload_n 0, 1) := by decide +kernel
theorem dX9_makesRoom_9 : decode cX9_makesRoom 9 = .ok (.iload_n 1, 1) := by decide +kernel
theorem dX9_makesRoom_10 : decode cX9_makesRoom 10 = .ok (.iload_n 2, 1) := by decide +kernel
theorem dX9_makesRoom_11 : decode cX9_makesRoom 11 = .ok (.invokevirtual 154, 3) := by decide +kernel
theorem dX9_makesRoom_14 : decode cX9_makesRoom 14 = .ok (.istore 4, 2) := by decide +kernel
theorem dX9_makesRoom_16 : decode cX9_makesRoom 16 = .ok (.iload_n 3, 1) := by decide +kernel
theorem dX9_makesRoom_17 : decode cX9_makesRoom 17 = .ok (.iconst 1, 1) := by decide +kernel
theorem dX9_makesRoom_18 : decode cX9_makesRoom 18 = .ok (.if_icmp .ne 14, 3) := by decide +kernel
theorem dX9_makesRoom_21 : decode cX9_makesRoom 21 = .ok (.aload_n 0, 1) := by decide +kernel
theorem dX9_makesRoom_22 : decode cX9_makesRoom 22 = .ok (.iload 4, 2) := by decide +kernel
theorem dX9_makesRoom_24 : decode cX9_makesRoom 24 = .ok (.iload_n 1, 1) := by decide +kernel
theorem dX9_makesRoom_25 : decode cX9_makesRoom 25 = .ok (.iload_n 2, 1) := by decide +kernel
theorem dX9_makesRoom_26 : decode cX9_makesRoom 26 = .ok (.invokevirtual 157, 3) := by decide +kernel
theorem dX9_makesRoom_29 : decode cX9_makesRoom 29 = .ok (.goto 4, 3) := by decide +kernel
theorem dX9_makesRoom_32 : decode cX9_makesRoom 32 = .ok (.iconst (-1), 1) := by decide +kernel
theorem dX9_makesRoom_33 : decode cX9_makesRoom 33 = .ok (.istore 5, 2) := by decide +kernel
theorem dX9_makesRoom_35 : decode cX9_makesRoom 35 = .ok (.iload_n 3, 1) := by decide +kernel
theorem dX9_makesRoom_36 : decode cX9_makesRoom 36 = .ok (.iconst 1, 1) := by decide +kernel
theorem dX9_makesRoom_37 : decode cX9_makesRoom 37 = .ok (.if_icmp .gt 14, 3) := by decide +kernel
theorem dX9_makesRoom_40 : decode cX9_makesRoom 40 = .ok (.iload_n 3, 1) := by decide +kernel
theorem dX9_makesRoom_41 : decode cX9_makesRoom 41 = .ok (.iconst 1, 1) := by decide +kernel
theorem dX9_makesRoom_42 : decode cX9_makesRoom 42 = .ok (.if_icmp .ne 11, 3) := by decide +kernel
theorem dX9_makesRoom_45 : decode cX9_makesRoom 45 = .ok (.iload 5, 2) := by decide +kernel
theorem dX9_makesRoom_47 : decode cX9_makesRoom 47 = .ok (.iconst (-1), 1) := by decide +kernel
theorem dX9_makesRoom_48 : decode cX9_makesRoom 48 = .ok (.if_icmp .ne 5, 3) := by decide +kernel
theorem dX9_makesRoom_51 : decode cX9_makesRoom 51 = .ok (.iconst 0, 1) := by decide +kernel
theorem dX9_makesRoom_52 : decode cX9_makesRoom 52 = .ok (.ireturn, 1) := by decide +kernel
theorem dX9_makesRoom_53 : decode cX9_makesRoom 53 = .ok (.iload_n 3, 1) := by decide +kernel
theorem dX9_makesRoom_54 : decode cX9_makesRoom 54 = .ok (.iconst 1, 1) := by decide +kernel
theorem dX9_makesRoom_55 : decode cX9_makesRoom 55 = .ok (.if_icmp .ne 15, 3) := by decide +kernel
theorem dX9_makesRoom_58 : decode cX9_makesRoom 58 = .ok (.aload_n 0, 1) := by decide +kernel
theorem dX9_makesRoom_59 : decode cX9_makesRoom 59 = .ok (.getfield 7, 3) := by decide +kernel
theorem dX9_makesRoom_62 : decode cX9_makesRoom 62 = .ok (.bipush 120, 2) := by decide +kernel
theorem dX9_makesRoom_64 : decode cX9_makesRoom 64 = .ok (.iload 4, 2) := by decide +kernel
theorem dX9_makesRoom_66 : decode cX9_makesRoom 66 = .ok (.iadd, 1) := by decide +kernel
theorem dX9_makesRoom_67 : decode cX9_makesRoom 67 = .ok (.iload 5, 2) := by decide +kernel
theorem dX9_makesRoom_69 : decode cX9_makesRoom 69 = .ok (.iastore, 1) := by decide +kernel
theorem dX9_makesRoom_70 : decode cX9_makesRoom 70 = .ok (.aload_n 0, 1) := by decide +kernel
theorem dX9_makesRoom_71 : decode cX9_makesRoom 71 = .ok (.getfield 7, 3) := by decide +kernel
theorem dX9_makesRoom_74 : decode cX9_makesRoom 74 = .ok (.bipush 120, 2) := by decide +kernel
theorem dX9_makesRoom_76 : decode cX9_makesRoom 76 = .ok (.iload_n 1, 1) := by decide +kernel
theorem dX9_makesRoom_77 : decode cX9_makesRoom 77 = .ok (.iadd, 1) := by decide +kernel
theorem dX9_makesRoom_78 : decode cX9_makesRoom 78 = .ok (.iload_n 2, 1) := by decide +kernel
theorem dX9_makesRoom_79 : decode cX9_makesRoom 79 = .ok (.iastore, 1) := by decide +kernel
theorem dX9_makesRoom_80 : decode cX9_makesRoom 80 = .ok (.iconst 1, 1) := by decide +kernel
theorem dX9_makesRoom_81 : decode cX9_makesRoom 81 = .ok (.ireturn, 1) := by decide +kernel
theorem dX9_improve_0 : decode cX9_improve 0 = .ok (.aload_n 0, 1) := by decide +kernel
theorem dX9_improve_1 : decode cX9_improve 1 = .ok (.invokevirtual 83, 3) := by decide +kernel
theorem dX9_improve_4 : decode cX9_improve 4 = .ok (.aload_n 0, 1) := by decide +kernel
theorem dX9_improve_5 : decode cX9_improve 5 = .ok (.invokevirtual 148, 3) := by decide +kernel
theorem dX9_improve_8 : decode cX9_improve 8 = .ok (.iconst 0, 1) := by decide +kernel
theorem dX9_improve_9 : decode cX9_improve 9 = .ok (.istore_n 1, 1) := by decide +kernel
theorem dX9_improve_10 : decode cX9_improve 10 = .ok (.iconst 0, 1) := by decide +kernel
theorem dX9_improve_11 : decode cX9_improve 11 = .ok (.istore_n 2, 1) := by decide +kernel
theorem dX9_improve_12 : decode cX9_improve 12 = .ok (.iload_n 2, 1) := by decide +kernel
theorem dX9_improve_13 : decode cX9_improve 13 = .ok (.aload_n 0, 1) := by decide +kernel
theorem dX9_improve_14 : decode cX9_improve 14 = .ok (.getfield 48, 3) := by decide +kernel
theorem dX9_improve_17 : decode cX9_improve 17 = .ok (.if_icmp .ge 68, 3) := by decide +kernel
theorem dX9_improve_20 : decode cX9_improve 20 = .ok (.aload_n 0, 1) := by decide +kernel
theorem dX9_improve_21 : decode cX9_improve 21 = .ok (.getfield 24, 3) := by decide +kernel
theorem dX9_improve_24 : decode cX9_improve 24 = .ok (.iload_n 2, 1) := by decide +kernel
theorem dX9_improve_25 : decode cX9_improve 25 = .ok (.iaload, 1) := by decide +kernel
theorem dX9_improve_26 : decode cX9_improve 26 = .ok (.istore_n 3, 1) := by decide +kernel
theorem dX9_improve_27 : decode cX9_improve 27 = .ok (.iconst 0, 1) := by decide +kernel
theorem dX9_improve_28 : decode cX9_improve 28 = .ok (.istore 4, 2) := by decide +kernel
theorem dX9_improve_30 : decode cX9_improve 30 = .ok (.iload 4, 2) := by decide +kernel
theorem dX9_improve_32 : decode cX9_improve 32 = .ok (.bipush 8, 2) := by decide +kernel
theorem dX9_improve_34 : decode cX9_improve 34 = .ok (.if_icmp .ge 45, 3) := by decide +kernel
theorem dX9_improve_37 : decode cX9_improve 37 = .ok (.aload_n 0, 1) := by decide +kernel
theorem dX9_improve_38 : decode cX9_improve 38 = .ok (.iload_n 3, 1) := by decide +kernel
theorem dX9_improve_39 : decode cX9_improve 39 = .ok (.invokevirtual 151, 3) := by decide +kernel
theorem dX9_improve_42 : decode cX9_improve 42 = .ok (.ifCond .eq 37, 3) := by decide +kernel
theorem dX9_improve_45 : decode cX9_improve 45 = .ok (.aload_n 0, 1) := by decide +kernel
theorem dX9_improve_46 : decode cX9_improve 46 = .ok (.getfield 20, 3) := by decide +kernel
theorem dX9_improve_49 : decode cX9_improve 49 = .ok (.bipush 8, 2) := by decide +kernel
theorem dX9_improve_51 : decode cX9_improve 51 = .ok (.iload_n 3, 1) := by decide +kernel
theorem dX9_improve_52 : decode cX9_improve 52 = .ok (.imul, 1) := by decide +kernel
theorem dX9_improve_53 : decode cX9_improve 53 = .ok (.iload 4, 2) := by decide +kernel
theorem dX9_improve_55 : decode cX9_improve 55 = .ok (.iadd, 1) := by decide +kernel
theorem dX9_improve_56 : decode cX9_improve 56 = .ok (.baload, 1) := by decide +kernel
theorem dX9_improve_57 : decode cX9_improve 57 = .ok (.ifCond .eq 16, 3) := by decide +kernel
theorem dX9_improve_60 : decode cX9_improve 60 = .ok (.aload_n 0, 1) := by decide +kernel
theorem dX9_improve_61 : decode cX9_improve 61 = .ok (.iload_n 3, 1) := by decide +kernel
theorem dX9_improve_62 : decode cX9_improve 62 = .ok (.iload 4, 2) := by decide +kernel
theorem dX9_improve_64 : decode cX9_improve 64 = .ok (.invokevirtual 160, 3) := by decide +kernel
theorem dX9_improve_67 : decode cX9_improve 67 = .ok (.ifCond .eq 6, 3) := by decide +kernel
theorem dX9_improve_70 : decode cX9_improve 70 = .ok (.iinc 1 1, 3) := by decide +kernel
theorem dX9_improve_73 : decode cX9_improve 73 = .ok (.iinc 4 1, 3) := by decide +kernel
theorem dX9_improve_76 : decode cX9_improve 76 = .ok (.goto (-46), 3) := by decide +kernel
theorem dX9_improve_79 : decode cX9_improve 79 = .ok (.iinc 2 1, 3) := by decide +kernel
theorem dX9_improve_82 : decode cX9_improve 82 = .ok (.goto (-70), 3) := by decide +kernel
theorem dX9_improve_85 : decode cX9_improve 85 = .ok (.iload_n 1, 1) := by decide +kernel
theorem dX9_improve_86 : decode cX9_improve 86 = .ok (.ireturn, 1) := by decide +kernel
theorem dX9_isStronger_0 : decode cX9_isStronger 0 = .ok (.aload_n 0, 1) := by decide +kernel
theorem dX9_isStronger_1 : decode cX9_isStronger 1 = .ok (.getfield 20, 3) := by decide +kernel
theorem dX9_isStronger_4 : decode cX9_isStronger 4 = .ok (.bipush 8, 2) := by decide +kernel
theorem dX9_isStronger_6 : decode cX9_isStronger 6 = .ok (.iload_n 1, 1) := by decide +kernel
theorem dX9_isStronger_7 : decode cX9_isStronger 7 = .ok (.imul, 1) := by decide +kernel
theorem dX9_isStronger_8 : decode cX9_isStronger 8 = .ok (.iload_n 2, 1) := by decide +kernel
theorem dX9_isStronger_9 : decode cX9_isStronger 9 = .ok (.iadd, 1) := by decide +kernel
theorem dX9_isStronger_10 : decode cX9_isStronger 10 = .ok (.baload, 1) := by decide +kernel
theorem dX9_isStronger_11 : decode cX9_isStronger 11 = .ok (.istore_n 3, 1) := by decide +kernel
theorem dX9_isStronger_12 : decode cX9_isStronger 12 = .ok (.iconst 0, 1) := by decide +kernel
theorem dX9_isStronger_13 : decode cX9_isStronger 13 = .ok (.istore 4, 2) := by decide +kernel
theorem dX9_isStronger_15 : decode cX9_isStronger 15 = .ok (.iload 4, 2) := by decide +kernel
theorem dX9_isStronger_17 : decode cX9_isStronger 17 = .ok (.aload_n 0, 1) := by decide +kernel
theorem dX9_isStronger_18 : decode cX9_isStronger 18 = .ok (.getfield 48, 3) := by decide +kernel
theorem dX9_isStronger_21 : decode cX9_isStronger 21 = .ok (.if_icmp .ge 94, 3) := by decide +kernel
theorem dX9_isStronger_24 : decode cX9_isStronger 24 = .ok (.iload_n 3, 1) := by decide +kernel
theorem dX9_isStronger_25 : decode cX9_isStronger 25 = .ok (.ifCond .eq 90, 3) := by decide +kernel
theorem dX9_isStronger_28 : decode cX9_isStronger 28 = .ok (.iload 4, 2) := by decide +kernel
theorem dX9_isStronger_30 : decode cX9_isStronger 30 = .ok (.iload_n 1, 1) := by decide +kernel
theorem dX9_isStronger_31 : decode cX9_isStronger 31 = .ok (.if_icmp .eq 42, 3) := by decide +kernel
theorem dX9_isStronger_34 : decode cX9_isStronger 34 = .ok (.aload_n 0, 1) := by decide +kernel
theorem dX9_isStronger_35 : decode cX9_isStronger 35 = .ok (.getfield 7, 3) := by decide +kernel
theorem dX9_isStronger_38 : decode cX9_isStronger 38 = .ok (.bipush 120, 2) := by decide +kernel
theorem dX9_isStronger_40 : decode cX9_isStronger 40 = .ok (.iload 4, 2) := by decide +kernel
theorem dX9_isStronger_42 : decode cX9_isStronger 42 = .ok (.iadd, 1) := by decide +kernel
theorem dX9_isStronger_43 : decode cX9_isStronger 43 = .ok (.iaload, 1) := by decide +kernel
theorem dX9_isStronger_44 : decode cX9_isStronger 44 = .ok (.iconst (-1), 1) := by decide +kernel
theorem dX9_isStronger_45 : decode cX9_isStronger 45 = .ok (.if_icmp .eq 28, 3) := by decide +kernel
theorem dX9_isStronger_48 : decode cX9_isStronger 48 = .ok (.aload_n 0, 1) := by decide +kernel
theorem dX9_isStronger_49 : decode cX9_isStronger 49 = .ok (.iload_n 1, 1) := by decide +kernel
theorem dX9_isStronger_50 : decode cX9_isStronger 50 = .ok (.iload_n 2, 1) := by decide +kernel
theorem dX9_isStronger_51 : decode cX9_isStronger 51 = .ok (.iload 4, 2) := by decide +kernel
theorem dX9_isStronger_53 : decode cX9_isStronger 53 = .ok (.aload_n 0, 1) := by decide +kernel
theorem dX9_isStronger_54 : decode cX9_isStronger 54 = .ok (.getfield 7, 3) := by decide +kernel
theorem dX9_isStronger_57 : decode cX9_isStronger 57 = .ok (.bipush 120, 2) := by decide +kernel
theorem dX9_isStronger_59 : decode cX9_isStronger 59 = .ok (.iload 4, 2) := by decide +kernel
theorem dX9_isStronger_61 : decode cX9_isStronger 61 = .ok (.iadd, 1) := by decide +kernel
theorem dX9_isStronger_62 : decode cX9_isStronger 62 = .ok (.iaload, 1) := by decide +kernel
theorem dX9_isStronger_63 : decode cX9_isStronger 63 = .ok (.invokevirtual 80, 3) := by decide +kernel
theorem dX9_isStronger_66 : decode cX9_isStronger 66 = .ok (.ifCond .eq 7, 3) := by decide +kernel
theorem dX9_isStronger_69 : decode cX9_isStronger 69 = .ok (.iconst 1, 1) := by decide +kernel
theorem dX9_isStronger_70 : decode cX9_isStronger 70 = .ok (.goto 4, 3) := by decide +kernel
theorem dX9_isStronger_73 : decode cX9_isStronger 73 = .ok (.iconst 0, 1) := by decide +kernel
theorem dX9_isStronger_74 : decode cX9_isStronger 74 = .ok (.istore 5, 2) := by decide +kernel
theorem dX9_isStronger_76 : decode cX9_isStronger 76 = .ok (.iload 5, 2) := by decide +kernel
theorem dX9_isStronger_78 : decode cX9_isStronger 78 = .ok (.ifCond .eq 25, 3) := by decide +kernel
theorem dX9_isStronger_81 : decode cX9_isStronger 81 = .ok (.aload_n 0, 1) := by decide +kernel
theorem dX9_isStronger_82 : decode cX9_isStronger 82 = .ok (.getfield 7, 3) := by decide +kernel
theorem dX9_isStronger_85 : decode cX9_isStronger 85 = .ok (.bipush 80, 2) := by decide +kernel
theorem dX9_isStronger_87 : decode cX9_isStronger 87 = .ok (.iload 4, 2) := by decide +kernel
theorem dX9_isStronger_89 : decode cX9_isStronger 89 = .ok (.iadd, 1) := by decide +kernel
theorem dX9_isStronger_90 : decode cX9_isStronger 90 = .ok (.iaload, 1) := by decide +kernel
theorem dX9_isStronger_91 : decode cX9_isStronger 91 = .ok (.aload_n 0, 1) := by decide +kernel
theorem dX9_isStronger_92 : decode cX9_isStronger 92 = .ok (.getfield 7, 3) := by decide +kernel
theorem dX9_isStronger_95 : decode cX9_isStronger 95 = .ok (.bipush 80, 2) := by decide +kernel
theorem dX9_isStronger_97 : decode cX9_isStronger 97 = .ok (.iload_n 1, 1) := by decide +kernel
theorem dX9_isStronger_98 : decode cX9_isStronger 98 = .ok (.iadd, 1) := by decide +kernel
theorem dX9_isStronger_99 : decode cX9_isStronger 99 = .ok (.iaload, 1) := by decide +kernel
theorem dX9_isStronger_100 : decode cX9_isStronger 100 = .ok (.if_icmp .ge 7, 3) := by decide +kernel
theorem dX9_isStronger_103 : decode cX9_isStronger 103 = .ok (.iconst 1, 1) := by decide +kernel
theorem dX9_isStronger_104 : decode cX9_isStronger 104 = .ok (.goto 4, 3) := by decide +kernel
theorem dX9_isStronger_107 : decode cX9_isStronger 107 = .ok (.iconst 0, 1) := by decide +kernel
theorem dX9_isStronger_108 : decode cX9_isStronger 108 = .ok (.istore_n 3, 1) := by decide +kernel
theorem dX9_isStronger_109 : decode cX9_isStronger 109 = .ok (.iinc 4 1, 3) := by decide +kernel
theorem dX9_isStronger_112 : decode cX9_isStronger 112 = .ok (.goto (-97), 3) := by decide +kernel
theorem dX9_isStronger_115 : decode cX9_isStronger 115 = .ok (.iload_n 3, 1) := by decide +kernel
theorem dX9_isStronger_116 : decode cX9_isStronger 116 = .ok (.ireturn, 1) := by decide +kernel
theorem dX9_strongest_0 : decode cX9_strongest 0 = .ok (.iconst 0, 1) := by decide +kernel
theorem dX9_strongest_1 : decode cX9_strongest 1 = .ok (.istore_n 2, 1) := by decide +kernel
theorem dX9_strongest_2 : decode cX9_strongest 2 = .ok (.iload_n 2, 1) := by decide +kernel
theorem dX9_strongest_3 : decode cX9_strongest 3 = .ok (.bipush 8, 2) := by decide +kernel
theorem dX9_strongest_5 : decode cX9_strongest 5 = .ok (.if_icmp .ge 28, 3) := by decide +kernel
theorem dX9_strongest_8 : decode cX9_strongest 8 = .ok (.aload_n 0, 1) := by decide +kernel
theorem dX9_strongest_9 : decode cX9_strongest 9 = .ok (.iload_n 1, 1) := by decide +kernel
theorem dX9_strongest_10 : decode cX9_strongest 10 = .ok (.invokevirtual 151, 3) := by decide +kernel
theorem dX9_strongest_13 : decode cX9_strongest 13 = .ok (.ifCond .eq 14, 3) := by decide +kernel
theorem dX9_strongest_16 : decode cX9_strongest 16 = .ok (.aload_n 0, 1) := by decide +kernel
theorem dX9_strongest_17 : decode cX9_strongest 17 = .ok (.iload_n 1, 1) := by decide +kernel
theorem dX9_strongest_18 : decode cX9_strongest 18 = .ok (.iload_n 2, 1) := by decide +kernel
theorem dX9_strongest_19 : decode cX9_strongest 19 = .ok (.invokevirtual 163, 3) := by decide +kernel
theorem dX9_strongest_22 : decode cX9_strongest 22 = .ok (.ifCond .eq 5, 3) := by decide +kernel
theorem dX9_strongest_25 : decode cX9_strongest 25 = .ok (.iload_n 2, 1) := by decide +kernel
theorem dX9_strongest_26 : decode cX9_strongest 26 = .ok (.ireturn, 1) := by decide +kernel
theorem dX9_strongest_27 : decode cX9_strongest 27 = .ok (.iinc 2 1, 3) := by decide +kernel
theorem dX9_strongest_30 : decode cX9_strongest 30 = .ok (.goto (-28), 3) := by decide +kernel
theorem dX9_strongest_33 : decode cX9_strongest 33 = .ok (.iconst (-1), 1) := by decide +kernel
theorem dX9_strongest_34 : decode cX9_strongest 34 = .ok (.ireturn, 1) := by decide +kernel
theorem dX9_pushes_0 : decode cX9_pushes 0 = .ok (.iconst 0, 1) := by decide +kernel
theorem dX9_pushes_1 : decode cX9_pushes 1 = .ok (.istore_n 1, 1) := by decide +kernel
theorem dX9_pushes_2 : decode cX9_pushes 2 = .ok (.iload_n 1, 1) := by decide +kernel
theorem dX9_pushes_3 : decode cX9_pushes 3 = .ok (.aload_n 0, 1) := by decide +kernel
theorem dX9_pushes_4 : decode cX9_pushes 4 = .ok (.getfield 48, 3) := by decide +kernel
theorem dX9_pushes_7 : decode cX9_pushes 7 = .ok (.if_icmp .ge 134, 3) := by decide +kernel
theorem dX9_pushes_10 : decode cX9_pushes 10 = .ok (.aload_n 0, 1) := by decide +kernel
theorem dX9_pushes_11 : decode cX9_pushes 11 = .ok (.getfield 24, 3) := by decide +kernel
theorem dX9_pushes_14 : decode cX9_pushes 14 = .ok (.iload_n 1, 1) := by decide +kernel
theorem dX9_pushes_15 : decode cX9_pushes 15 = .ok (.iaload, 1) := by decide +kernel
theorem dX9_pushes_16 : decode cX9_pushes 16 = .ok (.istore_n 2, 1) := by decide +kernel
theorem dX9_pushes_17 : decode cX9_pushes 17 = .ok (.aload_n 0, 1) := by decide +kernel
theorem dX9_pushes_18 : decode cX9_pushes 18 = .ok (.iload_n 2, 1) := by decide +kernel
theorem dX9_pushes_19 : decode cX9_pushes 19 = .ok (.invokevirtual 166, 3) := by decide +kernel
theorem dX9_pushes_22 : decode cX9_pushes 22 = .ok (.istore_n 3, 1) := by decide +kernel
theorem dX9_pushes_23 : decode cX9_pushes 23 = .ok (.iload_n 3, 1) := by decide +kernel
theorem dX9_pushes_24 : decode cX9_pushes 24 = .ok (.iconst (-1), 1) := by decide +kernel
theorem dX9_pushes_25 : decode cX9_pushes 25 = .ok (.if_icmp .eq 110, 3) := by decide +kernel
theorem dX9_pushes_28 : decode cX9_pushes 28 = .ok (.iconst 0, 1) := by decide +kernel
theorem dX9_pushes_29 : decode cX9_pushes 29 = .ok (.istore 4, 2) := by decide +kernel
theorem dX9_pushes_31 : decode cX9_pushes 31 = .ok (.iload 4, 2) := by decide +kernel
theorem dX9_pushes_33 : decode cX9_pushes 33 = .ok (.aload_n 0, 1) := by decide +kernel
theorem dX9_pushes_34 : decode cX9_pushes 34 = .ok (.getfield 48, 3) := by decide +kernel
theorem dX9_pushes_37 : decode cX9_pushes 37 = .ok (.if_icmp .ge 86, 3) := by decide +kernel
theorem dX9_pushes_40 : decode cX9_pushes 40 = .ok (.iload 4, 2) := by decide +kernel
theorem dX9_pushes_42 : decode cX9_pushes 42 = .ok (.iload_n 2, 1) := by decide +kernel
theorem dX9_pushes_43 : decode cX9_pushes 43 = .ok (.if_icmp .eq 42, 3) := by decide +kernel
theorem dX9_pushes_46 : decode cX9_pushes 46 = .ok (.aload_n 0, 1) := by decide +kernel
theorem dX9_pushes_47 : decode cX9_pushes 47 = .ok (.getfield 7, 3) := by decide +kernel
theorem dX9_pushes_50 : decode cX9_pushes 50 = .ok (.bipush 120, 2) := by decide +kernel
theorem dX9_pushes_52 : decode cX9_pushes 52 = .ok (.iload 4, 2) := by decide +kernel
theorem dX9_pushes_54 : decode cX9_pushes 54 = .ok (.iadd, 1) := by decide +kernel
theorem dX9_pushes_55 : decode cX9_pushes 55 = .ok (.iaload, 1) := by decide +kernel
theorem dX9_pushes_56 : decode cX9_pushes 56 = .ok (.iconst (-1), 1) := by decide +kernel
theorem dX9_pushes_57 : decode cX9_pushes 57 = .ok (.if_icmp .eq 28, 3) := by decide +kernel
theorem dX9_pushes_60 : decode cX9_pushes 60 = .ok (.aload_n 0, 1) := by decide +kernel
theorem dX9_pushes_61 : decode cX9_pushes 61 = .ok (.iload_n 2, 1) := by decide +kernel
theorem dX9_pushes_62 : decode cX9_pushes 62 = .ok (.iload_n 3, 1) := by decide +kernel
theorem dX9_pushes_63 : decode cX9_pushes 63 = .ok (.iload 4, 2) := by decide +kernel
theorem dX9_pushes_65 : decode cX9_pushes 65 = .ok (.aload_n 0, 1) := by decide +kernel
theorem dX9_pushes_66 : decode cX9_pushes 66 = .ok (.getfield 7, 3) := by decide +kernel
theorem dX9_pushes_69 : decode cX9_pushes 69 = .ok (.bipush 120, 2) := by decide +kernel
theorem dX9_pushes_71 : decode cX9_pushes 71 = .ok (.iload 4, 2) := by decide +kernel
theorem dX9_pushes_73 : decode cX9_pushes 73 = .ok (.iadd, 1) := by decide +kernel
theorem dX9_pushes_74 : decode cX9_pushes 74 = .ok (.iaload, 1) := by decide +kernel
theorem dX9_pushes_75 : decode cX9_pushes 75 = .ok (.invokevirtual 80, 3) := by decide +kernel
theorem dX9_pushes_78 : decode cX9_pushes 78 = .ok (.ifCond .eq 7, 3) := by decide +kernel
theorem dX9_pushes_81 : decode cX9_pushes 81 = .ok (.iconst 1, 1) := by decide +kernel
theorem dX9_pushes_82 : decode cX9_pushes 82 = .ok (.goto 4, 3) := by decide +kernel
theorem dX9_pushes_85 : decode cX9_pushes 85 = .ok (.iconst 0, 1) := by decide +kernel
theorem dX9_pushes_86 : decode cX9_pushes 86 = .ok (.istore 5, 2) := by decide +kernel
theorem dX9_pushes_88 : decode cX9_pushes 88 = .ok (.aload_n 0, 1) := by decide +kernel
theorem dX9_pushes_89 : decode cX9_pushes 89 = .ok (.getfield 7, 3) := by decide +kernel
theorem dX9_pushes_92 : decode cX9_pushes 92 = .ok (.bipush 120, 2) := by decide +kernel
theorem dX9_pushes_94 : decode cX9_pushes 94 = .ok (.iload 4, 2) := by decide +kernel
theorem dX9_pushes_96 : decode cX9_pushes 96 = .ok (.iadd, 1) := by decide +kernel
theorem dX9_pushes_97 : decode cX9_pushes 97 = .ok (.iload 5, 2) := by decide +kernel
theorem dX9_pushes_99 : decode cX9_pushes 99 = .ok (.ifCond .eq 7, 3) := by decide +kernel
theorem dX9_pushes_102 : decode cX9_pushes 102 = .ok (.iconst (-1), 1) := by decide +kernel
theorem dX9_pushes_103 : decode cX9_pushes 103 = .ok (.goto 13, 3) := by decide +kernel
theorem dX9_pushes_106 : decode cX9_pushes 106 = .ok (.aload_n 0, 1) := by decide +kernel
theorem dX9_pushes_107 : decode cX9_pushes 107 = .ok (.getfield 7, 3) := by decide +kernel
theorem dX9_pushes_110 : decode cX9_pushes 110 = .ok (.bipush 120, 2) := by decide +kernel
theorem dX9_pushes_112 : decode cX9_pushes 112 = .ok (.iload 4, 2) := by decide +kernel
theorem dX9_pushes_114 : decode cX9_pushes 114 = .ok (.iadd, 1) := by decide +kernel
theorem dX9_pushes_115 : decode cX9_pushes 115 = .ok (.iaload, 1) := by decide +kernel
theorem dX9_pushes_116 : decode cX9_pushes 116 = .ok (.iastore, 1) := by decide +kernel
theorem dX9_pushes_117 : decode cX9_pushes 117 = .ok (.iinc 4 1, 3) := by decide +kernel
theorem dX9_pushes_120 : decode cX9_pushes 120 = .ok (.goto (-89), 3) := by decide +kernel
theorem dX9_pushes_123 : decode cX9_pushes 123 = .ok (.aload_n 0, 1) := by decide +kernel
theorem dX9_pushes_124 : decode cX9_pushes 124 = .ok (.getfield 7, 3) := by decide +kernel
theorem dX9_pushes_127 : decode cX9_pushes 127 = .ok (.bipush 120, 2) := by decide +kernel
theorem dX9_pushes_129 : decode cX9_pushes 129 = .ok (.iload_n 2, 1) := by decide +kernel
theorem dX9_pushes_130 : decode cX9_pushes 130 = .ok (.iadd, 1) := by decide +kernel
theorem dX9_pushes_131 : decode cX9_pushes 131 = .ok (.iload_n 3, 1) := by decide +kernel
theorem dX9_pushes_132 : decode cX9_pushes 132 = .ok (.iastore, 1) := by decide +kernel
theorem dX9_pushes_133 : decode cX9_pushes 133 = .ok (.iconst 1, 1) := by decide +kernel
theorem dX9_pushes_134 : decode cX9_pushes 134 = .ok (.ireturn, 1) := by decide +kernel
theorem dX9_pushes_135 : decode cX9_pushes 135 = .ok (.iinc 1 1, 3) := by decide +kernel
theorem dX9_pushes_138 : decode cX9_pushes 138 = .ok (.goto (-136), 3) := by decide +kernel
theorem dX9_pushes_141 : decode cX9_pushes 141 = .ok (.iconst 0, 1) := by decide +kernel
theorem dX9_pushes_142 : decode cX9_pushes 142 = .ok (.ireturn, 1) := by decide +kernel
theorem dX9_push_0 : decode cX9_push 0 = .ok (.aload_n 0, 1) := by decide +kernel
theorem dX9_push_1 : decode cX9_push 1 = .ok (.invokevirtual 83, 3) := by decide +kernel
theorem dX9_push_4 : decode cX9_push 4 = .ok (.aload_n 0, 1) := by decide +kernel
theorem dX9_push_5 : decode cX9_push 5 = .ok (.invokevirtual 148, 3) := by decide +kernel
theorem dX9_push_8 : decode cX9_push 8 = .ok (.iconst 0, 1) := by decide +kernel
theorem dX9_push_9 : decode cX9_push 9 = .ok (.istore_n 1, 1) := by decide +kernel
theorem dX9_push_10 : decode cX9_push 10 = .ok (.aload_n 0, 1) := by decide +kernel
theorem dX9_push_11 : decode cX9_push 11 = .ok (.invokevirtual 169, 3) := by decide +kernel
theorem dX9_push_14 : decode cX9_push 14 = .ok (.istore_n 2, 1) := by decide +kernel
theorem dX9_push_15 : decode cX9_push 15 = .ok (.iload_n 2, 1) := by decide +kernel
theorem dX9_push_16 : decode cX9_push 16 = .ok (.ifCond .eq 14, 3) := by decide +kernel
theorem dX9_push_19 : decode cX9_push 19 = .ok (.iinc 1 1, 3) := by decide +kernel
theorem dX9_push_22 : decode cX9_push 22 = .ok (.aload_n 0, 1) := by decide +kernel
theorem dX9_push_23 : decode cX9_push 23 = .ok (.invokevirtual 169, 3) := by decide +kernel
theorem dX9_push_26 : decode cX9_push 26 = .ok (.istore_n 2, 1) := by decide +kernel
theorem dX9_push_27 : decode cX9_push 27 = .ok (.goto (-12), 3) := by decide +kernel
theorem dX9_push_30 : decode cX9_push 30 = .ok (.iload_n 1, 1) := by decide +kernel
theorem dX9_push_31 : decode cX9_push 31 = .ok (.ireturn, 1) := by decide +kernel
theorem dX9_show_0 : decode cX9_show 0 = .ok (.aload_n 0, 1) := by decide +kernel
theorem dX9_show_1 : decode cX9_show 1 = .ok (.iload_n 1, 1) := by decide +kernel
theorem dX9_show_2 : decode cX9_show 2 = .ok (.invokevirtual 105, 3) := by decide +kernel
theorem dX9_show_5 : decode cX9_show 5 = .ok (.ifCond .eq 15, 3) := by decide +kernel
theorem dX9_show_8 : decode cX9_show 8 = .ok (.iload_n 2, 1) := by decide +kernel
theorem dX9_show_9 : decode cX9_show 9 = .ok (.iconst (-1), 1) := by decide +kernel
theorem dX9_show_10 : decode cX9_show 10 = .ok (.if_icmp .eq 13, 3) := by decide +kernel
theorem dX9_show_13 : decode cX9_show 13 = .ok (.iload_n 2, 1) := by decide +kernel
theorem dX9_show_14 : decode cX9_show 14 = .ok (.invokestatic 140, 3) := by decide +kernel
theorem dX9_show_17 : decode cX9_show 17 = .ok (.ifCond .ne 6, 3) := by decide +kernel
theorem dX9_show_20 : decode cX9_show 20 = .ok (.bipush (-2), 2) := by decide +kernel
theorem dX9_show_22 : decode cX9_show 22 = .ok (.ireturn, 1) := by decide +kernel
theorem dX9_show_23 : decode cX9_show 23 = .ok (.aload_n 0, 1) := by decide +kernel
theorem dX9_show_24 : decode cX9_show 24 = .ok (.invokevirtual 83, 3) := by decide +kernel
theorem dX9_show_27 : decode cX9_show 27 = .ok (.iload_n 2, 1) := by decide +kernel
theorem dX9_show_28 : decode cX9_show 28 = .ok (.iconst (-1), 1) := by decide +kernel
theorem dX9_show_29 : decode cX9_show 29 = .ok (.if_icmp .eq 30, 3) := by decide +kernel
theorem dX9_show_32 : decode cX9_show 32 = .ok (.aload_n 0, 1) := by decide +kernel
theorem dX9_show_33 : decode cX9_show 33 = .ok (.getfield 20, 3) := by decide +kernel
theorem dX9_show_36 : decode cX9_show 36 = .ok (.bipush 8, 2) := by decide +kernel
theorem dX9_show_38 : decode cX9_show 38 = .ok (.iload_n 1, 1) := by decide +kernel
theorem dX9_show_39 : decode cX9_show 39 = .ok (.imul, 1) := by decide +kernel
theorem dX9_show_40 : decode cX9_show 40 = .ok (.iload_n 2, 1) := by decide +kernel
theorem dX9_show_41 : decode cX9_show 41 = .ok (.iadd, 1) := by decide +kernel
theorem dX9_show_42 : decode cX9_show 42 = .ok (.baload, 1) := by decide +kernel
theorem dX9_show_43 : decode cX9_show 43 = .ok (.ifCond .eq 13, 3) := by decide +kernel
theorem dX9_show_46 : decode cX9_show 46 = .ok (.aload_n 0, 1) := by decide +kernel
theorem dX9_show_47 : decode cX9_show 47 = .ok (.iload_n 1, 1) := by decide +kernel
theorem dX9_show_48 : decode cX9_show 48 = .ok (.iload_n 2, 1) := by decide +kernel
theorem dX9_show_49 : decode cX9_show 49 = .ok (.iconst (-1), 1) := by decide +kernel
theorem dX9_show_50 : decode cX9_show 50 = .ok (.invokevirtual 108, 3) := by decide +kernel
theorem dX9_show_53 : decode cX9_show 53 = .ok (.ifCond .le 6, 3) := by decide +kernel
theorem dX9_show_56 : decode cX9_show 56 = .ok (.bipush (-3), 2) := by decide +kernel
theorem dX9_show_58 : decode cX9_show 58 = .ok (.ireturn, 1) := by decide +kernel
theorem dX9_show_59 : decode cX9_show 59 = .ok (.aload_n 0, 1) := by decide +kernel
theorem dX9_show_60 : decode cX9_show 60 = .ok (.getfield 7, 3) := by decide +kernel
theorem dX9_show_63 : decode cX9_show 63 = .ok (.bipush 120, 2) := by decide +kernel
theorem dX9_show_65 : decode cX9_show 65 = .ok (.iload_n 1, 1) := by decide +kernel
theorem dX9_show_66 : decode cX9_show 66 = .ok (.iadd, 1) := by decide +kernel
theorem dX9_show_67 : decode cX9_show 67 = .ok (.iaload, 1) := by decide +kernel
theorem dX9_show_68 : decode cX9_show 68 = .ok (.istore_n 3, 1) := by decide +kernel
theorem dX9_show_69 : decode cX9_show 69 = .ok (.aload_n 0, 1) := by decide +kernel
theorem dX9_show_70 : decode cX9_show 70 = .ok (.getfield 7, 3) := by decide +kernel
theorem dX9_show_73 : decode cX9_show 73 = .ok (.bipush 120, 2) := by decide +kernel
theorem dX9_show_75 : decode cX9_show 75 = .ok (.iload_n 1, 1) := by decide +kernel
theorem dX9_show_76 : decode cX9_show 76 = .ok (.iadd, 1) := by decide +kernel
theorem dX9_show_77 : decode cX9_show 77 = .ok (.iload_n 2, 1) := by decide +kernel
theorem dX9_show_78 : decode cX9_show 78 = .ok (.iastore, 1) := by decide +kernel
theorem dX9_show_79 : decode cX9_show 79 = .ok (.iload_n 3, 1) := by decide +kernel
theorem dX9_show_80 : decode cX9_show 80 = .ok (.ireturn, 1) := by decide +kernel
theorem dX9_hideAll_0 : decode cX9_hideAll 0 = .ok (.aload_n 0, 1) := by decide +kernel
theorem dX9_hideAll_1 : decode cX9_hideAll 1 = .ok (.invokevirtual 129, 3) := by decide +kernel
theorem dX9_hideAll_4 : decode cX9_hideAll 4 = .ok (.istore_n 1, 1) := by decide +kernel
theorem dX9_hideAll_5 : decode cX9_hideAll 5 = .ok (.iconst 0, 1) := by decide +kernel
theorem dX9_hideAll_6 : decode cX9_hideAll 6 = .ok (.istore_n 2, 1) := by decide +kernel
theorem dX9_hideAll_7 : decode cX9_hideAll 7 = .ok (.iload_n 2, 1) := by decide +kernel
theorem dX9_hideAll_8 : decode cX9_hideAll 8 = .ok (.aload_n 0, 1) := by decide +kernel
theorem dX9_hideAll_9 : decode cX9_hideAll 9 = .ok (.getfield 48, 3) := by decide +kernel
theorem dX9_hideAll_12 : decode cX9_hideAll 12 = .ok (.if_icmp .ge 19, 3) := by decide +kernel
theorem dX9_hideAll_15 : decode cX9_hideAll 15 = .ok (.aload_n 0, 1) := by decide +kernel
theorem dX9_hideAll_16 : decode cX9_hideAll 16 = .ok (.getfield 7, 3) := by decide +kernel
theorem dX9_hideAll_19 : decode cX9_hideAll 19 = .ok (.bipush 120, 2) := by decide +kernel
theorem dX9_hideAll_21 : decode cX9_hideAll 21 = .ok (.iload_n 2, 1) := by decide +kernel
theorem dX9_hideAll_22 : decode cX9_hideAll 22 = .ok (.iadd, 1) := by decide +kernel
theorem dX9_hideAll_23 : decode cX9_hideAll 23 = .ok (.iconst (-1), 1) := by decide +kernel
theorem dX9_hideAll_24 : decode cX9_hideAll 24 = .ok (.iastore, 1) := by decide +kernel
theorem dX9_hideAll_25 : decode cX9_hideAll 25 = .ok (.iinc 2 1, 3) := by decide +kernel
theorem dX9_hideAll_28 : decode cX9_hideAll 28 = .ok (.goto (-21), 3) := by decide +kernel
theorem dX9_hideAll_31 : decode cX9_hideAll 31 = .ok (.iload_n 1, 1) := by decide +kernel
theorem dX9_hideAll_32 : decode cX9_hideAll 32 = .ok (.ireturn, 1) := by decide +kernel
theorem dX9_fitsWith_0 : decode cX9_fitsWith 0 = .ok (.iconst 1, 1) := by decide +kernel
theorem dX9_fitsWith_1 : decode cX9_fitsWith 1 = .ok (.istore_n 2, 1) := by decide +kernel
theorem dX9_fitsWith_2 : decode cX9_fitsWith 2 = .ok (.iconst 0, 1) := by decide +kernel
theorem dX9_fitsWith_3 : decode cX9_fitsWith 3 = .ok (.istore_n 3, 1) := by decide +kernel
theorem dX9_fitsWith_4 : decode cX9_fitsWith 4 = .ok (.iload_n 3, 1) := by decide +kernel
theorem dX9_fitsWith_5 : decode cX9_fitsWith 5 = .ok (.iload_n 1, 1) := by decide +kernel
theorem dX9_fitsWith_6 : decode cX9_fitsWith 6 = .ok (.if_icmp .ge 61, 3) := by decide +kernel
theorem dX9_fitsWith_9 : decode cX9_fitsWith 9 = .ok (.iload_n 2, 1) := by decide +kernel
theorem dX9_fitsWith_10 : decode cX9_fitsWith 10 = .ok (.ifCond .eq 57, 3) := by decide +kernel
theorem dX9_fitsWith_13 : decode cX9_fitsWith 13 = .ok (.aload_n 0, 1) := by decide +kernel
theorem dX9_fitsWith_14 : decode cX9_fitsWith 14 = .ok (.getfield 27, 3) := by decide +kernel
theorem dX9_fitsWith_17 : decode cX9_fitsWith 17 = .ok (.iload_n 3, 1) := by decide +kernel
theorem dX9_fitsWith_18 : decode cX9_fitsWith 18 = .ok (.iaload, 1) := by decide +kernel
theorem dX9_fitsWith_19 : decode cX9_fitsWith 19 = .ok (.bipush 8, 2) := by decide +kernel
theorem dX9_fitsWith_21 : decode cX9_fitsWith 21 = .ok (.if_icmp .eq 34, 3) := by decide +kernel
theorem dX9_fitsWith_24 : decode cX9_fitsWith 24 = .ok (.aload_n 0, 1) := by decide +kernel
theorem dX9_fitsWith_25 : decode cX9_fitsWith 25 = .ok (.aload_n 0, 1) := by decide +kernel
theorem dX9_fitsWith_26 : decode cX9_fitsWith 26 = .ok (.getfield 30, 3) := by decide +kernel
theorem dX9_fitsWith_29 : decode cX9_fitsWith 29 = .ok (.iload_n 1, 1) := by decide +kernel
theorem dX9_fitsWith_30 : decode cX9_fitsWith 30 = .ok (.iaload, 1) := by decide +kernel
theorem dX9_fitsWith_31 : decode cX9_fitsWith 31 = .ok (.aload_n 0, 1) := by decide +kernel
theorem dX9_fitsWith_32 : decode cX9_fitsWith 32 = .ok (.getfield 27, 3) := by decide +kernel
theorem dX9_fitsWith_35 : decode cX9_fitsWith 35 = .ok (.iload_n 1, 1) := by decide +kernel
theorem dX9_fitsWith_36 : decode cX9_fitsWith 36 = .ok (.iaload, 1) := by decide +kernel
theorem dX9_fitsWith_37 : decode cX9_fitsWith 37 = .ok (.aload_n 0, 1) := by decide +kernel
theorem dX9_fitsWith_38 : decode cX9_fitsWith 38 = .ok (.getfield 30, 3) := by decide +kernel
theorem dX9_fitsWith_41 : decode cX9_fitsWith 41 = .ok (.iload_n 3, 1) := by decide +kernel
theorem dX9_fitsWith_42 : decode cX9_fitsWith 42 = .ok (.iaload, 1) := by decide +kernel
theorem dX9_fitsWith_43 : decode cX9_fitsWith 43 = .ok (.aload_n 0, 1) := by decide +kernel
theorem dX9_fitsWith_44 : decode cX9_fitsWith 44 = .ok (.getfield 27, 3) := by decide +kernel
theorem dX9_fitsWith_47 : decode cX9_fitsWith 47 = .ok (.iload_n 3, 1) := by decide +kernel
theorem dX9_fitsWith_48 : decode cX9_fitsWith 48 = .ok (.iaload, 1) := by decide +kernel
theorem dX9_fitsWith_49 : decode cX9_fitsWith 49 = .ok (.invokevirtual 80, 3) := by decide +kernel
theorem dX9_fitsWith_52 : decode cX9_fitsWith 52 = .ok (.ifCond .ne 7, 3) := by decide +kernel
theorem dX9_fitsWith_55 : decode cX9_fitsWith 55 = .ok (.iconst 1, 1) := by decide +kernel
theorem dX9_fitsWith_56 : decode cX9_fitsWith 56 = .ok (.goto 4, 3) := by decide +kernel
theorem dX9_fitsWith_59 : decode cX9_fitsWith 59 = .ok (.iconst 0, 1) := by decide +kernel
theorem dX9_fitsWith_60 : decode cX9_fitsWith 60 = .ok (.istore_n 2, 1) := by decide +kernel
theorem dX9_fitsWith_61 : decode cX9_fitsWith 61 = .ok (.iinc 3 1, 3) := by decide +kernel
theorem dX9_fitsWith_64 : decode cX9_fitsWith 64 = .ok (.goto (-60), 3) := by decide +kernel
theorem dX9_fitsWith_67 : decode cX9_fitsWith 67 = .ok (.iload_n 2, 1) := by decide +kernel
theorem dX9_fitsWith_68 : decode cX9_fitsWith 68 = .ok (.ireturn, 1) := by decide +kernel
set_option maxHeartbeats 4000000 in
set_option maxRecDepth 100000 in
theorem qM_place_ok {σ : QS} {x1 : Int32} {x2 : Int32} {x3 : Int32} {r : Int32 × QS} (h : qM_place σ x1 x2 x3 = some r) : qx_E (qx_gM l D ci a) 5 mX9_place (some (.int r.1), r.2) 0 [(0, .ref (a 0)), (1, .int x1), (2, .int x2), (3, .int x3)] [] σ := by
  unfold qM_place at h
  refine qx_aload_n (pc := 0) 0 dX9_place_0 rfl ?_
  refine qx_iload_n (pc := 1) 1 dX9_place_1 rfl ?_
  obtain ⟨r1, hr1, h⟩ := qx_bindE h
  refine qx_callVi (pc := 2) 0 r1 σ [.int x1] [] rfl rfl rfl qcm_X9_isPoint qcv_X9_isPoint qwm_X9_105 rfl (Nat.le_of_ble_eq_true rfl) (Nat.le_of_ble_eq_true rfl) (by decide) dX9_place_2 (qM_isPoint_ok hr1) ?_
  refine qx_if_eq (pc := 5) 27 h dX9_place_5 (by decide) (fun h => ?_) (fun h => ?_)
  · refine qx_bipush (pc := 27) (-2) dX9_place_27 (by decide) ?_
    exact qx_iretS h rfl dX9_place_29
  · refine qx_iload_n (pc := 8) 2 dX9_place_8 rfl ?_
    obtain ⟨r2, hr2, h⟩ := qx_bindE h
    refine qx_callSi (pc := 9) r2 σ [.int x2] [] rfl qcm_X9_isSide qcs_X9_isSide qwm_X9_140 rfl (Nat.le_of_ble_eq_true rfl) (Nat.le_of_ble_eq_true rfl) (by decide) dX9_place_9 (qM_isSide_ok hr2) ?_
    refine qx_if_eq (pc := 12) 27 h dX9_place_12 (by decide) (fun h => ?_) (fun h => ?_)
    · refine qx_bipush (pc := 27) (-2) dX9_place_27 (by decide) ?_
      exact qx_iretS h rfl dX9_place_29
    · refine qx_iload_n (pc := 15) 3 dX9_place_15 rfl ?_
      refine qx_i2l (pc := 16) dX9_place_16 ?_
      refine qx_lconst (pc := 17) 0 dX9_place_17 (by decide) ?_
      refine qx_ldc2 (pc := 18) 4 dX9_place_18 qwc_X9_143 ?_
      obtain ⟨r3, hr3, h⟩ := qx_bindE h
      refine qx_callSi (pc := 21) r3 σ [.long (x3.toInt64), .long 0, .long 4] [] rfl qcm_X9_in qcs_X9_in qwm_X9_51 rfl (Nat.le_of_ble_eq_true rfl) (Nat.le_of_ble_eq_true rfl) (by decide) dX9_place_21 (qM_in_ok hr3) ?_
      refine qx_if_ne (pc := 24) 30 h dX9_place_24 (by decide) (fun h => ?_) (fun h => ?_)
      · refine qx_aload_n (pc := 30) 0 dX9_place_30 rfl ?_
        obtain ⟨r4, hr4, h⟩ := qx_bindE h
        refine qx_callVv (pc := 31) 0 r4 [] [] rfl rfl rfl qcm_X9_findsAll qcv_X9_findsAll qwm_X9_83 rfl (Nat.le_of_ble_eq_true rfl) (Nat.le_of_ble_eq_true rfl) (by decide) dX9_place_31 (qM_findsAll_ok hr4) ?_
        refine qx_aload_n (pc := 34) 0 dX9_place_34 rfl ?_
        refine qx_iload_n (pc := 35) 1 dX9_place_35 rfl ?_
        refine qx_iload_n (pc := 36) 2 dX9_place_36 rfl ?_
        refine qx_iload_n (pc := 37) 3 dX9_place_37 rfl ?_
        obtain ⟨r5, hr5, h⟩ := qx_bindE h
        refine qx_callVi (pc := 38) 0 r5 r4 [.int x1, .int x2, .int x3] [] rfl rfl rfl qcm_X9_placePart qcv_X9_placePart qwm_X9_145 rfl (Nat.le_of_ble_eq_true rfl) (Nat.le_of_ble_eq_true rfl) (by decide) dX9_place_38 (qM_placePart_ok hr5) ?_
        exact qx_iretS h rfl dX9_place_41
      · refine qx_bipush (pc := 27) (-2) dX9_place_27 (by decide) ?_
        exact qx_iretS h rfl dX9_place_29
set_option maxHeartbeats 4000000 in
set_option maxRecDepth 100000 in
theorem qM_clash_ok {σ : QS} {x1 : Int32} {x2 : Int32} {x3 : Int32} {x4 : Int32} {r : Int32 × QS} (h : qM_clash σ x1 x2 x3 x4 = some r) : qx_E (qx_gM l D ci a) 5 mX9_clash (some (.int r.1), r.2) 0 [(0, .ref (a 0)), (1, .int x1), (2, .int x2), (3, .int x3), (4, .int x4)] [] σ := by
  unfold qM_clash at h
  refine qx_aload_n (pc := 0) 0 dX9_clash_0 rfl ?_
  refine qx_iload_n (pc := 1) 1 dX9_clash_1 rfl ?_
  obtain ⟨r1, hr1, h⟩ := qx_bindE h
  refine qx_callVi (pc := 2) 0 r1 σ [.int x1] [] rfl rfl rfl qcm_X9_isPoint qcv_X9_isPoint qwm_X9_105 rfl (Nat.le_of_ble_eq_true rfl) (Nat.le_of_ble_eq_true rfl) (by decide) dX9_clash_2 (qM_isPoint_ok hr1) ?_
  refine qx_if_eq (pc := 5) 36 h dX9_clash_5 (by decide) (fun h => ?_) (fun h => ?_)
  · refine qx_bipush (pc := 36) (-2) dX9_clash_36 (by decide) ?_
    exact qx_iretS h rfl dX9_clash_38
  · refine qx_iload_n (pc := 8) 2 dX9_clash_8 rfl ?_
    obtain ⟨r2, hr2, h⟩ := qx_bindE h
    refine qx_callSi (pc := 9) r2 σ [.int x2] [] rfl qcm_X9_isSide qcs_X9_isSide qwm_X9_140 rfl (Nat.le_of_ble_eq_true rfl) (Nat.le_of_ble_eq_true rfl) (by decide) dX9_clash_9 (qM_isSide_ok hr2) ?_
    refine qx_if_eq (pc := 12) 36 h dX9_clash_12 (by decide) (fun h => ?_) (fun h => ?_)
    · refine qx_bipush (pc := 36) (-2) dX9_clash_36 (by decide) ?_
      exact qx_iretS h rfl dX9_clash_38
    · refine qx_aload_n (pc := 15) 0 dX9_clash_15 rfl ?_
      refine qx_iload_n (pc := 16) 3 dX9_clash_16 rfl ?_
      obtain ⟨r3, hr3, h⟩ := qx_bindE h
      refine qx_callVi (pc := 17) 0 r3 σ [.int x3] [] rfl rfl rfl qcm_X9_isPoint qcv_X9_isPoint qwm_X9_105 rfl (Nat.le_of_ble_eq_true rfl) (Nat.le_of_ble_eq_true rfl) (by decide) dX9_clash_17 (qM_isPoint_ok hr3) ?_
      refine qx_if_eq (pc := 20) 36 h dX9_clash_20 (by decide) (fun h => ?_) (fun h => ?_)
      · refine qx_bipush (pc := 36) (-2) dX9_clash_36 (by decide) ?_
        exact qx_iretS h rfl dX9_clash_38
      · refine qx_iload (pc := 23) 4 dX9_clash_23 rfl ?_
        obtain ⟨r4, hr4, h⟩ := qx_bindE h
        refine qx_callSi (pc := 25) r4 σ [.int x4] [] rfl qcm_X9_isSide qcs_X9_isSide qwm_X9_140 rfl (Nat.le_of_ble_eq_true rfl) (Nat.le_of_ble_eq_true rfl) (by decide) dX9_clash_25 (qM_isSide_ok hr4) ?_
        refine qx_if_eq (pc := 28) 36 h dX9_clash_28 (by decide) (fun h => ?_) (fun h => ?_)
        · refine qx_bipush (pc := 36) (-2) dX9_clash_36 (by decide) ?_
          exact qx_iretS h rfl dX9_clash_38
        · refine qx_iload_n (pc := 31) 1 dX9_clash_31 rfl ?_
          refine qx_iload_n (pc := 32) 3 dX9_clash_32 rfl ?_
          refine qx_icmp_ne (pc := 33) 39 h dX9_clash_33 (by decide) (fun h => ?_) (fun h => ?_)
          · refine qx_aload_n (pc := 39) 0 dX9_clash_39 rfl ?_
            obtain ⟨r5, hr5, h⟩ := qx_bindE h
            refine qx_callVv (pc := 40) 0 r5 [] [] rfl rfl rfl qcm_X9_findsAll qcv_X9_findsAll qwm_X9_83 rfl (Nat.le_of_ble_eq_true rfl) (Nat.le_of_ble_eq_true rfl) (by decide) dX9_clash_40 (qM_findsAll_ok hr5) ?_
            refine qx_aload_n (pc := 43) 0 dX9_clash_43 rfl ?_
            refine qgM0_6 (pc := 44) qwf_X9_20 dX9_clash_44 ?_
            refine qx_bipush (pc := 47) 8 dX9_clash_47 (by decide) ?_
            refine qx_iload_n (pc := 49) 1 dX9_clash_49 rfl ?_
            refine qx_imul (pc := 50) dX9_clash_50 ?_
            refine qx_iload_n (pc := 51) 2 dX9_clash_51 rfl ?_
            refine qx_iadd (pc := 52) dX9_clash_52 ?_
            refine qlM2 (pc := 53) h dX9_clash_53 (fun h => ?_)
            refine qx_if_eq (pc := 54) 72 h dX9_clash_54 (by decide) (fun h => ?_) (fun h => ?_)
            · refine qx_bipush (pc := 72) (-3) dX9_clash_72 (by decide) ?_
              exact qx_iretS h rfl dX9_clash_74
            · refine qx_aload_n (pc := 57) 0 dX9_clash_57 rfl ?_
              refine qgM0_6 (pc := 58) qwf_X9_20 dX9_clash_58 ?_
              refine qx_bipush (pc := 61) 8 dX9_clash_61 (by decide) ?_
              refine qx_iload_n (pc := 63) 3 dX9_clash_63 rfl ?_
              refine qx_imul (pc := 64) dX9_clash_64 ?_
              refine qx_iload (pc := 65) 4 dX9_clash_65 rfl ?_
              refine qx_iadd (pc := 67) dX9_clash_67 ?_
              refine qlM2 (pc := 68) h dX9_clash_68 (fun h => ?_)
              refine qx_if_ne (pc := 69) 75 h dX9_clash_69 (by decide) (fun h => ?_) (fun h => ?_)
              · refine qx_aload_n (pc := 75) 0 dX9_clash_75 rfl ?_
                refine qx_iload_n (pc := 76) 1 dX9_clash_76 rfl ?_
                refine qx_iload_n (pc := 77) 2 dX9_clash_77 rfl ?_
                refine qx_iload_n (pc := 78) 3 dX9_clash_78 rfl ?_
                refine qx_iload (pc := 79) 4 dX9_clash_79 rfl ?_
                obtain ⟨r6, hr6, h⟩ := qx_bindE h
                refine qx_callVi (pc := 81) 0 r6 r5 [.int x1, .int x2, .int x3, .int x4] [] rfl rfl rfl qcm_X9_meet qcv_X9_meet qwm_X9_80 rfl (Nat.le_of_ble_eq_true rfl) (Nat.le_of_ble_eq_true rfl) (by decide) dX9_clash_81 (qM_meet_ok hr6) ?_
                refine qx_if_eq (pc := 84) 91 h dX9_clash_84 (by decide) (fun h => ?_) (fun h => ?_)
                · refine qx_iconst (pc := 91) 0 dX9_clash_91 (by decide) ?_
                  exact qx_iretS h rfl dX9_clash_92
                · refine qx_iconst (pc := 87) 1 dX9_clash_87 (by decide) ?_
                  refine qx_goto (pc := 88) 92 dX9_clash_88 (by decide) ?_
                  exact qx_iretS h rfl dX9_clash_92
              · refine qx_bipush (pc := 72) (-3) dX9_clash_72 (by decide) ?_
                exact qx_iretS h rfl dX9_clash_74
          · refine qx_bipush (pc := 36) (-2) dX9_clash_36 (by decide) ?_
            exact qx_iretS h rfl dX9_clash_38
set_option maxHeartbeats 4000000 in
set_option maxRecDepth 100000 in
theorem qM_labelAt_L29_ok {σ : QS} {x1 : Int32} {x2 : Int32} : ∀ (n : Nat) (x3 : Int32) (r : Int32), qM_labelAt_L29 σ x1 x2 n x3 = some r → qx_E (qx_gM l D ci a) 3 mX9_labelAt (some (.int r), σ) 29 [(0, .ref (a 0)), (1, .int x1), (2, .int x2), (3, .int x3)] [] σ := by
  intro n
  induction n with
  | zero =>
    intro x3 r h
    exact (qx_none h).elim
  | succ n ih =>
    intro x3 r h
    unfold qM_labelAt_L29 at h
    refine qx_iload_n (pc := 29) 3 dX9_labelAt_29 rfl ?_
    refine qx_aload_n (pc := 30) 0 dX9_labelAt_30 rfl ?_
    refine qgM0_1 (pc := 31) qwf_X9_48 dX9_labelAt_31 ?_
    refine qx_icmp_ge (pc := 34) 77 h dX9_labelAt_34 (by decide) (fun h => ?_) (fun h => ?_)
    · refine qx_iconst (pc := 77) (-1) dX9_labelAt_77 (by decide) ?_
      exact qx_iret h rfl dX9_labelAt_78
    · refine qx_aload_n (pc := 37) 0 dX9_labelAt_37 rfl ?_
      refine qgM0_0 (pc := 38) qwf_X9_7 dX9_labelAt_38 ?_
      refine qx_bipush (pc := 41) 120 dX9_labelAt_41 (by decide) ?_
      refine qx_iload_n (pc := 43) 3 dX9_labelAt_43 rfl ?_
      refine qx_iadd (pc := 44) dX9_labelAt_44 ?_
      refine qlM1 (pc := 45) h dX9_labelAt_45 (fun h => ?_)
      refine qx_iconst (pc := 46) (-1) dX9_labelAt_46 (by decide) ?_
      refine qx_icmp_eq (pc := 47) 71 h dX9_labelAt_47 (by decide) (fun h => ?_) (fun h => ?_)
      · refine qx_iinc (pc := 71) (lv' := [(3, .int (x3 + 1)), (0, .ref (a 0)), (1, .int x1), (2, .int x2)]) 3 (x3 + 1) dX9_labelAt_71 rfl rfl (Nat.le_of_ble_eq_true rfl) rfl ?_
        refine qx_goto (pc := 74) 29 dX9_labelAt_74 (by decide) ?_
        exact qx_sub [1, 2, 3, 0] rfl (ih _ _ h)
      · refine qx_aload_n (pc := 50) 0 dX9_labelAt_50 rfl ?_
        refine qx_iload_n (pc := 51) 3 dX9_labelAt_51 rfl ?_
        refine qx_aload_n (pc := 52) 0 dX9_labelAt_52 rfl ?_
        refine qgM0_0 (pc := 53) qwf_X9_7 dX9_labelAt_53 ?_
        refine qx_bipush (pc := 56) 120 dX9_labelAt_56 (by decide) ?_
        refine qx_iload_n (pc := 58) 3 dX9_labelAt_58 rfl ?_
        refine qx_iadd (pc := 59) dX9_labelAt_59 ?_
        refine qlM1 (pc := 60) h dX9_labelAt_60 (fun h => ?_)
        refine qx_iload_n (pc := 61) 1 dX9_labelAt_61 rfl ?_
        refine qx_iload_n (pc := 62) 2 dX9_labelAt_62 rfl ?_
        obtain ⟨r1, hr1, h⟩ := qx_bindE h
        refine qx_callVi (pc := 63) 0 r1 σ [.int x3, .int (σ.1 1 (120 + x3).toNatClampNeg), .int x1, .int x2] [] rfl rfl rfl qcm_X9_covers qcv_X9_covers qwm_X9_72 rfl (Nat.le_of_ble_eq_true rfl) (Nat.le_of_ble_eq_true rfl) (by decide) dX9_labelAt_63 (qM_covers_ok hr1) ?_
        refine qx_if_eq (pc := 66) 71 h dX9_labelAt_66 (by decide) (fun h => ?_) (fun h => ?_)
        · refine qx_iinc (pc := 71) (lv' := [(3, .int (x3 + 1)), (0, .ref (a 0)), (1, .int x1), (2, .int x2)]) 3 (x3 + 1) dX9_labelAt_71 rfl rfl (Nat.le_of_ble_eq_true rfl) rfl ?_
          refine qx_goto (pc := 74) 29 dX9_labelAt_74 (by decide) ?_
          exact qx_sub [1, 2, 3, 0] rfl (ih _ _ h)
        · refine qx_iload_n (pc := 69) 3 dX9_labelAt_69 rfl ?_
          exact qx_iret h rfl dX9_labelAt_70
set_option maxHeartbeats 4000000 in
set_option maxRecDepth 100000 in
theorem qM_labelAt_ok {σ : QS} {x1 : Int32} {x2 : Int32} {r : Int32} (h : qM_labelAt σ x1 x2 = some r) : qx_E (qx_gM l D ci a) 3 mX9_labelAt (some (.int r), σ) 0 [(0, .ref (a 0)), (1, .int x1), (2, .int x2)] [] σ := by
  unfold qM_labelAt at h
  refine qx_iload_n (pc := 0) 1 dX9_labelAt_0 rfl ?_
  refine qx_i2l (pc := 1) dX9_labelAt_1 ?_
  refine qx_lconst (pc := 2) 0 dX9_labelAt_2 (by decide) ?_
  refine qx_ldc2 (pc := 3) 199 dX9_labelAt_3 qwc_X9_94 ?_
  obtain ⟨r2, hr2, h⟩ := qx_bindE h
  refine qx_callSi (pc := 6) r2 σ [.long (x1.toInt64), .long 0, .long 199] [] rfl qcm_X9_in qcs_X9_in qwm_X9_51 rfl (Nat.le_of_ble_eq_true rfl) (Nat.le_of_ble_eq_true rfl) (by decide) dX9_labelAt_6 (qM_in_ok hr2) ?_
  refine qx_if_eq (pc := 9) 24 h dX9_labelAt_9 (by decide) (fun h => ?_) (fun h => ?_)
  · refine qx_bipush (pc := 24) (-2) dX9_labelAt_24 (by decide) ?_
    exact qx_iret h rfl dX9_labelAt_26
  · refine qx_iload_n (pc := 12) 2 dX9_labelAt_12 rfl ?_
    refine qx_i2l (pc := 13) dX9_labelAt_13 ?_
    refine qx_lconst (pc := 14) 0 dX9_labelAt_14 (by decide) ?_
    refine qx_ldc2 (pc := 15) 199 dX9_labelAt_15 qwc_X9_94 ?_
    obtain ⟨r3, hr3, h⟩ := qx_bindE h
    refine qx_callSi (pc := 18) r3 σ [.long (x2.toInt64), .long 0, .long 199] [] rfl qcm_X9_in qcs_X9_in qwm_X9_51 rfl (Nat.le_of_ble_eq_true rfl) (Nat.le_of_ble_eq_true rfl) (by decide) dX9_labelAt_18 (qM_in_ok hr3) ?_
    refine qx_if_ne (pc := 21) 27 h dX9_labelAt_21 (by decide) (fun h => ?_) (fun h => ?_)
    · refine qx_iconst (pc := 27) 0 dX9_labelAt_27 (by decide) ?_
      refine qx_istore_n (pc := 28) (lv' := [(3, .int 0), (0, .ref (a 0)), (1, .int x1), (2, .int x2)]) dX9_labelAt_28 (Nat.le_of_ble_eq_true rfl) rfl ?_
      exact qx_sub [1, 2, 3, 0] rfl (qM_labelAt_L29_ok qx_F _ _ h)
    · refine qx_bipush (pc := 24) (-2) dX9_labelAt_24 (by decide) ?_
      exact qx_iret h rfl dX9_labelAt_26
set_option maxHeartbeats 4000000 in
set_option maxRecDepth 100000 in
theorem qM_escapes_J56_ok {σ : QS} {x1 : Int32} {x2 : Int32} {x3 : Int32} {x4 : Int32} {s0 : Int32} {k3 : Int32 → Option (Int32)} (hk3 : ∀ (x4 : Int32) (r : Int32), k3 x4 = some r → qx_E (qx_gM l D ci a) 4 mX9_escapes (some (.int r), σ) 3 [(0, .ref (a 0)), (1, .int x1), (2, .int x2), (3, .int x3), (4, .int x4)] [] σ) {r : Int32} (h : qM_escapes_J56 σ k3 x1 x2 x3 x4 s0 = some r) : qx_E (qx_gM l D ci a) 4 mX9_escapes (some (.int r), σ) 56 [(0, .ref (a 0)), (1, .int x1), (2, .int x2), (3, .int x3), (4, .int x4)] [.int s0] σ := by
  unfold qM_escapes_J56 at h
  refine qx_istore (pc := 56) (lv' := [(5, .int s0), (0, .ref (a 0)), (1, .int x1), (2, .int x2), (3, .int x3), (4, .int x4)]) dX9_escapes_56 (Nat.le_of_ble_eq_true rfl) rfl ?_
  refine qx_iload (pc := 58) 0 dX9_escapes_58 rfl ?_
  refine qx_if_eq (pc := 60) 77 h dX9_escapes_60 (by decide) (fun h => ?_) (fun h => ?_)
  · refine qx_iinc (pc := 77) (lv' := [(4, .int (x4 + 1)), (5, .int s0), (0, .ref (a 0)), (1, .int x1), (2, .int x2), (3, .int x3)]) 5 (x4 + 1) dX9_escapes_77 rfl rfl (Nat.le_of_ble_eq_true rfl) rfl ?_
    refine qx_goto (pc := 80) 3 dX9_escapes_80 (by decide) ?_
    exact qx_sub [2, 3, 4, 5, 0] rfl (hk3 _ _ h)
  · refine qx_aload_n (pc := 63) 1 dX9_escapes_63 rfl ?_
    refine qx_iload_n (pc := 64) 2 dX9_escapes_64 rfl ?_
    refine qx_iload (pc := 65) 5 dX9_escapes_65 rfl ?_
    refine qx_iconst (pc := 67) (-1) dX9_escapes_67 (by decide) ?_
    obtain ⟨r1, hr1, h⟩ := qx_bindE h
    refine qx_callVi (pc := 68) 0 r1 σ [.int x1, .int x4, .int (-1)] [] rfl rfl rfl qcm_X9_clashes qcv_X9_clashes qwm_X9_108 rfl (Nat.le_of_ble_eq_true rfl) (Nat.le_of_ble_eq_true rfl) (by decide) dX9_escapes_68 (qM_clashes_ok hr1) ?_
    refine qx_if_ne (pc := 71) 77 h dX9_escapes_71 (by decide) (fun h => ?_) (fun h => ?_)
    · refine qx_iinc (pc := 77) (lv' := [(4, .int (x4 + 1)), (5, .int s0), (0, .ref (a 0)), (1, .int x1), (2, .int x2), (3, .int x3)]) 5 (x4 + 1) dX9_escapes_77 rfl rfl (Nat.le_of_ble_eq_true rfl) rfl ?_
      refine qx_goto (pc := 80) 3 dX9_escapes_80 (by decide) ?_
      exact qx_sub [2, 3, 4, 5, 0] rfl (hk3 _ _ h)
    · refine qx_iload (pc := 74) 5 dX9_escapes_74 rfl ?_
      exact qx_iret h rfl dX9_escapes_76
set_option maxHeartbeats 4000000 in
set_option maxRecDepth 100000 in
theorem qM_escapes_L3_ok {σ : QS} {x1 : Int32} {x2 : Int32} {x3 : Int32} : ∀ (n : Nat) (x4 : Int32) (r : Int32), qM_escapes_L3 σ x1 x2 x3 n x4 = some r → qx_E (qx_gM l D ci a) 4 mX9_escapes (some (.int r), σ) 3 [(0, .ref (a 0)), (1, .int x1), (2, .int x2), (3, .int x3), (4, .int x4)] [] σ := by
  intro n
  induction n with
  | zero =>
    intro x4 r h
    exact (qx_none h).elim
  | succ n ih =>
    intro x4 r h
    unfold qM_escapes_L3 at h
    refine qx_iload (pc := 3) 4 dX9_escapes_3 rfl ?_
    refine qx_bipush (pc := 5) 8 dX9_escapes_5 (by decide) ?_
    refine qx_icmp_ge (pc := 7) 83 h dX9_escapes_7 (by decide) (fun h => ?_) (fun h => ?_)
    · refine qx_iconst (pc := 83) (-1) dX9_escapes_83 (by decide) ?_
      exact qx_iret h rfl dX9_escapes_84
    · refine qx_aload_n (pc := 10) 0 dX9_escapes_10 rfl ?_
      refine qgM0_6 (pc := 11) qwf_X9_20 dX9_escapes_11 ?_
      refine qx_bipush (pc := 14) 8 dX9_escapes_14 (by decide) ?_
      refine qx_iload_n (pc := 16) 1 dX9_escapes_16 rfl ?_
      refine qx_imul (pc := 17) dX9_escapes_17 ?_
      refine qx_iload (pc := 18) 4 dX9_escapes_18 rfl ?_
      refine qx_iadd (pc := 20) dX9_escapes_20 ?_
      refine qlM2 (pc := 21) h dX9_escapes_21 (fun h => ?_)
      refine qx_if_eq (pc := 22) 55 h dX9_escapes_22 (by decide) (fun h => ?_) (fun h => ?_)
      · refine qx_iconst (pc := 55) 0 dX9_escapes_55 (by decide) ?_
        exact (qM_escapes_J56_ok ih h)
      · refine qx_iload (pc := 25) 4 dX9_escapes_25 rfl ?_
        refine qx_aload_n (pc := 27) 0 dX9_escapes_27 rfl ?_
        refine qgM0_0 (pc := 28) qwf_X9_7 dX9_escapes_28 ?_
        refine qx_bipush (pc := 31) 120 dX9_escapes_31 (by decide) ?_
        refine qx_iload_n (pc := 33) 1 dX9_escapes_33 rfl ?_
        refine qx_iadd (pc := 34) dX9_escapes_34 ?_
        refine qlM1 (pc := 35) h dX9_escapes_35 (fun h => ?_)
        refine qx_icmp_eq (pc := 36) 55 h dX9_escapes_36 (by decide) (fun h => ?_) (fun h => ?_)
        · refine qx_iconst (pc := 55) 0 dX9_escapes_55 (by decide) ?_
          exact (qM_escapes_J56_ok ih h)
        · refine qx_aload_n (pc := 39) 0 dX9_escapes_39 rfl ?_
          refine qx_iload_n (pc := 40) 1 dX9_escapes_40 rfl ?_
          refine qx_iload (pc := 41) 4 dX9_escapes_41 rfl ?_
          refine qx_iload_n (pc := 43) 2 dX9_escapes_43 rfl ?_
          refine qx_iload_n (pc := 44) 3 dX9_escapes_44 rfl ?_
          obtain ⟨r2, hr2, h⟩ := qx_bindE h
          refine qx_callVi (pc := 45) 0 r2 σ [.int x1, .int x4, .int x2, .int x3] [] rfl rfl rfl qcm_X9_meet qcv_X9_meet qwm_X9_80 rfl (Nat.le_of_ble_eq_true rfl) (Nat.le_of_ble_eq_true rfl) (by decide) dX9_escapes_45 (qM_meet_ok hr2) ?_
          refine qx_if_ne (pc := 48) 55 h dX9_escapes_48 (by decide) (fun h => ?_) (fun h => ?_)
          · refine qx_iconst (pc := 55) 0 dX9_escapes_55 (by decide) ?_
            exact (qM_escapes_J56_ok ih h)
          · refine qx_iconst (pc := 51) 1 dX9_escapes_51 (by decide) ?_
            refine qx_goto (pc := 52) 56 dX9_escapes_52 (by decide) ?_
            exact (qM_escapes_J56_ok ih h)
set_option maxHeartbeats 4000000 in
set_option maxRecDepth 100000 in
theorem qM_escapes_ok {σ : QS} {x1 : Int32} {x2 : Int32} {x3 : Int32} {r : Int32} (h : qM_escapes σ x1 x2 x3 = some r) : qx_E (qx_gM l D ci a) 4 mX9_escapes (some (.int r), σ) 0 [(0, .ref (a 0)), (1, .int x1), (2, .int x2), (3, .int x3)] [] σ := by
  unfold qM_escapes at h
  refine qx_iconst (pc := 0) 0 dX9_escapes_0 (by decide) ?_
  refine qx_istore (pc := 1) (lv' := [(4, .int 0), (0, .ref (a 0)), (1, .int x1), (2, .int x2), (3, .int x3)]) dX9_escapes_1 (Nat.le_of_ble_eq_true rfl) rfl ?_
  exact qx_sub [1, 2, 3, 4, 0] rfl (qM_escapes_L3_ok qx_F _ _ h)
set_option maxHeartbeats 4000000 in
set_option maxRecDepth 100000 in
theorem qM_makesRoom_J70_ok {σ : QS} {x1 : Int32} {x2 : Int32} {r : Int32 × QS} (h : qM_makesRoom_J70 σ x1 x2 = some r) : qx_E (qx_gM l D ci a) 5 mX9_makesRoom (some (.int r.1), r.2) 70 [(0, .ref (a 0)), (1, .int x1), (2, .int x2)] [] σ := by
  unfold qM_makesRoom_J70 at h
  refine qx_aload_n (pc := 70) 0 dX9_makesRoom_70 rfl ?_
  refine qgM0_0 (pc := 71) qwf_X9_7 dX9_makesRoom_71 ?_
  refine qx_bipush (pc := 74) 120 dX9_makesRoom_74 (by decide) ?_
  refine qx_iload_n (pc := 76) 1 dX9_makesRoom_76 rfl ?_
  refine qx_iadd (pc := 77) dX9_makesRoom_77 ?_
  refine qx_iload_n (pc := 78) 2 dX9_makesRoom_78 rfl ?_
  refine qsM1 (pc := 79) h dX9_makesRoom_79 (fun h => ?_)
  refine qx_iconst (pc := 80) 1 dX9_makesRoom_80 (by decide) ?_
  exact qx_nretS h rfl rfl dX9_makesRoom_81
set_option maxHeartbeats 4000000 in
set_option maxRecDepth 100000 in
theorem qM_makesRoom_J53_ok {σ : QS} {x1 : Int32} {x2 : Int32} {x3 : Int32} {x4 : Int32} {x5 : Int32} {r : Int32 × QS} (h : qM_makesRoom_J53 σ x1 x2 x3 x4 x5 = some r) : qx_E (qx_gM l D ci a) 5 mX9_makesRoom (some (.int r.1), r.2) 53 [(0, .ref (a 0)), (1, .int x1), (2, .int x2), (3, .int x3), (4, .int x4), (5, .int x5)] [] σ := by
  unfold qM_makesRoom_J53 at h
  refine qx_iload_n (pc := 53) 3 dX9_makesRoom_53 rfl ?_
  refine qx_iconst (pc := 54) 1 dX9_makesRoom_54 (by decide) ?_
  refine qx_icmp_ne (pc := 55) 70 h dX9_makesRoom_55 (by decide) (fun h => ?_) (fun h => ?_)
  · exact qx_sub [0, 1, 2] rfl (qM_makesRoom_J70_ok h)
  · refine qx_aload_n (pc := 58) 0 dX9_makesRoom_58 rfl ?_
    refine qgM0_0 (pc := 59) qwf_X9_7 dX9_makesRoom_59 ?_
    refine qx_bipush (pc := 62) 120 dX9_makesRoom_62 (by decide) ?_
    refine qx_iload (pc := 64) 4 dX9_makesRoom_64 rfl ?_
    refine qx_iadd (pc := 66) dX9_makesRoom_66 ?_
    refine qx_iload (pc := 67) 5 dX9_makesRoom_67 rfl ?_
    refine qsM1 (pc := 69) h dX9_makesRoom_69 (fun h => ?_)
    exact qx_sub [0, 1, 2] rfl (qM_makesRoom_J70_ok h)
set_option maxHeartbeats 4000000 in
set_option maxRecDepth 100000 in
theorem qM_makesRoom_J33_ok {σ : QS} {x1 : Int32} {x2 : Int32} {x3 : Int32} {x4 : Int32} {s0 : Int32} {r : Int32 × QS} (h : qM_makesRoom_J33 σ x1 x2 x3 x4 s0 = some r) : qx_E (qx_gM l D ci a) 5 mX9_makesRoom (some (.int r.1), r.2) 33 [(0, .ref (a 0)), (1, .int x1), (2, .int x2), (3, .int x3), (4, .int x4)] [.int s0] σ := by
  unfold qM_makesRoom_J33 at h
  refine qx_istore (pc := 33) (lv' := [(5, .int s0), (0, .ref (a 0)), (1, .int x1), (2, .int x2), (3, .int x3), (4, .int x4)]) dX9_makesRoom_33 (Nat.le_of_ble_eq_true rfl) rfl ?_
  refine qx_iload_n (pc := 35) 4 dX9_makesRoom_35 rfl ?_
  refine qx_iconst (pc := 36) 1 dX9_makesRoom_36 (by decide) ?_
  refine qx_icmp_gt (pc := 37) 51 h dX9_makesRoom_37 (by decide) (fun h => ?_) (fun h => ?_)
  · refine qx_iconst (pc := 51) 0 dX9_makesRoom_51 (by decide) ?_
    exact qx_nretS h rfl rfl dX9_makesRoom_52
  · refine qx_iload_n (pc := 40) 4 dX9_makesRoom_40 rfl ?_
    refine qx_iconst (pc := 41) 1 dX9_makesRoom_41 (by decide) ?_
    refine qx_icmp_ne (pc := 42) 53 h dX9_makesRoom_42 (by decide) (fun h => ?_) (fun h => ?_)
    · exact qx_sub [1, 2, 3, 4, 5, 0] rfl (qM_makesRoom_J53_ok h)
    · refine qx_iload (pc := 45) 0 dX9_makesRoom_45 rfl ?_
      refine qx_iconst (pc := 47) (-1) dX9_makesRoom_47 (by decide) ?_
      refine qx_icmp_ne (pc := 48) 53 h dX9_makesRoom_48 (by decide) (fun h => ?_) (fun h => ?_)
      · exact qx_sub [1, 2, 3, 4, 5, 0] rfl (qM_makesRoom_J53_ok h)
      · refine qx_iconst (pc := 51) 0 dX9_makesRoom_51 (by decide) ?_
        exact qx_nretS h rfl rfl dX9_makesRoom_52
set_option maxHeartbeats 4000000 in
set_option maxRecDepth 100000 in
theorem qM_makesRoom_ok {σ : QS} {x1 : Int32} {x2 : Int32} {r : Int32 × QS} (h : qM_makesRoom σ x1 x2 = some r) : qx_E (qx_gM l D ci a) 5 mX9_makesRoom (some (.int r.1), r.2) 0 [(0, .ref (a 0)), (1, .int x1), (2, .int x2)] [] σ := by
  unfold qM_makesRoom at h
  refine qx_aload_n (pc := 0) 0 dX9_makesRoom_0 rfl ?_
  refine qx_iload_n (pc := 1) 1 dX9_makesRoom_1 rfl ?_
  refine qx_iload_n (pc := 2) 2 dX9_makesRoom_2 rfl ?_
  refine qx_iconst (pc := 3) (-1) dX9_makesRoom_3 (by decide) ?_
  obtain ⟨r1, hr1, h⟩ := qx_bindE h
  refine qx_callVi (pc := 4) 0 r1 σ [.int x1, .int x2, .int (-1)] [] rfl rfl rfl qcm_X9_clashes qcv_X9_clashes qwm_X9_108 rfl (Nat.le_of_ble_eq_true rfl) (Nat.le_of_ble_eq_true rfl) (by decide) dX9_makesRoom_4 (qM_clashes_ok hr1) ?_
  refine qx_istore_n (pc := 7) (lv' := [(3, .int r1), (0, .ref (a 0)), (1, .int x1), (2, .int x2)]) dX9_makesRoom_7 (Nat.le_of_ble_eq_true rfl) rfl ?_
  refine qx_aload_n (pc := 8) 1 dX9_makesRoom_8 rfl ?_
  refine qx_iload_n (pc := 9) 2 dX9_makesRoom_9 rfl ?_
  refine qx_iload_n (pc := 10) 3 dX9_makesRoom_10 rfl ?_
  obtain ⟨r2, hr2, h⟩ := qx_bindE h
  refine qx_callVi (pc := 11) 0 r2 σ [.int x1, .int x2] [] rfl rfl rfl qcm_X9_clashing qcv_X9_clashing qwm_X9_154 rfl (Nat.le_of_ble_eq_true rfl) (Nat.le_of_ble_eq_true rfl) (by decide) dX9_makesRoom_11 (qM_clashing_ok hr2) ?_
  refine qx_istore (pc := 14) (lv' := [(4, .int r2), (3, .int r1), (0, .ref (a 0)), (1, .int x1), (2, .int x2)]) dX9_makesRoom_14 (Nat.le_of_ble_eq_true rfl) rfl ?_
  refine qx_iload_n (pc := 16) 1 dX9_makesRoom_16 rfl ?_
  refine qx_iconst (pc := 17) 1 dX9_makesRoom_17 (by decide) ?_
  refine qx_icmp_ne (pc := 18) 32 h dX9_makesRoom_18 (by decide) (fun h => ?_) (fun h => ?_)
  · refine qx_iconst (pc := 32) (-1) dX9_makesRoom_32 (by decide) ?_
    exact qx_sub [2, 3, 4, 1, 0] rfl (qM_makesRoom_J33_ok h)
  · refine qx_aload_n (pc := 21) 2 dX9_makesRoom_21 rfl ?_
    refine qx_iload (pc := 22) 0 dX9_makesRoom_22 rfl ?_
    refine qx_iload_n (pc := 24) 3 dX9_makesRoom_24 rfl ?_
    refine qx_iload_n (pc := 25) 4 dX9_makesRoom_25 rfl ?_
    obtain ⟨r3, hr3, h⟩ := qx_bindE h
    refine qx_callVi (pc := 26) 0 r3 σ [.int r2, .int x1, .int x2] [] rfl rfl rfl qcm_X9_escapes qcv_X9_escapes qwm_X9_157 rfl (Nat.le_of_ble_eq_true rfl) (Nat.le_of_ble_eq_true rfl) (by decide) dX9_makesRoom_26 (qM_escapes_ok hr3) ?_
    refine qx_goto (pc := 29) 33 dX9_makesRoom_29 (by decide) ?_
    exact qx_sub [2, 3, 4, 1, 0] rfl (qM_makesRoom_J33_ok h)
set_option maxHeartbeats 4000000 in
set_option maxRecDepth 100000 in
theorem qM_improve_L30_ok {x2 : Int32} {x3 : Int32} {k12 : QS → Int32 → Int32 → Option (Int32 × QS)} (hk12 : ∀ (σ : QS) (x1 : Int32) (x2 : Int32) (r : Int32 × QS), k12 σ x1 x2 = some r → qx_E (qx_gM l D ci a) 6 mX9_improve (some (.int r.1), r.2) 12 [(0, .ref (a 0)), (1, .int x1), (2, .int x2)] [] σ) : ∀ (n : Nat) (σ : QS) (x1 : Int32) (x4 : Int32) (r : Int32 × QS), qM_improve_L30 x2 x3 k12 n σ x1 x4 = some r → qx_E (qx_gM l D ci a) 6 mX9_improve (some (.int r.1), r.2) 30 [(0, .ref (a 0)), (1, .int x1), (2, .int x2), (3, .int x3), (4, .int x4)] [] σ := by
  intro n
  induction n with
  | zero =>
    intro σ x1 x4 r h
    exact (qx_none h).elim
  | succ n ih =>
    intro σ x1 x4 r h
    unfold qM_improve_L30 at h
    refine qx_iload (pc := 30) 4 dX9_improve_30 rfl ?_
    refine qx_bipush (pc := 32) 8 dX9_improve_32 (by decide) ?_
    refine qx_icmp_ge (pc := 34) 79 h dX9_improve_34 (by decide) (fun h => ?_) (fun h => ?_)
    · refine qx_iinc (pc := 79) (lv' := [(2, .int (x2 + 1)), (0, .ref (a 0)), (1, .int x1), (3, .int x3), (4, .int x4)]) 2 (x2 + 1) dX9_improve_79 rfl rfl (Nat.le_of_ble_eq_true rfl) rfl ?_
      refine qx_goto (pc := 82) 12 dX9_improve_82 (by decide) ?_
      exact qx_sub [1, 2, 0] rfl (hk12 _ _ _ _ h)
    · refine qx_aload_n (pc := 37) 0 dX9_improve_37 rfl ?_
      refine qx_iload_n (pc := 38) 3 dX9_improve_38 rfl ?_
      obtain ⟨r1, hr1, h⟩ := qx_bindE h
      refine qx_callVi (pc := 39) 0 r1 σ [.int x3] [] rfl rfl rfl qcm_X9_wants qcv_X9_wants qwm_X9_151 rfl (Nat.le_of_ble_eq_true rfl) (Nat.le_of_ble_eq_true rfl) (by decide) dX9_improve_39 (qM_wants_ok hr1) ?_
      refine qx_if_eq (pc := 42) 79 h dX9_improve_42 (by decide) (fun h => ?_) (fun h => ?_)
      · refine qx_iinc (pc := 79) (lv' := [(2, .int (x2 + 1)), (0, .ref (a 0)), (1, .int x1), (3, .int x3), (4, .int x4)]) 2 (x2 + 1) dX9_improve_79 rfl rfl (Nat.le_of_ble_eq_true rfl) rfl ?_
        refine qx_goto (pc := 82) 12 dX9_improve_82 (by decide) ?_
        exact qx_sub [1, 2, 0] rfl (hk12 _ _ _ _ h)
      · refine qx_aload_n (pc := 45) 0 dX9_improve_45 rfl ?_
        refine qgM0_6 (pc := 46) qwf_X9_20 dX9_improve_46 ?_
        refine qx_bipush (pc := 49) 8 dX9_improve_49 (by decide) ?_
        refine qx_iload_n (pc := 51) 3 dX9_improve_51 rfl ?_
        refine qx_imul (pc := 52) dX9_improve_52 ?_
        refine qx_iload (pc := 53) 4 dX9_improve_53 rfl ?_
        refine qx_iadd (pc := 55) dX9_improve_55 ?_
        refine qlM2 (pc := 56) h dX9_improve_56 (fun h => ?_)
        refine qx_if_eq (pc := 57) 73 h dX9_improve_57 (by decide) (fun h => ?_) (fun h => ?_)
        · refine qx_iinc (pc := 73) (lv' := [(4, .int (x4 + 1)), (0, .ref (a 0)), (1, .int x1), (2, .int x2), (3, .int x3)]) 4 (x4 + 1) dX9_improve_73 rfl rfl (Nat.le_of_ble_eq_true rfl) rfl ?_
          refine qx_goto (pc := 76) 30 dX9_improve_76 (by decide) ?_
          exact qx_sub [1, 2, 3, 4, 0] rfl (ih _ _ _ _ h)
        · refine qx_aload_n (pc := 60) 0 dX9_improve_60 rfl ?_
          refine qx_iload_n (pc := 61) 3 dX9_improve_61 rfl ?_
          refine qx_iload (pc := 62) 4 dX9_improve_62 rfl ?_
          obtain ⟨r2, hr2, h⟩ := qx_bindE h
          refine qx_callVi (pc := 64) 0 r2.1 r2.2 [.int x3, .int x4] [] rfl rfl rfl qcm_X9_makesRoom qcv_X9_makesRoom qwm_X9_160 rfl (Nat.le_of_ble_eq_true rfl) (Nat.le_of_ble_eq_true rfl) (by decide) dX9_improve_64 (qM_makesRoom_ok hr2) ?_
          refine qx_if_eq (pc := 67) 73 h dX9_improve_67 (by decide) (fun h => ?_) (fun h => ?_)
          · refine qx_iinc (pc := 73) (lv' := [(4, .int (x4 + 1)), (0, .ref (a 0)), (1, .int x1), (2, .int x2), (3, .int x3)]) 4 (x4 + 1) dX9_improve_73 rfl rfl (Nat.le_of_ble_eq_true rfl) rfl ?_
            refine qx_goto (pc := 76) 30 dX9_improve_76 (by decide) ?_
            exact qx_sub [1, 2, 3, 4, 0] rfl (ih _ _ _ _ h)
          · refine qx_iinc (pc := 70) (lv' := [(1, .int (x1 + 1)), (0, .ref (a 0)), (2, .int x2), (3, .int x3), (4, .int x4)]) 1 (x1 + 1) dX9_improve_70 rfl rfl (Nat.le_of_ble_eq_true rfl) rfl ?_
            refine qx_iinc (pc := 73) (lv' := [(4, .int (x4 + 1)), (1, .int (x1 + 1)), (0, .ref (a 0)), (2, .int x2), (3, .int x3)]) 4 (x4 + 1) dX9_improve_73 rfl rfl (Nat.le_of_ble_eq_true rfl) rfl ?_
            refine qx_goto (pc := 76) 30 dX9_improve_76 (by decide) ?_
            exact qx_sub [2, 1, 3, 4, 0] rfl (ih _ _ _ _ h)
set_option maxHeartbeats 4000000 in
set_option maxRecDepth 100000 in
theorem qM_improve_L12_ok : ∀ (n : Nat) (σ : QS) (x1 : Int32) (x2 : Int32) (r : Int32 × QS), qM_improve_L12 n σ x1 x2 = some r → qx_E (qx_gM l D ci a) 6 mX9_improve (some (.int r.1), r.2) 12 [(0, .ref (a 0)), (1, .int x1), (2, .int x2)] [] σ := by
  intro n
  induction n with
  | zero =>
    intro σ x1 x2 r h
    exact (qx_none h).elim
  | succ n ih =>
    intro σ x1 x2 r h
    unfold qM_improve_L12 at h
    refine qx_iload_n (pc := 12) 2 dX9_improve_12 rfl ?_
    refine qx_aload_n (pc := 13) 0 dX9_improve_13 rfl ?_
    refine qgM0_1 (pc := 14) qwf_X9_48 dX9_improve_14 ?_
    refine qx_icmp_ge (pc := 17) 85 h dX9_improve_17 (by decide) (fun h => ?_) (fun h => ?_)
    · refine qx_iload_n (pc := 85) 1 dX9_improve_85 rfl ?_
      exact qx_iretS h rfl dX9_improve_86
    · refine qx_aload_n (pc := 20) 0 dX9_improve_20 rfl ?_
      refine qgM0_7 (pc := 21) qwf_X9_24 dX9_improve_21 ?_
      refine qx_iload_n (pc := 24) 2 dX9_improve_24 rfl ?_
      refine qlM3 (pc := 25) h dX9_improve_25 (fun h => ?_)
      refine qx_istore_n (pc := 26) (lv' := [(3, .int (σ.1 3 x2.toNatClampNeg)), (0, .ref (a 0)), (1, .int x1), (2, .int x2)]) dX9_improve_26 (Nat.le_of_ble_eq_true rfl) rfl ?_
      refine qx_iconst (pc := 27) 0 dX9_improve_27 (by decide) ?_
      refine qx_istore (pc := 28) (lv' := [(4, .int 0), (3, .int (σ.1 3 x2.toNatClampNeg)), (0, .ref (a 0)), (1, .int x1), (2, .int x2)]) dX9_improve_28 (Nat.le_of_ble_eq_true rfl) rfl ?_
      exact qx_sub [2, 3, 4, 1, 0] rfl (qM_improve_L30_ok ih qx_F _ _ _ _ h)
set_option maxHeartbeats 4000000 in
set_option maxRecDepth 100000 in
theorem qM_improve_ok {σ : QS} {r : Int32 × QS} (h : qM_improve σ = some r) : qx_E (qx_gM l D ci a) 6 mX9_improve (some (.int r.1), r.2) 0 [(0, .ref (a 0))] [] σ := by
  unfold qM_improve at h
  refine qx_aload_n (pc := 0) 0 dX9_improve_0 rfl ?_
  obtain ⟨r3, hr3, h⟩ := qx_bindE h
  refine qx_callVv (pc := 1) 0 r3 [] [] rfl rfl rfl qcm_X9_findsAll qcv_X9_findsAll qwm_X9_83 rfl (Nat.le_of_ble_eq_true rfl) (Nat.le_of_ble_eq_true rfl) (by decide) dX9_improve_1 (qM_findsAll_ok hr3) ?_
  refine qx_aload_n (pc := 4) 0 dX9_improve_4 rfl ?_
  obtain ⟨r4, hr4, h⟩ := qx_bindE h
  refine qx_callVv (pc := 5) 0 r4 [] [] rfl rfl rfl qcm_X9_orders qcv_X9_orders qwm_X9_148 rfl (Nat.le_of_ble_eq_true rfl) (Nat.le_of_ble_eq_true rfl) (by decide) dX9_improve_5 (qM_orders_ok hr4) ?_
  refine qx_iconst (pc := 8) 0 dX9_improve_8 (by decide) ?_
  refine qx_istore_n (pc := 9) (lv' := [(1, .int 0), (0, .ref (a 0))]) dX9_improve_9 (Nat.le_of_ble_eq_true rfl) rfl ?_
  refine qx_iconst (pc := 10) 0 dX9_improve_10 (by decide) ?_
  refine qx_istore_n (pc := 11) (lv' := [(2, .int 0), (1, .int 0), (0, .ref (a 0))]) dX9_improve_11 (Nat.le_of_ble_eq_true rfl) rfl ?_
  exact qx_sub [2, 1, 0] rfl (qM_improve_L12_ok qx_F _ _ _ _ h)
set_option maxHeartbeats 4000000 in
set_option maxRecDepth 100000 in
theorem qM_isStronger_J74_ok {σ : QS} {x1 : Int32} {x2 : Int32} {x4 : Int32} {s0 : Int32} {k15 : Int32 → Int32 → Option (Int32)} (hk15 : ∀ (x3 : Int32) (x4 : Int32) (r : Int32), k15 x3 x4 = some r → qx_E (qx_gM l D ci a) 3 mX9_isStronger (some (.int r), σ) 15 [(0, .ref (a 0)), (1, .int x1), (2, .int x2), (3, .int x3), (4, .int x4)] [] σ) {r : Int32} (h : qM_isStronger_J74 σ k15 x1 x2 x4 s0 = some r) : qx_E (qx_gM l D ci a) 3 mX9_isStronger (some (.int r), σ) 74 [(0, .ref (a 0)), (1, .int x1), (2, .int x2), (4, .int x4)] [.int s0] σ := by
  unfold qM_isStronger_J74 at h
  refine qx_istore (pc := 74) (lv' := [(5, .int s0), (0, .ref (a 0)), (1, .int x1), (2, .int x2), (4, .int x4)]) dX9_isStronger_74 (Nat.le_of_ble_eq_true rfl) rfl ?_
  refine qx_iload (pc := 76) 0 dX9_isStronger_76 rfl ?_
  refine qx_if_eq (pc := 78) 103 h dX9_isStronger_78 (by decide) (fun h => ?_) (fun h => ?_)
  · refine qx_iconst (pc := 103) 1 dX9_isStronger_103 (by decide) ?_
    refine qx_goto (pc := 104) 108 dX9_isStronger_104 (by decide) ?_
    refine qx_istore_n (pc := 108) (lv' := [(3, .int 1), (5, .int s0), (0, .ref (a 0)), (1, .int x1), (2, .int x2), (4, .int x4)]) dX9_isStronger_108 (Nat.le_of_ble_eq_true rfl) rfl ?_
    refine qx_iinc (pc := 109) (lv' := [(4, .int (x4 + 1)), (3, .int 1), (5, .int s0), (0, .ref (a 0)), (1, .int x1), (2, .int x2)]) 5 (x4 + 1) dX9_isStronger_109 rfl rfl (Nat.le_of_ble_eq_true rfl) rfl ?_
    refine qx_goto (pc := 112) 15 dX9_isStronger_112 (by decide) ?_
    exact qx_sub [3, 4, 5, 1, 0] rfl (hk15 _ _ _ h)
  · refine qx_aload_n (pc := 81) 1 dX9_isStronger_81 rfl ?_
    refine qgM0_0 (pc := 82) qwf_X9_7 dX9_isStronger_82 ?_
    refine qx_bipush (pc := 85) 80 dX9_isStronger_85 (by decide) ?_
    refine qx_iload (pc := 87) 4 dX9_isStronger_87 rfl ?_
    refine qx_iadd (pc := 89) dX9_isStronger_89 ?_
    refine qlM1 (pc := 90) h dX9_isStronger_90 (fun h => ?_)
    refine qx_aload_n (pc := 91) 1 dX9_isStronger_91 rfl ?_
    refine qgM0_0 (pc := 92) qwf_X9_7 dX9_isStronger_92 ?_
    refine qx_bipush (pc := 95) 80 dX9_isStronger_95 (by decide) ?_
    refine qx_iload_n (pc := 97) 2 dX9_isStronger_97 rfl ?_
    refine qx_iadd (pc := 98) dX9_isStronger_98 ?_
    refine qlM1 (pc := 99) h dX9_isStronger_99 (fun h => ?_)
    refine qx_icmp_ge (pc := 100) 107 h dX9_isStronger_100 (by decide) (fun h => ?_) (fun h => ?_)
    · refine qx_iconst (pc := 107) 0 dX9_isStronger_107 (by decide) ?_
      refine qx_istore_n (pc := 108) (lv' := [(3, .int 0), (5, .int s0), (0, .ref (a 0)), (1, .int x1), (2, .int x2), (4, .int x4)]) dX9_isStronger_108 (Nat.le_of_ble_eq_true rfl) rfl ?_
      refine qx_iinc (pc := 109) (lv' := [(4, .int (x4 + 1)), (3, .int 0), (5, .int s0), (0, .ref (a 0)), (1, .int x1), (2, .int x2)]) 5 (x4 + 1) dX9_isStronger_109 rfl rfl (Nat.le_of_ble_eq_true rfl) rfl ?_
      refine qx_goto (pc := 112) 15 dX9_isStronger_112 (by decide) ?_
      exact qx_sub [3, 4, 5, 1, 0] rfl (hk15 _ _ _ h)
    · refine qx_iconst (pc := 103) 1 dX9_isStronger_103 (by decide) ?_
      refine qx_goto (pc := 104) 108 dX9_isStronger_104 (by decide) ?_
      refine qx_istore_n (pc := 108) (lv' := [(3, .int 1), (5, .int s0), (0, .ref (a 0)), (1, .int x1), (2, .int x2), (4, .int x4)]) dX9_isStronger_108 (Nat.le_of_ble_eq_true rfl) rfl ?_
      refine qx_iinc (pc := 109) (lv' := [(4, .int (x4 + 1)), (3, .int 1), (5, .int s0), (0, .ref (a 0)), (1, .int x1), (2, .int x2)]) 5 (x4 + 1) dX9_isStronger_109 rfl rfl (Nat.le_of_ble_eq_true rfl) rfl ?_
      refine qx_goto (pc := 112) 15 dX9_isStronger_112 (by decide) ?_
      exact qx_sub [3, 4, 5, 1, 0] rfl (hk15 _ _ _ h)
set_option maxHeartbeats 4000000 in
set_option maxRecDepth 100000 in
theorem qM_isStronger_L15_ok {σ : QS} {x1 : Int32} {x2 : Int32} : ∀ (n : Nat) (x3 : Int32) (x4 : Int32) (r : Int32), qM_isStronger_L15 σ x1 x2 n x3 x4 = some r → qx_E (qx_gM l D ci a) 3 mX9_isStronger (some (.int r), σ) 15 [(0, .ref (a 0)), (1, .int x1), (2, .int x2), (3, .int x3), (4, .int x4)] [] σ := by
  intro n
  induction n with
  | zero =>
    intro x3 x4 r h
    exact (qx_none h).elim
  | succ n ih =>
    intro x3 x4 r h
    unfold qM_isStronger_L15 at h
    refine qx_iload (pc := 15) 4 dX9_isStronger_15 rfl ?_
    refine qx_aload_n (pc := 17) 0 dX9_isStronger_17 rfl ?_
    refine qgM0_1 (pc := 18) qwf_X9_48 dX9_isStronger_18 ?_
    refine qx_icmp_ge (pc := 21) 115 h dX9_isStronger_21 (by decide) (fun h => ?_) (fun h => ?_)
    · refine qx_iload_n (pc := 115) 3 dX9_isStronger_115 rfl ?_
      exact qx_nret h rfl rfl dX9_isStronger_116
    · refine qx_iload_n (pc := 24) 3 dX9_isStronger_24 rfl ?_
      refine qx_if_eq (pc := 25) 115 h dX9_isStronger_25 (by decide) (fun h => ?_) (fun h => ?_)
      · refine qx_iload_n (pc := 115) 3 dX9_isStronger_115 rfl ?_
        exact qx_nret h rfl rfl dX9_isStronger_116
      · refine qx_iload (pc := 28) 4 dX9_isStronger_28 rfl ?_
        refine qx_iload_n (pc := 30) 1 dX9_isStronger_30 rfl ?_
        refine qx_icmp_eq (pc := 31) 73 h dX9_isStronger_31 (by decide) (fun h => ?_) (fun h => ?_)
        · refine qx_iconst (pc := 73) 0 dX9_isStronger_73 (by decide) ?_
          exact qx_sub [0, 1, 2, 4] rfl (qM_isStronger_J74_ok ih h)
        · refine qx_aload_n (pc := 34) 0 dX9_isStronger_34 rfl ?_
          refine qgM0_0 (pc := 35) qwf_X9_7 dX9_isStronger_35 ?_
          refine qx_bipush (pc := 38) 120 dX9_isStronger_38 (by decide) ?_
          refine qx_iload (pc := 40) 4 dX9_isStronger_40 rfl ?_
          refine qx_iadd (pc := 42) dX9_isStronger_42 ?_
          refine qlM1 (pc := 43) h dX9_isStronger_43 (fun h => ?_)
          refine qx_iconst (pc := 44) (-1) dX9_isStronger_44 (by decide) ?_
          refine qx_icmp_eq (pc := 45) 73 h dX9_isStronger_45 (by decide) (fun h => ?_) (fun h => ?_)
          · refine qx_iconst (pc := 73) 0 dX9_isStronger_73 (by decide) ?_
            exact qx_sub [0, 1, 2, 4] rfl (qM_isStronger_J74_ok ih h)
          · refine qx_aload_n (pc := 48) 0 dX9_isStronger_48 rfl ?_
            refine qx_iload_n (pc := 49) 1 dX9_isStronger_49 rfl ?_
            refine qx_iload_n (pc := 50) 2 dX9_isStronger_50 rfl ?_
            refine qx_iload (pc := 51) 4 dX9_isStronger_51 rfl ?_
            refine qx_aload_n (pc := 53) 0 dX9_isStronger_53 rfl ?_
            refine qgM0_0 (pc := 54) qwf_X9_7 dX9_isStronger_54 ?_
            refine qx_bipush (pc := 57) 120 dX9_isStronger_57 (by decide) ?_
            refine qx_iload (pc := 59) 4 dX9_isStronger_59 rfl ?_
            refine qx_iadd (pc := 61) dX9_isStronger_61 ?_
            refine qlM1 (pc := 62) h dX9_isStronger_62 (fun h => ?_)
            obtain ⟨r1, hr1, h⟩ := qx_bindE h
            refine qx_callVi (pc := 63) 0 r1 σ [.int x1, .int x2, .int x4, .int (σ.1 1 (120 + x4).toNatClampNeg)] [] rfl rfl rfl qcm_X9_meet qcv_X9_meet qwm_X9_80 rfl (Nat.le_of_ble_eq_true rfl) (Nat.le_of_ble_eq_true rfl) (by decide) dX9_isStronger_63 (qM_meet_ok hr1) ?_
            refine qx_if_eq (pc := 66) 73 h dX9_isStronger_66 (by decide) (fun h => ?_) (fun h => ?_)
            · refine qx_iconst (pc := 73) 0 dX9_isStronger_73 (by decide) ?_
              exact qx_sub [0, 1, 2, 4] rfl (qM_isStronger_J74_ok ih h)
            · refine qx_iconst (pc := 69) 1 dX9_isStronger_69 (by decide) ?_
              refine qx_goto (pc := 70) 74 dX9_isStronger_70 (by decide) ?_
              exact qx_sub [0, 1, 2, 4] rfl (qM_isStronger_J74_ok ih h)
set_option maxHeartbeats 4000000 in
set_option maxRecDepth 100000 in
theorem qM_isStronger_ok {σ : QS} {x1 : Int32} {x2 : Int32} {r : Int32} (h : qM_isStronger σ x1 x2 = some r) : qx_E (qx_gM l D ci a) 3 mX9_isStronger (some (.int r), σ) 0 [(0, .ref (a 0)), (1, .int x1), (2, .int x2)] [] σ := by
  unfold qM_isStronger at h
  refine qx_aload_n (pc := 0) 0 dX9_isStronger_0 rfl ?_
  refine qgM0_6 (pc := 1) qwf_X9_20 dX9_isStronger_1 ?_
  refine qx_bipush (pc := 4) 8 dX9_isStronger_4 (by decide) ?_
  refine qx_iload_n (pc := 6) 1 dX9_isStronger_6 rfl ?_
  refine qx_imul (pc := 7) dX9_isStronger_7 ?_
  refine qx_iload_n (pc := 8) 2 dX9_isStronger_8 rfl ?_
  refine qx_iadd (pc := 9) dX9_isStronger_9 ?_
  refine qlM2 (pc := 10) h dX9_isStronger_10 (fun h => ?_)
  refine qx_istore_n (pc := 11) (lv' := [(3, .int (σ.1 2 ((8 * x1) + x2).toNatClampNeg)), (0, .ref (a 0)), (1, .int x1), (2, .int x2)]) dX9_isStronger_11 (Nat.le_of_ble_eq_true rfl) rfl ?_
  refine qx_iconst (pc := 12) 0 dX9_isStronger_12 (by decide) ?_
  refine qx_istore (pc := 13) (lv' := [(4, .int 0), (3, .int (σ.1 2 ((8 * x1) + x2).toNatClampNeg)), (0, .ref (a 0)), (1, .int x1), (2, .int x2)]) dX9_isStronger_13 (Nat.le_of_ble_eq_true rfl) rfl ?_
  exact qx_sub [2, 3, 4, 1, 0] rfl (qM_isStronger_L15_ok qx_F _ _ _ h)
set_option maxHeartbeats 4000000 in
set_option maxRecDepth 100000 in
theorem qM_strongest_L2_ok {σ : QS} {x1 : Int32} : ∀ (n : Nat) (x2 : Int32) (r : Int32), qM_strongest_L2 σ x1 n x2 = some r → qx_E (qx_gM l D ci a) 4 mX9_strongest (some (.int r), σ) 2 [(0, .ref (a 0)), (1, .int x1), (2, .int x2)] [] σ := by
  intro n
  induction n with
  | zero =>
    intro x2 r h
    exact (qx_none h).elim
  | succ n ih =>
    intro x2 r h
    unfold qM_strongest_L2 at h
    refine qx_iload_n (pc := 2) 2 dX9_strongest_2 rfl ?_
    refine qx_bipush (pc := 3) 8 dX9_strongest_3 (by decide) ?_
    refine qx_icmp_ge (pc := 5) 33 h dX9_strongest_5 (by decide) (fun h => ?_) (fun h => ?_)
    · refine qx_iconst (pc := 33) (-1) dX9_strongest_33 (by decide) ?_
      exact qx_iret h rfl dX9_strongest_34
    · refine qx_aload_n (pc := 8) 0 dX9_strongest_8 rfl ?_
      refine qx_iload_n (pc := 9) 1 dX9_strongest_9 rfl ?_
      obtain ⟨r1, hr1, h⟩ := qx_bindE h
      refine qx_callVi (pc := 10) 0 r1 σ [.int x1] [] rfl rfl rfl qcm_X9_wants qcv_X9_wants qwm_X9_151 rfl (Nat.le_of_ble_eq_true rfl) (Nat.le_of_ble_eq_true rfl) (by decide) dX9_strongest_10 (qM_wants_ok hr1) ?_
      refine qx_if_eq (pc := 13) 27 h dX9_strongest_13 (by decide) (fun h => ?_) (fun h => ?_)
      · refine qx_iinc (pc := 27) (lv' := [(2, .int (x2 + 1)), (0, .ref (a 0)), (1, .int x1)]) 2 (x2 + 1) dX9_strongest_27 rfl rfl (Nat.le_of_ble_eq_true rfl) rfl ?_
        refine qx_goto (pc := 30) 2 dX9_strongest_30 (by decide) ?_
        exact qx_sub [1, 2, 0] rfl (ih _ _ h)
      · refine qx_aload_n (pc := 16) 0 dX9_strongest_16 rfl ?_
        refine qx_iload_n (pc := 17) 1 dX9_strongest_17 rfl ?_
        refine qx_iload_n (pc := 18) 2 dX9_strongest_18 rfl ?_
        obtain ⟨r2, hr2, h⟩ := qx_bindE h
        refine qx_callVi (pc := 19) 0 r2 σ [.int x1, .int x2] [] rfl rfl rfl qcm_X9_isStronger qcv_X9_isStronger qwm_X9_163 rfl (Nat.le_of_ble_eq_true rfl) (Nat.le_of_ble_eq_true rfl) (by decide) dX9_strongest_19 (qM_isStronger_ok hr2) ?_
        refine qx_if_eq (pc := 22) 27 h dX9_strongest_22 (by decide) (fun h => ?_) (fun h => ?_)
        · refine qx_iinc (pc := 27) (lv' := [(2, .int (x2 + 1)), (0, .ref (a 0)), (1, .int x1)]) 2 (x2 + 1) dX9_strongest_27 rfl rfl (Nat.le_of_ble_eq_true rfl) rfl ?_
          refine qx_goto (pc := 30) 2 dX9_strongest_30 (by decide) ?_
          exact qx_sub [1, 2, 0] rfl (ih _ _ h)
        · refine qx_iload_n (pc := 25) 2 dX9_strongest_25 rfl ?_
          exact qx_iret h rfl dX9_strongest_26
set_option maxHeartbeats 4000000 in
set_option maxRecDepth 100000 in
theorem qM_strongest_ok {σ : QS} {x1 : Int32} {r : Int32} (h : qM_strongest σ x1 = some r) : qx_E (qx_gM l D ci a) 4 mX9_strongest (some (.int r), σ) 0 [(0, .ref (a 0)), (1, .int x1)] [] σ := by
  unfold qM_strongest at h
  refine qx_iconst (pc := 0) 0 dX9_strongest_0 (by decide) ?_
  refine qx_istore_n (pc := 1) (lv' := [(2, .int 0), (0, .ref (a 0)), (1, .int x1)]) dX9_strongest_1 (Nat.le_of_ble_eq_true rfl) rfl ?_
  exact qx_sub [1, 2, 0] rfl (qM_strongest_L2_ok qx_F _ _ h)
set_option maxHeartbeats 4000000 in
set_option maxRecDepth 100000 in
theorem qM_pushes_J86_ok {σ : QS} {x2 : Int32} {x3 : Int32} {x4 : Int32} {s0 : Int32} {k31 : QS → Int32 → Option (Int32 × QS)} (hk31 : ∀ (σ : QS) (x4 : Int32) (r : Int32 × QS), k31 σ x4 = some r → qx_E (qx_gM l D ci a) 5 mX9_pushes (some (.int r.1), r.2) 31 [(0, .ref (a 0)), (2, .int x2), (3, .int x3), (4, .int x4)] [] σ) {r : Int32 × QS} (h : qM_pushes_J86 σ k31 x2 x3 x4 s0 = some r) : qx_E (qx_gM l D ci a) 5 mX9_pushes (some (.int r.1), r.2) 86 [(0, .ref (a 0)), (2, .int x2), (3, .int x3), (4, .int x4)] [.int s0] σ := by
  unfold qM_pushes_J86 at h
  refine qx_istore (pc := 86) (lv' := [(5, .int s0), (0, .ref (a 0)), (2, .int x2), (3, .int x3), (4, .int x4)]) dX9_pushes_86 (Nat.le_of_ble_eq_true rfl) rfl ?_
  refine qx_aload_n (pc := 88) 1 dX9_pushes_88 rfl ?_
  refine qgM0_0 (pc := 89) qwf_X9_7 dX9_pushes_89 ?_
  refine qx_bipush (pc := 92) 120 dX9_pushes_92 (by decide) ?_
  refine qx_iload (pc := 94) 4 dX9_pushes_94 rfl ?_
  refine qx_iadd (pc := 96) dX9_pushes_96 ?_
  refine qx_iload (pc := 97) 0 dX9_pushes_97 rfl ?_
  refine qx_if_eq (pc := 99) 106 h dX9_pushes_99 (by decide) (fun h => ?_) (fun h => ?_)
  · refine qx_aload_n (pc := 106) 1 dX9_pushes_106 rfl ?_
    refine qgM0_0 (pc := 107) qwf_X9_7 dX9_pushes_107 ?_
    refine qx_bipush (pc := 110) 120 dX9_pushes_110 (by decide) ?_
    refine qx_iload (pc := 112) 4 dX9_pushes_112 rfl ?_
    refine qx_iadd (pc := 114) dX9_pushes_114 ?_
    refine qlM1 (pc := 115) h dX9_pushes_115 (fun h => ?_)
    refine qsM1 (pc := 116) h dX9_pushes_116 (fun h => ?_)
    refine qx_iinc (pc := 117) (lv' := [(4, .int (x4 + 1)), (5, .int s0), (0, .ref (a 0)), (2, .int x2), (3, .int x3)]) 4 (x4 + 1) dX9_pushes_117 rfl rfl (Nat.le_of_ble_eq_true rfl) rfl ?_
    refine qx_goto (pc := 120) 31 dX9_pushes_120 (by decide) ?_
    exact qx_sub [2, 3, 4, 0] rfl (hk31 _ _ _ h)
  · refine qx_iconst (pc := 102) (-1) dX9_pushes_102 (by decide) ?_
    refine qx_goto (pc := 103) 116 dX9_pushes_103 (by decide) ?_
    refine qsM1 (pc := 116) h dX9_pushes_116 (fun h => ?_)
    refine qx_iinc (pc := 117) (lv' := [(4, .int (x4 + 1)), (5, .int s0), (0, .ref (a 0)), (2, .int x2), (3, .int x3)]) 4 (x4 + 1) dX9_pushes_117 rfl rfl (Nat.le_of_ble_eq_true rfl) rfl ?_
    refine qx_goto (pc := 120) 31 dX9_pushes_120 (by decide) ?_
    exact qx_sub [2, 3, 4, 0] rfl (hk31 _ _ _ h)
set_option maxHeartbeats 4000000 in
set_option maxRecDepth 100000 in
theorem qM_pushes_L31_ok {x2 : Int32} {x3 : Int32} : ∀ (n : Nat) (σ : QS) (x4 : Int32) (r : Int32 × QS), qM_pushes_L31 x2 x3 n σ x4 = some r → qx_E (qx_gM l D ci a) 5 mX9_pushes (some (.int r.1), r.2) 31 [(0, .ref (a 0)), (2, .int x2), (3, .int x3), (4, .int x4)] [] σ := by
  intro n
  induction n with
  | zero =>
    intro σ x4 r h
    exact (qx_none h).elim
  | succ n ih =>
    intro σ x4 r h
    unfold qM_pushes_L31 at h
    refine qx_iload (pc := 31) 3 dX9_pushes_31 rfl ?_
    refine qx_aload_n (pc := 33) 0 dX9_pushes_33 rfl ?_
    refine qgM0_1 (pc := 34) qwf_X9_48 dX9_pushes_34 ?_
    refine qx_icmp_ge (pc := 37) 123 h dX9_pushes_37 (by decide) (fun h => ?_) (fun h => ?_)
    · refine qx_aload_n (pc := 123) 0 dX9_pushes_123 rfl ?_
      refine qgM0_0 (pc := 124) qwf_X9_7 dX9_pushes_124 ?_
      refine qx_bipush (pc := 127) 120 dX9_pushes_127 (by decide) ?_
      refine qx_iload_n (pc := 129) 1 dX9_pushes_129 rfl ?_
      refine qx_iadd (pc := 130) dX9_pushes_130 ?_
      refine qx_iload_n (pc := 131) 2 dX9_pushes_131 rfl ?_
      refine qsM1 (pc := 132) h dX9_pushes_132 (fun h => ?_)
      refine qx_iconst (pc := 133) 1 dX9_pushes_133 (by decide) ?_
      exact qx_nretS h rfl rfl dX9_pushes_134
    · refine qx_iload (pc := 40) 3 dX9_pushes_40 rfl ?_
      refine qx_iload_n (pc := 42) 1 dX9_pushes_42 rfl ?_
      refine qx_icmp_eq (pc := 43) 85 h dX9_pushes_43 (by decide) (fun h => ?_) (fun h => ?_)
      · refine qx_iconst (pc := 85) 0 dX9_pushes_85 (by decide) ?_
        exact (qM_pushes_J86_ok ih h)
      · refine qx_aload_n (pc := 46) 0 dX9_pushes_46 rfl ?_
        refine qgM0_0 (pc := 47) qwf_X9_7 dX9_pushes_47 ?_
        refine qx_bipush (pc := 50) 120 dX9_pushes_50 (by decide) ?_
        refine qx_iload (pc := 52) 3 dX9_pushes_52 rfl ?_
        refine qx_iadd (pc := 54) dX9_pushes_54 ?_
        refine qlM1 (pc := 55) h dX9_pushes_55 (fun h => ?_)
        refine qx_iconst (pc := 56) (-1) dX9_pushes_56 (by decide) ?_
        refine qx_icmp_eq (pc := 57) 85 h dX9_pushes_57 (by decide) (fun h => ?_) (fun h => ?_)
        · refine qx_iconst (pc := 85) 0 dX9_pushes_85 (by decide) ?_
          exact (qM_pushes_J86_ok ih h)
        · refine qx_aload_n (pc := 60) 0 dX9_pushes_60 rfl ?_
          refine qx_iload_n (pc := 61) 1 dX9_pushes_61 rfl ?_
          refine qx_iload_n (pc := 62) 2 dX9_pushes_62 rfl ?_
          refine qx_iload (pc := 63) 3 dX9_pushes_63 rfl ?_
          refine qx_aload_n (pc := 65) 0 dX9_pushes_65 rfl ?_
          refine qgM0_0 (pc := 66) qwf_X9_7 dX9_pushes_66 ?_
          refine qx_bipush (pc := 69) 120 dX9_pushes_69 (by decide) ?_
          refine qx_iload (pc := 71) 3 dX9_pushes_71 rfl ?_
          refine qx_iadd (pc := 73) dX9_pushes_73 ?_
          refine qlM1 (pc := 74) h dX9_pushes_74 (fun h => ?_)
          obtain ⟨r1, hr1, h⟩ := qx_bindE h
          refine qx_callVi (pc := 75) 0 r1 σ [.int x2, .int x3, .int x4, .int (σ.1 1 (120 + x4).toNatClampNeg)] [] rfl rfl rfl qcm_X9_meet qcv_X9_meet qwm_X9_80 rfl (Nat.le_of_ble_eq_true rfl) (Nat.le_of_ble_eq_true rfl) (by decide) dX9_pushes_75 (qM_meet_ok hr1) ?_
          refine qx_if_eq (pc := 78) 85 h dX9_pushes_78 (by decide) (fun h => ?_) (fun h => ?_)
          · refine qx_iconst (pc := 85) 0 dX9_pushes_85 (by decide) ?_
            exact (qM_pushes_J86_ok ih h)
          · refine qx_iconst (pc := 81) 1 dX9_pushes_81 (by decide) ?_
            refine qx_goto (pc := 82) 86 dX9_pushes_82 (by decide) ?_
            exact (qM_pushes_J86_ok ih h)
set_option maxHeartbeats 4000000 in
set_option maxRecDepth 100000 in
theorem qM_pushes_L2_ok {σ : QS} : ∀ (n : Nat) (x1 : Int32) (r : Int32 × QS), qM_pushes_L2 σ n x1 = some r → qx_E (qx_gM l D ci a) 5 mX9_pushes (some (.int r.1), r.2) 2 [(0, .ref (a 0)), (1, .int x1)] [] σ := by
  intro n
  induction n with
  | zero =>
    intro x1 r h
    exact (qx_none h).elim
  | succ n ih =>
    intro x1 r h
    unfold qM_pushes_L2 at h
    refine qx_iload_n (pc := 2) 1 dX9_pushes_2 rfl ?_
    refine qx_aload_n (pc := 3) 0 dX9_pushes_3 rfl ?_
    refine qgM0_1 (pc := 4) qwf_X9_48 dX9_pushes_4 ?_
    refine qx_icmp_ge (pc := 7) 141 h dX9_pushes_7 (by decide) (fun h => ?_) (fun h => ?_)
    · refine qx_iconst (pc := 141) 0 dX9_pushes_141 (by decide) ?_
      exact qx_nretS h rfl rfl dX9_pushes_142
    · refine qx_aload_n (pc := 10) 0 dX9_pushes_10 rfl ?_
      refine qgM0_7 (pc := 11) qwf_X9_24 dX9_pushes_11 ?_
      refine qx_iload_n (pc := 14) 1 dX9_pushes_14 rfl ?_
      refine qlM3 (pc := 15) h dX9_pushes_15 (fun h => ?_)
      refine qx_istore_n (pc := 16) (lv' := [(2, .int (σ.1 3 x1.toNatClampNeg)), (0, .ref (a 0)), (1, .int x1)]) dX9_pushes_16 (Nat.le_of_ble_eq_true rfl) rfl ?_
      refine qx_aload_n (pc := 17) 1 dX9_pushes_17 rfl ?_
      refine qx_iload_n (pc := 18) 0 dX9_pushes_18 rfl ?_
      obtain ⟨r2, hr2, h⟩ := qx_bindE h
      refine qx_callVi (pc := 19) 0 r2 σ [.int (σ.1 3 x1.toNatClampNeg)] [] rfl rfl rfl qcm_X9_strongest qcv_X9_strongest qwm_X9_166 rfl (Nat.le_of_ble_eq_true rfl) (Nat.le_of_ble_eq_true rfl) (by decide) dX9_pushes_19 (qM_strongest_ok hr2) ?_
      refine qx_istore_n (pc := 22) (lv' := [(3, .int r2), (2, .int (σ.1 3 x1.toNatClampNeg)), (0, .ref (a 0)), (1, .int x1)]) dX9_pushes_22 (Nat.le_of_ble_eq_true rfl) rfl ?_
      refine qx_iload_n (pc := 23) 0 dX9_pushes_23 rfl ?_
      refine qx_iconst (pc := 24) (-1) dX9_pushes_24 (by decide) ?_
      refine qx_icmp_eq (pc := 25) 135 h dX9_pushes_25 (by decide) (fun h => ?_) (fun h => ?_)
      · refine qx_iinc (pc := 135) (lv' := [(1, .int (x1 + 1)), (3, .int r2), (2, .int (σ.1 3 x1.toNatClampNeg)), (0, .ref (a 0))]) 3 (x1 + 1) dX9_pushes_135 rfl rfl (Nat.le_of_ble_eq_true rfl) rfl ?_
        refine qx_goto (pc := 138) 2 dX9_pushes_138 (by decide) ?_
        exact qx_sub [3, 0] rfl (ih _ _ h)
      · refine qx_iconst (pc := 28) 0 dX9_pushes_28 (by decide) ?_
        refine qx_istore (pc := 29) (lv' := [(4, .int 0), (3, .int r2), (2, .int (σ.1 3 x1.toNatClampNeg)), (0, .ref (a 0)), (1, .int x1)]) dX9_pushes_29 (Nat.le_of_ble_eq_true rfl) rfl ?_
        exact qx_sub [3, 2, 1, 0] rfl (qM_pushes_L31_ok qx_F _ _ _ h)
set_option maxHeartbeats 4000000 in
set_option maxRecDepth 100000 in
theorem qM_pushes_ok {σ : QS} {r : Int32 × QS} (h : qM_pushes σ = some r) : qx_E (qx_gM l D ci a) 5 mX9_pushes (some (.int r.1), r.2) 0 [(0, .ref (a 0))] [] σ := by
  unfold qM_pushes at h
  refine qx_iconst (pc := 0) 0 dX9_pushes_0 (by decide) ?_
  refine qx_istore_n (pc := 1) (lv' := [(1, .int 0), (0, .ref (a 0))]) dX9_pushes_1 (Nat.le_of_ble_eq_true rfl) rfl ?_
  exact qx_sub [1, 0] rfl (qM_pushes_L2_ok qx_F _ _ h)
set_option maxHeartbeats 4000000 in
set_option maxRecDepth 100000 in
theorem qM_push_L15_ok : ∀ (n : Nat) (σ : QS) (x1 : Int32) (x2 : Int32) (r : Int32 × QS), qM_push_L15 n σ x1 x2 = some r → qx_E (qx_gM l D ci a) 6 mX9_push (some (.int r.1), r.2) 15 [(0, .ref (a 0)), (1, .int x1), (2, .int x2)] [] σ := by
  intro n
  induction n with
  | zero =>
    intro σ x1 x2 r h
    exact (qx_none h).elim
  | succ n ih =>
    intro σ x1 x2 r h
    unfold qM_push_L15 at h
    refine qx_iload_n (pc := 15) 2 dX9_push_15 rfl ?_
    refine qx_if_eq (pc := 16) 30 h dX9_push_16 (by decide) (fun h => ?_) (fun h => ?_)
    · refine qx_iload_n (pc := 30) 1 dX9_push_30 rfl ?_
      exact qx_iretS h rfl dX9_push_31
    · refine qx_iinc (pc := 19) (lv' := [(1, .int (x1 + 1)), (0, .ref (a 0)), (2, .int x2)]) 1 (x1 + 1) dX9_push_19 rfl rfl (Nat.le_of_ble_eq_true rfl) rfl ?_
      refine qx_aload_n (pc := 22) 1 dX9_push_22 rfl ?_
      obtain ⟨r1, hr1, h⟩ := qx_bindE h
      refine qx_callVi (pc := 23) 0 r1.1 r1.2 [] [] rfl rfl rfl qcm_X9_pushes qcv_X9_pushes qwm_X9_169 rfl (Nat.le_of_ble_eq_true rfl) (Nat.le_of_ble_eq_true rfl) (by decide) dX9_push_23 (qM_pushes_ok hr1) ?_
      refine qx_istore_n (pc := 26) (lv' := [(2, .int (r1.1)), (1, .int (x1 + 1)), (0, .ref (a 0))]) dX9_push_26 (Nat.le_of_ble_eq_true rfl) rfl ?_
      refine qx_goto (pc := 27) 15 dX9_push_27 (by decide) ?_
      exact qx_sub [2, 1, 0] rfl (ih _ _ _ _ h)
set_option maxHeartbeats 4000000 in
set_option maxRecDepth 100000 in
theorem qM_push_ok {σ : QS} {r : Int32 × QS} (h : qM_push σ = some r) : qx_E (qx_gM l D ci a) 6 mX9_push (some (.int r.1), r.2) 0 [(0, .ref (a 0))] [] σ := by
  unfold qM_push at h
  refine qx_aload_n (pc := 0) 0 dX9_push_0 rfl ?_
  obtain ⟨r2, hr2, h⟩ := qx_bindE h
  refine qx_callVv (pc := 1) 0 r2 [] [] rfl rfl rfl qcm_X9_findsAll qcv_X9_findsAll qwm_X9_83 rfl (Nat.le_of_ble_eq_true rfl) (Nat.le_of_ble_eq_true rfl) (by decide) dX9_push_1 (qM_findsAll_ok hr2) ?_
  refine qx_aload_n (pc := 4) 0 dX9_push_4 rfl ?_
  obtain ⟨r3, hr3, h⟩ := qx_bindE h
  refine qx_callVv (pc := 5) 0 r3 [] [] rfl rfl rfl qcm_X9_orders qcv_X9_orders qwm_X9_148 rfl (Nat.le_of_ble_eq_true rfl) (Nat.le_of_ble_eq_true rfl) (by decide) dX9_push_5 (qM_orders_ok hr3) ?_
  refine qx_iconst (pc := 8) 0 dX9_push_8 (by decide) ?_
  refine qx_istore_n (pc := 9) (lv' := [(1, .int 0), (0, .ref (a 0))]) dX9_push_9 (Nat.le_of_ble_eq_true rfl) rfl ?_
  refine qx_aload_n (pc := 10) 1 dX9_push_10 rfl ?_
  obtain ⟨r4, hr4, h⟩ := qx_bindE h
  refine qx_callVi (pc := 11) 0 r4.1 r4.2 [] [] rfl rfl rfl qcm_X9_pushes qcv_X9_pushes qwm_X9_169 rfl (Nat.le_of_ble_eq_true rfl) (Nat.le_of_ble_eq_true rfl) (by decide) dX9_push_11 (qM_pushes_ok hr4) ?_
  refine qx_istore_n (pc := 14) (lv' := [(2, .int (r4.1)), (1, .int 0), (0, .ref (a 0))]) dX9_push_14 (Nat.le_of_ble_eq_true rfl) rfl ?_
  exact qx_sub [2, 1, 0] rfl (qM_push_L15_ok qx_F _ _ _ _ h)
set_option maxHeartbeats 4000000 in
set_option maxRecDepth 100000 in
theorem qM_show_J59_ok {σ : QS} {x1 : Int32} {x2 : Int32} {r : Int32 × QS} (h : qM_show_J59 σ x1 x2 = some r) : qx_E (qx_gM l D ci a) 5 mX9_show (some (.int r.1), r.2) 59 [(0, .ref (a 0)), (1, .int x1), (2, .int x2)] [] σ := by
  unfold qM_show_J59 at h
  refine qx_aload_n (pc := 59) 0 dX9_show_59 rfl ?_
  refine qgM0_0 (pc := 60) qwf_X9_7 dX9_show_60 ?_
  refine qx_bipush (pc := 63) 120 dX9_show_63 (by decide) ?_
  refine qx_iload_n (pc := 65) 1 dX9_show_65 rfl ?_
  refine qx_iadd (pc := 66) dX9_show_66 ?_
  refine qlM1 (pc := 67) h dX9_show_67 (fun h => ?_)
  refine qx_istore_n (pc := 68) (lv' := [(3, .int (σ.1 1 (120 + x1).toNatClampNeg)), (0, .ref (a 0)), (1, .int x1), (2, .int x2)]) dX9_show_68 (Nat.le_of_ble_eq_true rfl) rfl ?_
  refine qx_aload_n (pc := 69) 1 dX9_show_69 rfl ?_
  refine qgM0_0 (pc := 70) qwf_X9_7 dX9_show_70 ?_
  refine qx_bipush (pc := 73) 120 dX9_show_73 (by decide) ?_
  refine qx_iload_n (pc := 75) 2 dX9_show_75 rfl ?_
  refine qx_iadd (pc := 76) dX9_show_76 ?_
  refine qx_iload_n (pc := 77) 3 dX9_show_77 rfl ?_
  refine qsM1 (pc := 78) h dX9_show_78 (fun h => ?_)
  refine qx_iload_n (pc := 79) 0 dX9_show_79 rfl ?_
  exact qx_iretS h rfl dX9_show_80
set_option maxHeartbeats 4000000 in
set_option maxRecDepth 100000 in
theorem qM_show_J23_ok {σ : QS} {x1 : Int32} {x2 : Int32} {r : Int32 × QS} (h : qM_show_J23 σ x1 x2 = some r) : qx_E (qx_gM l D ci a) 5 mX9_show (some (.int r.1), r.2) 23 [(0, .ref (a 0)), (1, .int x1), (2, .int x2)] [] σ := by
  unfold qM_show_J23 at h
  refine qx_aload_n (pc := 23) 0 dX9_show_23 rfl ?_
  obtain ⟨r1, hr1, h⟩ := qx_bindE h
  refine qx_callVv (pc := 24) 0 r1 [] [] rfl rfl rfl qcm_X9_findsAll qcv_X9_findsAll qwm_X9_83 rfl (Nat.le_of_ble_eq_true rfl) (Nat.le_of_ble_eq_true rfl) (by decide) dX9_show_24 (qM_findsAll_ok hr1) ?_
  refine qx_iload_n (pc := 27) 2 dX9_show_27 rfl ?_
  refine qx_iconst (pc := 28) (-1) dX9_show_28 (by decide) ?_
  refine qx_icmp_eq (pc := 29) 59 h dX9_show_29 (by decide) (fun h => ?_) (fun h => ?_)
  · exact (qM_show_J59_ok h)
  · refine qx_aload_n (pc := 32) 0 dX9_show_32 rfl ?_
    refine qgM0_6 (pc := 33) qwf_X9_20 dX9_show_33 ?_
    refine qx_bipush (pc := 36) 8 dX9_show_36 (by decide) ?_
    refine qx_iload_n (pc := 38) 1 dX9_show_38 rfl ?_
    refine qx_imul (pc := 39) dX9_show_39 ?_
    refine qx_iload_n (pc := 40) 2 dX9_show_40 rfl ?_
    refine qx_iadd (pc := 41) dX9_show_41 ?_
    refine qlM2 (pc := 42) h dX9_show_42 (fun h => ?_)
    refine qx_if_eq (pc := 43) 56 h dX9_show_43 (by decide) (fun h => ?_) (fun h => ?_)
    · refine qx_bipush (pc := 56) (-3) dX9_show_56 (by decide) ?_
      exact qx_iretS h rfl dX9_show_58
    · refine qx_aload_n (pc := 46) 0 dX9_show_46 rfl ?_
      refine qx_iload_n (pc := 47) 1 dX9_show_47 rfl ?_
      refine qx_iload_n (pc := 48) 2 dX9_show_48 rfl ?_
      refine qx_iconst (pc := 49) (-1) dX9_show_49 (by decide) ?_
      obtain ⟨r2, hr2, h⟩ := qx_bindE h
      refine qx_callVi (pc := 50) 0 r2 r1 [.int x1, .int x2, .int (-1)] [] rfl rfl rfl qcm_X9_clashes qcv_X9_clashes qwm_X9_108 rfl (Nat.le_of_ble_eq_true rfl) (Nat.le_of_ble_eq_true rfl) (by decide) dX9_show_50 (qM_clashes_ok hr2) ?_
      refine qx_if_le (pc := 53) 59 h dX9_show_53 (by decide) (fun h => ?_) (fun h => ?_)
      · exact (qM_show_J59_ok h)
      · refine qx_bipush (pc := 56) (-3) dX9_show_56 (by decide) ?_
        exact qx_iretS h rfl dX9_show_58
set_option maxHeartbeats 4000000 in
set_option maxRecDepth 100000 in
theorem qM_show_ok {σ : QS} {x1 : Int32} {x2 : Int32} {r : Int32 × QS} (h : qM_show σ x1 x2 = some r) : qx_E (qx_gM l D ci a) 5 mX9_show (some (.int r.1), r.2) 0 [(0, .ref (a 0)), (1, .int x1), (2, .int x2)] [] σ := by
  unfold qM_show at h
  refine qx_aload_n (pc := 0) 0 dX9_show_0 rfl ?_
  refine qx_iload_n (pc := 1) 1 dX9_show_1 rfl ?_
  obtain ⟨r3, hr3, h⟩ := qx_bindE h
  refine qx_callVi (pc := 2) 0 r3 σ [.int x1] [] rfl rfl rfl qcm_X9_isPoint qcv_X9_isPoint qwm_X9_105 rfl (Nat.le_of_ble_eq_true rfl) (Nat.le_of_ble_eq_true rfl) (by decide) dX9_show_2 (qM_isPoint_ok hr3) ?_
  refine qx_if_eq (pc := 5) 20 h dX9_show_5 (by decide) (fun h => ?_) (fun h => ?_)
  · refine qx_bipush (pc := 20) (-2) dX9_show_20 (by decide) ?_
    exact qx_iretS h rfl dX9_show_22
  · refine qx_iload_n (pc := 8) 2 dX9_show_8 rfl ?_
    refine qx_iconst (pc := 9) (-1) dX9_show_9 (by decide) ?_
    refine qx_icmp_eq (pc := 10) 23 h dX9_show_10 (by decide) (fun h => ?_) (fun h => ?_)
    · exact (qM_show_J23_ok h)
    · refine qx_iload_n (pc := 13) 2 dX9_show_13 rfl ?_
      obtain ⟨r4, hr4, h⟩ := qx_bindE h
      refine qx_callSi (pc := 14) r4 σ [.int x2] [] rfl qcm_X9_isSide qcs_X9_isSide qwm_X9_140 rfl (Nat.le_of_ble_eq_true rfl) (Nat.le_of_ble_eq_true rfl) (by decide) dX9_show_14 (qM_isSide_ok hr4) ?_
      refine qx_if_ne (pc := 17) 23 h dX9_show_17 (by decide) (fun h => ?_) (fun h => ?_)
      · exact (qM_show_J23_ok h)
      · refine qx_bipush (pc := 20) (-2) dX9_show_20 (by decide) ?_
        exact qx_iretS h rfl dX9_show_22
set_option maxHeartbeats 4000000 in
set_option maxRecDepth 100000 in
theorem qM_hideAll_L7_ok {x1 : Int32} : ∀ (n : Nat) (σ : QS) (x2 : Int32) (r : Int32 × QS), qM_hideAll_L7 x1 n σ x2 = some r → qx_E (qx_gM l D ci a) 2 mX9_hideAll (some (.int r.1), r.2) 7 [(0, .ref (a 0)), (1, .int x1), (2, .int x2)] [] σ := by
  intro n
  induction n with
  | zero =>
    intro σ x2 r h
    exact (qx_none h).elim
  | succ n ih =>
    intro σ x2 r h
    unfold qM_hideAll_L7 at h
    refine qx_iload_n (pc := 7) 2 dX9_hideAll_7 rfl ?_
    refine qx_aload_n (pc := 8) 0 dX9_hideAll_8 rfl ?_
    refine qgM0_1 (pc := 9) qwf_X9_48 dX9_hideAll_9 ?_
    refine qx_icmp_ge (pc := 12) 31 h dX9_hideAll_12 (by decide) (fun h => ?_) (fun h => ?_)
    · refine qx_iload_n (pc := 31) 1 dX9_hideAll_31 rfl ?_
      exact qx_iretS h rfl dX9_hideAll_32
    · refine qx_aload_n (pc := 15) 0 dX9_hideAll_15 rfl ?_
      refine qgM0_0 (pc := 16) qwf_X9_7 dX9_hideAll_16 ?_
      refine qx_bipush (pc := 19) 120 dX9_hideAll_19 (by decide) ?_
      refine qx_iload_n (pc := 21) 2 dX9_hideAll_21 rfl ?_
      refine qx_iadd (pc := 22) dX9_hideAll_22 ?_
      refine qx_iconst (pc := 23) (-1) dX9_hideAll_23 (by decide) ?_
      refine qsM1 (pc := 24) h dX9_hideAll_24 (fun h => ?_)
      refine qx_iinc (pc := 25) (lv' := [(2, .int (x2 + 1)), (0, .ref (a 0)), (1, .int x1)]) 2 (x2 + 1) dX9_hideAll_25 rfl rfl (Nat.le_of_ble_eq_true rfl) rfl ?_
      refine qx_goto (pc := 28) 7 dX9_hideAll_28 (by decide) ?_
      exact qx_sub [1, 2, 0] rfl (ih _ _ _ h)
set_option maxHeartbeats 4000000 in
set_option maxRecDepth 100000 in
theorem qM_hideAll_ok {σ : QS} {r : Int32 × QS} (h : qM_hideAll σ = some r) : qx_E (qx_gM l D ci a) 2 mX9_hideAll (some (.int r.1), r.2) 0 [(0, .ref (a 0))] [] σ := by
  unfold qM_hideAll at h
  refine qx_aload_n (pc := 0) 0 dX9_hideAll_0 rfl ?_
  obtain ⟨r1, hr1, h⟩ := qx_bindE h
  refine qx_callVi (pc := 1) 0 r1 σ [] [] rfl rfl rfl qcm_X9_shown qcv_X9_shown qwm_X9_129 rfl (Nat.le_of_ble_eq_true rfl) (Nat.le_of_ble_eq_true rfl) (by decide) dX9_hideAll_1 (qM_shown_ok hr1) ?_
  refine qx_istore_n (pc := 4) (lv' := [(1, .int r1), (0, .ref (a 0))]) dX9_hideAll_4 (Nat.le_of_ble_eq_true rfl) rfl ?_
  refine qx_iconst (pc := 5) 0 dX9_hideAll_5 (by decide) ?_
  refine qx_istore_n (pc := 6) (lv' := [(2, .int 0), (1, .int r1), (0, .ref (a 0))]) dX9_hideAll_6 (Nat.le_of_ble_eq_true rfl) rfl ?_
  exact qx_sub [2, 1, 0] rfl (qM_hideAll_L7_ok qx_F _ _ _ h)
set_option maxHeartbeats 4000000 in
set_option maxRecDepth 100000 in
theorem qM_fitsWith_L4_ok {σ : QS} {x1 : Int32} : ∀ (n : Nat) (x2 : Int32) (x3 : Int32) (r : Int32), qM_fitsWith_L4 σ x1 n x2 x3 = some r → qx_E (qx_gM l D ci a) 3 mX9_fitsWith (some (.int r), σ) 4 [(0, .ref (a 0)), (1, .int x1), (2, .int x2), (3, .int x3)] [] σ := by
  intro n
  induction n with
  | zero =>
    intro x2 x3 r h
    exact (qx_none h).elim
  | succ n ih =>
    intro x2 x3 r h
    unfold qM_fitsWith_L4 at h
    refine qx_iload_n (pc := 4) 3 dX9_fitsWith_4 rfl ?_
    refine qx_iload_n (pc := 5) 1 dX9_fitsWith_5 rfl ?_
    refine qx_icmp_ge (pc := 6) 67 h dX9_fitsWith_6 (by decide) (fun h => ?_) (fun h => ?_)
    · refine qx_iload_n (pc := 67) 2 dX9_fitsWith_67 rfl ?_
      exact qx_nret h rfl rfl dX9_fitsWith_68
    · refine qx_iload_n (pc := 9) 2 dX9_fitsWith_9 rfl ?_
      refine qx_if_eq (pc := 10) 67 h dX9_fitsWith_10 (by decide) (fun h => ?_) (fun h => ?_)
      · refine qx_iload_n (pc := 67) 2 dX9_fitsWith_67 rfl ?_
        exact qx_nret h rfl rfl dX9_fitsWith_68
      · refine qx_aload_n (pc := 13) 0 dX9_fitsWith_13 rfl ?_
        refine qgM0_8 (pc := 14) qwf_X9_27 dX9_fitsWith_14 ?_
        refine qx_iload_n (pc := 17) 3 dX9_fitsWith_17 rfl ?_
        refine qlM4 (pc := 18) h dX9_fitsWith_18 (fun h => ?_)
        refine qx_bipush (pc := 19) 8 dX9_fitsWith_19 (by decide) ?_
        refine qx_icmp_eq (pc := 21) 55 h dX9_fitsWith_21 (by decide) (fun h => ?_) (fun h => ?_)
        · refine qx_iconst (pc := 55) 1 dX9_fitsWith_55 (by decide) ?_
          refine qx_goto (pc := 56) 60 dX9_fitsWith_56 (by decide) ?_
          refine qx_istore_n (pc := 60) (lv' := [(2, .int 1), (0, .ref (a 0)), (1, .int x1), (3, .int x3)]) dX9_fitsWith_60 (Nat.le_of_ble_eq_true rfl) rfl ?_
          refine qx_iinc (pc := 61) (lv' := [(3, .int (x3 + 1)), (2, .int 1), (0, .ref (a 0)), (1, .int x1)]) 3 (x3 + 1) dX9_fitsWith_61 rfl rfl (Nat.le_of_ble_eq_true rfl) rfl ?_
          refine qx_goto (pc := 64) 4 dX9_fitsWith_64 (by decide) ?_
          exact qx_sub [2, 3, 1, 0] rfl (ih _ _ _ h)
        · refine qx_aload_n (pc := 24) 0 dX9_fitsWith_24 rfl ?_
          refine qx_aload_n (pc := 25) 0 dX9_fitsWith_25 rfl ?_
          refine qgM0_9 (pc := 26) qwf_X9_30 dX9_fitsWith_26 ?_
          refine qx_iload_n (pc := 29) 1 dX9_fitsWith_29 rfl ?_
          refine qlM5 (pc := 30) h dX9_fitsWith_30 (fun h => ?_)
          refine qx_aload_n (pc := 31) 0 dX9_fitsWith_31 rfl ?_
          refine qgM0_8 (pc := 32) qwf_X9_27 dX9_fitsWith_32 ?_
          refine qx_iload_n (pc := 35) 1 dX9_fitsWith_35 rfl ?_
          refine qlM4 (pc := 36) h dX9_fitsWith_36 (fun h => ?_)
          refine qx_aload_n (pc := 37) 0 dX9_fitsWith_37 rfl ?_
          refine qgM0_9 (pc := 38) qwf_X9_30 dX9_fitsWith_38 ?_
          refine qx_iload_n (pc := 41) 3 dX9_fitsWith_41 rfl ?_
          refine qlM5 (pc := 42) h dX9_fitsWith_42 (fun h => ?_)
          refine qx_aload_n (pc := 43) 0 dX9_fitsWith_43 rfl ?_
          refine qgM0_8 (pc := 44) qwf_X9_27 dX9_fitsWith_44 ?_
          refine qx_iload_n (pc := 47) 3 dX9_fitsWith_47 rfl ?_
          refine qlM4 (pc := 48) h dX9_fitsWith_48 (fun h => ?_)
          obtain ⟨r1, hr1, h⟩ := qx_bindE h
          refine qx_callVi (pc := 49) 0 r1 σ [.int (σ.1 5 x1.toNatClampNeg), .int (σ.1 4 x1.toNatClampNeg), .int (σ.1 5 x3.toNatClampNeg), .int (σ.1 4 x3.toNatClampNeg)] [] rfl rfl rfl qcm_X9_meet qcv_X9_meet qwm_X9_80 rfl (Nat.le_of_ble_eq_true rfl) (Nat.le_of_ble_eq_true rfl) (by decide) dX9_fitsWith_49 (qM_meet_ok hr1) ?_
          refine qx_if_ne (pc := 52) 59 h dX9_fitsWith_52 (by decide) (fun h => ?_) (fun h => ?_)
          · refine qx_iconst (pc := 59) 0 dX9_fitsWith_59 (by decide) ?_
            refine qx_istore_n (pc := 60) (lv' := [(2, .int 0), (0, .ref (a 0)), (1, .int x1), (3, .int x3)]) dX9_fitsWith_60 (Nat.le_of_ble_eq_true rfl) rfl ?_
            refine qx_iinc (pc := 61) (lv' := [(3, .int (x3 + 1)), (2, .int 0), (0, .ref (a 0)), (1, .int x1)]) 3 (x3 + 1) dX9_fitsWith_61 rfl rfl (Nat.le_of_ble_eq_true rfl) rfl ?_
            refine qx_goto (pc := 64) 4 dX9_fitsWith_64 (by decide) ?_
            exact qx_sub [2, 3, 1, 0] rfl (ih _ _ _ h)
          · refine qx_iconst (pc := 55) 1 dX9_fitsWith_55 (by decide) ?_
            refine qx_goto (pc := 56) 60 dX9_fitsWith_56 (by decide) ?_
            refine qx_istore_n (pc := 60) (lv' := [(2, .int 1), (0, .ref (a 0)), (1, .int x1), (3, .int x3)]) dX9_fitsWith_60 (Nat.le_of_ble_eq_true rfl) rfl ?_
            refine qx_iinc (pc := 61) (lv' := [(3, .int (x3 + 1)), (2, .int 1), (0, .ref (a 0)), (1, .int x1)]) 3 (x3 + 1) dX9_fitsWith_61 rfl rfl (Nat.le_of_ble_eq_true rfl) rfl ?_
            refine qx_goto (pc := 64) 4 dX9_fitsWith_64 (by decide) ?_
            exact qx_sub [2, 3, 1, 0] rfl (ih _ _ _ h)
set_option maxHeartbeats 4000000 in
set_option maxRecDepth 100000 in
theorem qM_fitsWith_ok {σ : QS} {x1 : Int32} {r : Int32} (h : qM_fitsWith σ x1 = some r) : qx_E (qx_gM l D ci a) 3 mX9_fitsWith (some (.int r), σ) 0 [(0, .ref (a 0)), (1, .int x1)] [] σ := by
  unfold qM_fitsWith at h
  refine qx_iconst (pc := 0) 1 dX9_fitsWith_0 (by decide) ?_
  refine qx_istore_n (pc := 1) (lv' := [(2, .int 1), (0, .ref (a 0)), (1, .int x1)]) dX9_fitsWith_1 (Nat.le_of_ble_eq_true rfl) rfl ?_
  refine qx_iconst (pc := 2) 0 dX9_fitsWith_2 (by decide) ?_
  refine qx_istore_n (pc := 3) (lv' := [(3, .int 0), (2, .int 1), (0, .ref (a 0)), (1, .int x1)]) dX9_fitsWith_3 (Nat.le_of_ble_eq_true rfl) rfl ?_
  exact qx_sub [2, 3, 1, 0] rfl (qM_fitsWith_L4_ok qx_F _ _ _ h)
end
