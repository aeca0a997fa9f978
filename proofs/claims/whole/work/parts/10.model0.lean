section
variable {l : Launch} {D : va_G} {ci : Nat → ClassId} {a z : Nat → Nat}
theorem dX9_in_0 : decode cX9_in 0 = .ok (.lload_n 0, 1) := by decide +kernel
theorem dX9_in_1 : decode cX9_in 1 = .ok (.lload_n 2, 1) := by decide +kernel
theorem dX9_in_2 : decode cX9_in 2 = .ok (.lcmp, 1) := by decide +kernel
theorem dX9_in_3 : decode cX9_in 3 = .ok (.ifCond .lt 14, 3) := by decide +kernel
theorem dX9_in_6 : decode cX9_in 6 = .ok (.lload_n 0, 1) := by decide +kernel
theorem dX9_in_7 : decode cX9_in 7 = .ok (.lload 4, 2) := by decide +kernel
theorem dX9_in_9 : decode cX9_in 9 = .ok (.lcmp, 1) := by decide +kernel
theorem dX9_in_10 : decode cX9_in 10 = .ok (.ifCond .gt 7, 3) := by decide +kernel
theorem dX9_in_13 : decode cX9_in 13 = .ok (.iconst 1, 1) := by decide +kernel
theorem dX9_in_14 : decode cX9_in 14 = .ok (.goto 4, 3) := by decide +kernel
theorem dX9_in_17 : decode cX9_in 17 = .ok (.iconst 0, 1) := by decide +kernel
theorem dX9_in_18 : decode cX9_in 18 = .ok (.ireturn, 1) := by decide +kernel
theorem dX9_isPoint_0 : decode cX9_isPoint 0 = .ok (.iload_n 1, 1) := by decide +kernel
theorem dX9_isPoint_1 : decode cX9_isPoint 1 = .ok (.i2l, 1) := by decide +kernel
theorem dX9_isPoint_2 : decode cX9_isPoint 2 = .ok (.lconst 0, 1) := by decide +kernel
theorem dX9_isPoint_3 : decode cX9_isPoint 3 = .ok (.aload_n 0, 1) := by decide +kernel
theorem dX9_isPoint_4 : decode cX9_isPoint 4 = .ok (.getfield 48, 3) := by decide +kernel
theorem dX9_isPoint_7 : decode cX9_isPoint 7 = .ok (.iconst 1, 1) := by decide +kernel
theorem dX9_isPoint_8 : decode cX9_isPoint 8 = .ok (.isub, 1) := by decide +kernel
theorem dX9_isPoint_9 : decode cX9_isPoint 9 = .ok (.i2l, 1) := by decide +kernel
theorem dX9_isPoint_10 : decode cX9_isPoint 10 = .ok (.invokestatic 51, 3) := by decide +kernel
theorem dX9_isPoint_13 : decode cX9_isPoint 13 = .ok (.ireturn, 1) := by decide +kernel
theorem dX9_isVisible_0 : decode cX9_isVisible 0 = .ok (.aload_n 0, 1) := by decide +kernel
theorem dX9_isVisible_1 : decode cX9_isVisible 1 = .ok (.getfield 7, 3) := by decide +kernel
theorem dX9_isVisible_4 : decode cX9_isVisible 4 = .ok (.iconst 0, 1) := by decide +kernel
theorem dX9_isVisible_5 : decode cX9_isVisible 5 = .ok (.iload_n 1, 1) := by decide +kernel
theorem dX9_isVisible_6 : decode cX9_isVisible 6 = .ok (.iadd, 1) := by decide +kernel
theorem dX9_isVisible_7 : decode cX9_isVisible 7 = .ok (.iaload, 1) := by decide +kernel
theorem dX9_isVisible_8 : decode cX9_isVisible 8 = .ok (.i2l, 1) := by decide +kernel
theorem dX9_isVisible_9 : decode cX9_isVisible 9 = .ok (.aload_n 0, 1) := by decide +kernel
theorem dX9_isVisible_10 : decode cX9_isVisible 10 = .ok (.getfield 55, 3) := by decide +kernel
theorem dX9_isVisible_13 : decode cX9_isVisible 13 = .ok (.i2l, 1) := by decide +kernel
theorem dX9_isVisible_14 : decode cX9_isVisible 14 = .ok (.aload_n 0, 1) := by decide +kernel
theorem dX9_isVisible_15 : decode cX9_isVisible 15 = .ok (.getfield 55, 3) := by decide +kernel
theorem dX9_isVisible_18 : decode cX9_isVisible 18 = .ok (.aload_n 0, 1) := by decide +kernel
theorem dX9_isVisible_19 : decode cX9_isVisible 19 = .ok (.getfield 13, 3) := by decide +kernel
theorem dX9_isVisible_22 : decode cX9_isVisible 22 = .ok (.iadd, 1) := by decide +kernel
theorem dX9_isVisible_23 : decode cX9_isVisible 23 = .ok (.iconst 1, 1) := by decide +kernel
theorem dX9_isVisible_24 : decode cX9_isVisible 24 = .ok (.isub, 1) := by decide +kernel
theorem dX9_isVisible_25 : decode cX9_isVisible 25 = .ok (.i2l, 1) := by decide +kernel
theorem dX9_isVisible_26 : decode cX9_isVisible 26 = .ok (.invokestatic 51, 3) := by decide +kernel
theorem dX9_isVisible_29 : decode cX9_isVisible 29 = .ok (.ifCond .eq 40, 3) := by decide +kernel
theorem dX9_isVisible_32 : decode cX9_isVisible 32 = .ok (.aload_n 0, 1) := by decide +kernel
theorem dX9_isVisible_33 : decode cX9_isVisible 33 = .ok (.getfield 7, 3) := by decide +kernel
theorem dX9_isVisible_36 : decode cX9_isVisible 36 = .ok (.bipush 20, 2) := by decide +kernel
theorem dX9_isVisible_38 : decode cX9_isVisible 38 = .ok (.iload_n 1, 1) := by decide +kernel
theorem dX9_isVisible_39 : decode cX9_isVisible 39 = .ok (.iadd, 1) := by decide +kernel
theorem dX9_isVisible_40 : decode cX9_isVisible 40 = .ok (.iaload, 1) := by decide +kernel
theorem dX9_isVisible_41 : decode cX9_isVisible 41 = .ok (.i2l, 1) := by decide +kernel
theorem dX9_isVisible_42 : decode cX9_isVisible 42 = .ok (.aload_n 0, 1) := by decide +kernel
theorem dX9_isVisible_43 : decode cX9_isVisible 43 = .ok (.getfield 58, 3) := by decide +kernel
theorem dX9_isVisible_46 : decode cX9_isVisible 46 = .ok (.i2l, 1) := by decide +kernel
theorem dX9_isVisible_47 : decode cX9_isVisible 47 = .ok (.aload_n 0, 1) := by decide +kernel
theorem dX9_isVisible_48 : decode cX9_isVisible 48 = .ok (.getfield 58, 3) := by decide +kernel
theorem dX9_isVisible_51 : decode cX9_isVisible 51 = .ok (.aload_n 0, 1) := by decide +kernel
theorem dX9_isVisible_52 : decode cX9_isVisible 52 = .ok (.getfield 17, 3) := by decide +kernel
theorem dX9_isVisible_55 : decode cX9_isVisible 55 = .ok (.iadd, 1) := by decide +kernel
theorem dX9_isVisible_56 : decode cX9_isVisible 56 = .ok (.iconst 1, 1) := by decide +kernel
theorem dX9_isVisible_57 : decode cX9_isVisible 57 = .ok (.isub, 1) := by decide +kernel
theorem dX9_isVisible_58 : decode cX9_isVisible 58 = .ok (.i2l, 1) := by decide +kernel
theorem dX9_isVisible_59 : decode cX9_isVisible 59 = .ok (.invokestatic 51, 3) := by decide +kernel
theorem dX9_isVisible_62 : decode cX9_isVisible 62 = .ok (.ifCond .eq 7, 3) := by decide +kernel
theorem dX9_isVisible_65 : decode cX9_isVisible 65 = .ok (.iconst 1, 1) := by decide +kernel
theorem dX9_isVisible_66 : decode cX9_isVisible 66 = .ok (.goto 4, 3) := by decide +kernel
theorem dX9_isVisible_69 : decode cX9_isVisible 69 = .ok (.iconst 0, 1) := by decide +kernel
theorem dX9_isVisible_70 : decode cX9_isVisible 70 = .ok (.ireturn, 1) := by decide +kernel
theorem dX9_left_0 : decode cX9_left 0 = .ok (.aload_n 0, 1) := by decide +kernel
theorem dX9_left_1 : decode cX9_left 1 = .ok (.getfield 7, 3) := by decide +kernel
theorem dX9_left_4 : decode cX9_left 4 = .ok (.iconst 0, 1) := by decide +kernel
theorem dX9_left_5 : decode cX9_left 5 = .ok (.iload_n 1, 1) := by decide +kernel
theorem dX9_left_6 : decode cX9_left 6 = .ok (.iadd, 1) := by decide +kernel
theorem dX9_left_7 : decode cX9_left 7 = .ok (.iaload, 1) := by decide +kernel
theorem dX9_left_8 : decode cX9_left 8 = .ok (.istore_n 3, 1) := by decide +kernel
theorem dX9_left_9 : decode cX9_left 9 = .ok (.iload_n 2, 1) := by decide +kernel
theorem dX9_left_10 : decode cX9_left 10 = .ok (.iconst 5, 1) := by decide +kernel
theorem dX9_left_11 : decode cX9_left 11 = .ok (.if_icmp .le 21, 3) := by decide +kernel
theorem dX9_left_14 : decode cX9_left 14 = .ok (.iload_n 3, 1) := by decide +kernel
theorem dX9_left_15 : decode cX9_left 15 = .ok (.aload_n 0, 1) := by decide +kernel
theorem dX9_left_16 : decode cX9_left 16 = .ok (.getfield 7, 3) := by decide +kernel
theorem dX9_left_19 : decode cX9_left 19 = .ok (.bipush 40, 2) := by decide +kernel
theorem dX9_left_21 : decode cX9_left 21 = .ok (.iload_n 1, 1) := by decide +kernel
theorem dX9_left_22 : decode cX9_left 22 = .ok (.iadd, 1) := by decide +kernel
theorem dX9_left_23 : decode cX9_left 23 = .ok (.iaload, 1) := by decide +kernel
theorem dX9_left_24 : decode cX9_left 24 = .ok (.iconst 1, 1) := by decide +kernel
theorem dX9_left_25 : decode cX9_left 25 = .ok (.isub, 1) := by decide +kernel
theorem dX9_left_26 : decode cX9_left 26 = .ok (.iconst 2, 1) := by decide +kernel
theorem dX9_left_27 : decode cX9_left 27 = .ok (.idiv, 1) := by decide +kernel
theorem dX9_left_28 : decode cX9_left 28 = .ok (.isub, 1) := by decide +kernel
theorem dX9_left_29 : decode cX9_left 29 = .ok (.goto 26, 3) := by decide +kernel
theorem dX9_left_32 : decode cX9_left 32 = .ok (.iload_n 2, 1) := by decide +kernel
theorem dX9_left_33 : decode cX9_left 33 = .ok (.iconst 2, 1) := by decide +kernel
theorem dX9_left_34 : decode cX9_left 34 = .ok (.irem, 1) := by decide +kernel
theorem dX9_left_35 : decode cX9_left 35 = .ok (.ifCond .ne 9, 3) := by decide +kernel
theorem dX9_left_38 : decode cX9_left 38 = .ok (.iload_n 3, 1) := by decide +kernel
theorem dX9_left_39 : decode cX9_left 39 = .ok (.iconst 1, 1) := by decide +kernel
theorem dX9_left_40 : decode cX9_left 40 = .ok (.iadd, 1) := by decide +kernel
theorem dX9_left_41 : decode cX9_left 41 = .ok (.goto 14, 3) := by decide +kernel
theorem dX9_left_44 : decode cX9_left 44 = .ok (.iload_n 3, 1) := by decide +kernel
theorem dX9_left_45 : decode cX9_left 45 = .ok (.aload_n 0, 1) := by decide +kernel
theorem dX9_left_46 : decode cX9_left 46 = .ok (.getfield 7, 3) := by decide +kernel
theorem dX9_left_49 : decode cX9_left 49 = .ok (.bipush 40, 2) := by decide +kernel
theorem dX9_left_51 : decode cX9_left 51 = .ok (.iload_n 1, 1) := by decide +kernel
theorem dX9_left_52 : decode cX9_left 52 = .ok (.iadd, 1) := by decide +kernel
theorem dX9_left_53 : decode cX9_left 53 = .ok (.iaload, 1) := by decide +kernel
theorem dX9_left_54 : decode cX9_left 54 = .ok (.isub, 1) := by decide +kernel
theorem dX9_left_55 : decode cX9_left 55 = .ok (.ireturn, 1) := by decide +kernel
theorem dX9_bottom_0 : decode cX9_bottom 0 = .ok (.aload_n 0, 1) := by decide +kernel
theorem dX9_bottom_1 : decode cX9_bottom 1 = .ok (.getfield 7, 3) := by decide +kernel
theorem dX9_bottom_4 : decode cX9_bottom 4 = .ok (.bipush 20, 2) := by decide +kernel
theorem dX9_bottom_6 : decode cX9_bottom 6 = .ok (.iload_n 1, 1) := by decide +kernel
theorem dX9_bottom_7 : decode cX9_bottom 7 = .ok (.iadd, 1) := by decide +kernel
theorem dX9_bottom_8 : decode cX9_bottom 8 = .ok (.iaload, 1) := by decide +kernel
theorem dX9_bottom_9 : decode cX9_bottom 9 = .ok (.istore_n 3, 1) := by decide +kernel
theorem dX9_bottom_10 : decode cX9_bottom 10 = .ok (.iload_n 2, 1) := by decide +kernel
theorem dX9_bottom_11 : decode cX9_bottom 11 = .ok (.iconst 4, 1) := by decide +kernel
theorem dX9_bottom_12 : decode cX9_bottom 12 = .ok (.if_icmp .eq 8, 3) := by decide +kernel
theorem dX9_bottom_15 : decode cX9_bottom 15 = .ok (.iload_n 2, 1) := by decide +kernel
theorem dX9_bottom_16 : decode cX9_bottom 16 = .ok (.iconst 5, 1) := by decide +kernel
theorem dX9_bottom_17 : decode cX9_bottom 17 = .ok (.if_icmp .ne 19, 3) := by decide +kernel
theorem dX9_bottom_20 : decode cX9_bottom 20 = .ok (.iload_n 3, 1) := by decide +kernel
theorem dX9_bottom_21 : decode cX9_bottom 21 = .ok (.aload_n 0, 1) := by decide +kernel
theorem dX9_bottom_22 : decode cX9_bottom 22 = .ok (.getfield 7, 3) := by decide +kernel
theorem dX9_bottom_25 : decode cX9_bottom 25 = .ok (.bipush 60, 2) := by decide +kernel
theorem dX9_bottom_27 : decode cX9_bottom 27 = .ok (.iload_n 1, 1) := by decide +kernel
theorem dX9_bottom_28 : decode cX9_bottom 28 = .ok (.iadd, 1) := by decide +kernel
theorem dX9_bottom_29 : decode cX9_bottom 29 = .ok (.iaload, 1) := by decide +kernel
theorem dX9_bottom_30 : decode cX9_bottom 30 = .ok (.iconst 1, 1) := by decide +kernel
theorem dX9_bottom_31 : decode cX9_bottom 31 = .ok (.isub, 1) := by decide +kernel
theorem dX9_bottom_32 : decode cX9_bottom 32 = .ok (.iconst 2, 1) := by decide +kernel
theorem dX9_bottom_33 : decode cX9_bottom 33 = .ok (.idiv, 1) := by decide +kernel
theorem dX9_bottom_34 : decode cX9_bottom 34 = .ok (.isub, 1) := by decide +kernel
theorem dX9_bottom_35 : decode cX9_bottom 35 = .ok (.ireturn, 1) := by decide +kernel
theorem dX9_bottom_36 : decode cX9_bottom 36 = .ok (.iload_n 2, 1) := by decide +kernel
theorem dX9_bottom_37 : decode cX9_bottom 37 = .ok (.ifCond .eq 14, 3) := by decide +kernel
theorem dX9_bottom_40 : decode cX9_bottom 40 = .ok (.iload_n 2, 1) := by decide +kernel
theorem dX9_bottom_41 : decode cX9_bottom 41 = .ok (.iconst 1, 1) := by decide +kernel
theorem dX9_bottom_42 : decode cX9_bottom 42 = .ok (.if_icmp .eq 9, 3) := by decide +kernel
theorem dX9_bottom_45 : decode cX9_bottom 45 = .ok (.iload_n 2, 1) := by decide +kernel
theorem dX9_bottom_46 : decode cX9_bottom 46 = .ok (.bipush 6, 2) := by decide +kernel
theorem dX9_bottom_48 : decode cX9_bottom 48 = .ok (.if_icmp .ne 9, 3) := by decide +kernel
theorem dX9_bottom_51 : decode cX9_bottom 51 = .ok (.iload_n 3, 1) := by decide +kernel
theorem dX9_bottom_52 : decode cX9_bottom 52 = .ok (.iconst 1, 1) := by decide +kernel
theorem dX9_bottom_53 : decode cX9_bottom 53 = .ok (.iadd, 1) := by decide +kernel
theorem dX9_bottom_54 : decode cX9_bottom 54 = .ok (.goto 14, 3) := by decide +kernel
theorem dX9_bottom_57 : decode cX9_bottom 57 = .ok (.iload_n 3, 1) := by decide +kernel
theorem dX9_bottom_58 : decode cX9_bottom 58 = .ok (.aload_n 0, 1) := by decide +kernel
theorem dX9_bottom_59 : decode cX9_bottom 59 = .ok (.getfield 7, 3) := by decide +kernel
theorem dX9_bottom_62 : decode cX9_bottom 62 = .ok (.bipush 60, 2) := by decide +kernel
theorem dX9_bottom_64 : decode cX9_bottom 64 = .ok (.iload_n 1, 1) := by decide +kernel
theorem dX9_bottom_65 : decode cX9_bottom 65 = .ok (.iadd, 1) := by decide +kernel
theorem dX9_bottom_66 : decode cX9_bottom 66 = .ok (.iaload, 1) := by decide +kernel
theorem dX9_bottom_67 : decode cX9_bottom 67 = .ok (.isub, 1) := by decide +kernel
theorem dX9_bottom_68 : decode cX9_bottom 68 = .ok (.ireturn, 1) := by decide +kernel
theorem dX9_covers_0 : decode cX9_covers 0 = .ok (.aload_n 0, 1) := by decide +kernel
theorem dX9_covers_1 : decode cX9_covers 1 = .ok (.iload_n 1, 1) := by decide +kernel
theorem dX9_covers_2 : decode cX9_covers 2 = .ok (.iload_n 2, 1) := by decide +kernel
theorem dX9_covers_3 : decode cX9_covers 3 = .ok (.invokevirtual 61, 3) := by decide +kernel
theorem dX9_covers_6 : decode cX9_covers 6 = .ok (.istore 5, 2) := by decide +kernel
theorem dX9_covers_8 : decode cX9_covers 8 = .ok (.aload_n 0, 1) := by decide +kernel
theorem dX9_covers_9 : decode cX9_covers 9 = .ok (.iload_n 1, 1) := by decide +kernel
theorem dX9_covers_10 : decode cX9_covers 10 = .ok (.iload_n 2, 1) := by decide +kernel
theorem dX9_covers_11 : decode cX9_covers 11 = .ok (.invokevirtual 65, 3) := by decide +kernel
theorem dX9_covers_14 : decode cX9_covers 14 = .ok (.istore 6, 2) := by decide +kernel
theorem dX9_covers_16 : decode cX9_covers 16 = .ok (.iload_n 3, 1) := by decide +kernel
theorem dX9_covers_17 : decode cX9_covers 17 = .ok (.i2l, 1) := by decide +kernel
theorem dX9_covers_18 : decode cX9_covers 18 = .ok (.iload 5, 2) := by decide +kernel
theorem dX9_covers_20 : decode cX9_covers 20 = .ok (.i2l, 1) := by decide +kernel
theorem dX9_covers_21 : decode cX9_covers 21 = .ok (.iload 5, 2) := by decide +kernel
theorem dX9_covers_23 : decode cX9_covers 23 = .ok (.aload_n 0, 1) := by decide +kernel
theorem dX9_covers_24 : decode cX9_covers 24 = .ok (.getfield 7, 3) := by decide +kernel
theorem dX9_covers_27 : decode cX9_covers 27 = .ok (.bipush 40, 2) := by decide +kernel
theorem dX9_covers_29 : decode cX9_covers 29 = .ok (.iload_n 1, 1) := by decide +kernel
theorem dX9_covers_30 : decode cX9_covers 30 = .ok (.iadd, 1) := by decide +kernel
theorem dX9_covers_31 : decode cX9_covers 31 = .ok (.iaload, 1) := by decide +kernel
theorem dX9_covers_32 : decode cX9_covers 32 = .ok (.iadd, 1) := by decide +kernel
theorem dX9_covers_33 : decode cX9_covers 33 = .ok (.iconst 1, 1) := by decide +kernel
theorem dX9_covers_34 : decode cX9_covers 34 = .ok (.isub, 1) := by decide +kernel
theorem dX9_covers_35 : decode cX9_covers 35 = .ok (.i2l, 1) := by decide +kernel
theorem dX9_covers_36 : decode cX9_covers 36 = .ok (.invokestatic 51, 3) := by decide +kernel
theorem dX9_covers_39 : decode cX9_covers 39 = .ok (.ifCond .eq 34, 3) := by decide +kernel
theorem dX9_covers_42 : decode cX9_covers 42 = .ok (.iload 4, 2) := by decide +kernel
theorem dX9_covers_44 : decode cX9_covers 44 = .ok (.i2l, 1) := by decide +kernel
theorem dX9_covers_45 : decode cX9_covers 45 = .ok (.iload 6, 2) := by decide +kernel
theorem dX9_covers_47 : decode cX9_covers 47 = .ok (.i2l, 1) := by decide +kernel
theorem dX9_covers_48 : decode cX9_covers 48 = .ok (.iload 6, 2) := by decide +kernel
theorem dX9_covers_50 : decode cX9_covers 50 = .ok (.aload_n 0, 1) := by decide +kernel
theorem dX9_covers_51 : decode cX9_covers 51 = .ok (.getfield 7, 3) := by decide +kernel
theorem dX9_covers_54 : decode cX9_covers 54 = .ok (.bipush 60, 2) := by decide +kernel
theorem dX9_covers_56 : decode cX9_covers 56 = .ok (.iload_n 1, 1) := by decide +kernel
theorem dX9_covers_57 : decode cX9_covers 57 = .ok (.iadd, 1) := by decide +kernel
theorem dX9_covers_58 : decode cX9_covers 58 = .ok (.iaload, 1) := by decide +kernel
theorem dX9_covers_59 : decode cX9_covers 59 = .ok (.iadd, 1) := by decide +kernel
theorem dX9_covers_60 : decode cX9_covers 60 = .ok (.iconst 1, 1) := by decide +kernel
theorem dX9_covers_61 : decode cX9_covers 61 = .ok (.isub, 1) := by decide +kernel
theorem dX9_covers_62 : decode cX9_covers 62 = .ok (.i2l, 1) := by decide +kernel
theorem dX9_covers_63 : decode cX9_covers 63 = .ok (.invokestatic 51, 3) := by decide +kernel
theorem dX9_covers_66 : decode cX9_covers 66 = .ok (.ifCond .eq 7, 3) := by decide +kernel
theorem dX9_covers_69 : decode cX9_covers 69 = .ok (.iconst 1, 1) := by decide +kernel
theorem dX9_covers_70 : decode cX9_covers 70 = .ok (.goto 4, 3) := by decide +kernel
theorem dX9_covers_73 : decode cX9_covers 73 = .ok (.iconst 0, 1) := by decide +kernel
theorem dX9_covers_74 : decode cX9_covers 74 = .ok (.ireturn, 1) := by decide +kernel
theorem dX9_finds_0 : decode cX9_finds 0 = .ok (.aload_n 0, 1) := by decide +kernel
theorem dX9_finds_1 : decode cX9_finds 1 = .ok (.iload_n 1, 1) := by decide +kernel
theorem dX9_finds_2 : decode cX9_finds 2 = .ok (.iload_n 2, 1) := by decide +kernel
theorem dX9_finds_3 : decode cX9_finds 3 = .ok (.invokevirtual 61, 3) := by decide +kernel
theorem dX9_finds_6 : decode cX9_finds 6 = .ok (.istore_n 3, 1) := by decide +kernel
theorem dX9_finds_7 : decode cX9_finds 7 = .ok (.aload_n 0, 1) := by decide +kernel
theorem dX9_finds_8 : decode cX9_finds 8 = .ok (.iload_n 1, 1) := by decide +kernel
theorem dX9_finds_9 : decode cX9_finds 9 = .ok (.iload_n 2, 1) := by decide +kernel
theorem dX9_finds_10 : decode cX9_finds 10 = .ok (.invokevirtual 65, 3) := by decide +kernel
theorem dX9_finds_13 : decode cX9_finds 13 = .ok (.istore 4, 2) := by decide +kernel
theorem dX9_finds_15 : decode cX9_finds 15 = .ok (.aload_n 0, 1) := by decide +kernel
theorem dX9_finds_16 : decode cX9_finds 16 = .ok (.iload_n 1, 1) := by decide +kernel
theorem dX9_finds_17 : decode cX9_finds 17 = .ok (.invokevirtual 68, 3) := by decide +kernel
theorem dX9_finds_20 : decode cX9_finds 20 = .ok (.ifCond .eq 24, 3) := by decide +kernel
theorem dX9_finds_23 : decode cX9_finds 23 = .ok (.aload_n 0, 1) := by decide +kernel
theorem dX9_finds_24 : decode cX9_finds 24 = .ok (.getfield 7, 3) := by decide +kernel
theorem dX9_finds_27 : decode cX9_finds 27 = .ok (.bipush 100, 2) := by decide +kernel
theorem dX9_finds_29 : decode cX9_finds 29 = .ok (.iload_n 1, 1) := by decide +kernel
theorem dX9_finds_30 : decode cX9_finds 30 = .ok (.iadd, 1) := by decide +kernel
theorem dX9_finds_31 : decode cX9_finds 31 = .ok (.iaload, 1) := by decide +kernel
theorem dX9_finds_32 : decode cX9_finds 32 = .ok (.iload_n 2, 1) := by decide +kernel
theorem dX9_finds_33 : decode cX9_finds 33 = .ok (.ishr, 1) := by decide +kernel
theorem dX9_finds_34 : decode cX9_finds 34 = .ok (.iconst 1, 1) := by decide +kernel
theorem dX9_finds_35 : decode cX9_finds 35 = .ok (.iand, 1) := by decide +kernel
theorem dX9_finds_36 : decode cX9_finds 36 = .ok (.iconst 1, 1) := by decide +kernel
theorem dX9_finds_37 : decode cX9_finds 37 = .ok (.if_icmp .ne 7, 3) := by decide +kernel
theorem dX9_finds_40 : decode cX9_finds 40 = .ok (.iconst 1, 1) := by decide +kernel
theorem dX9_finds_41 : decode cX9_finds 41 = .ok (.goto 4, 3) := by decide +kernel
theorem dX9_finds_44 : decode cX9_finds 44 = .ok (.iconst 0, 1) := by decide +kernel
theorem dX9_finds_45 : decode cX9_finds 45 = .ok (.istore 5, 2) := by decide +kernel
theorem dX9_finds_47 : decode cX9_finds 47 = .ok (.iload 5, 2) := by decide +kernel
theorem dX9_finds_49 : decode cX9_finds 49 = .ok (.ifCond .eq 71, 3) := by decide +kernel
theorem dX9_finds_52 : decode cX9_finds 52 = .ok (.iload_n 3, 1) := by decide +kernel
theorem dX9_finds_53 : decode cX9_finds 53 = .ok (.aload_n 0, 1) := by decide +kernel
theorem dX9_finds_54 : decode cX9_finds 54 = .ok (.getfield 55, 3) := by decide +kernel
theorem dX9_finds_57 : decode cX9_finds 57 = .ok (.if_icmp .lt 63, 3) := by decide +kernel
theorem dX9_finds_60 : decode cX9_finds 60 = .ok (.iload 4, 2) := by decide +kernel
theorem dX9_finds_62 : decode cX9_finds 62 = .ok (.aload_n 0, 1) := by decide +kernel
theorem dX9_finds_63 : decode cX9_finds 63 = .ok (.getfield 58, 3) := by decide +kernel
theorem dX9_finds_66 : decode cX9_finds 66 = .ok (.if_icmp .lt 54, 3) := by decide +kernel
theorem dX9_finds_69 : decode cX9_finds 69 = .ok (.iload_n 3, 1) := by decide +kernel
theorem dX9_finds_70 : decode cX9_finds 70 = .ok (.aload_n 0, 1) := by decide +kernel
theorem dX9_finds_71 : decode cX9_finds 71 = .ok (.getfield 7, 3) := by decide +kernel
theorem dX9_finds_74 : decode cX9_finds 74 = .ok (.bipush 40, 2) := by decide +kernel
theorem dX9_finds_76 : decode cX9_finds 76 = .ok (.iload_n 1, 1) := by decide +kernel
theorem dX9_finds_77 : decode cX9_finds 77 = .ok (.iadd, 1) := by decide +kernel
theorem dX9_finds_78 : decode cX9_finds 78 = .ok (.iaload, 1) := by decide +kernel
theorem dX9_finds_79 : decode cX9_finds 79 = .ok (.iadd, 1) := by decide +kernel
theorem dX9_finds_80 : decode cX9_finds 80 = .ok (.aload_n 0, 1) := by decide +kernel
theorem dX9_finds_81 : decode cX9_finds 81 = .ok (.getfield 55, 3) := by decide +kernel
theorem dX9_finds_84 : decode cX9_finds 84 = .ok (.aload_n 0, 1) := by decide +kernel
theorem dX9_finds_85 : decode cX9_finds 85 = .ok (.getfield 13, 3) := by decide +kernel
theorem dX9_finds_88 : decode cX9_finds 88 = .ok (.iadd, 1) := by decide +kernel
theorem dX9_finds_89 : decode cX9_finds 89 = .ok (.if_icmp .gt 31, 3) := by decide +kernel
theorem dX9_finds_92 : decode cX9_finds 92 = .ok (.iload 4, 2) := by decide +kernel
theorem dX9_finds_94 : decode cX9_finds 94 = .ok (.aload_n 0, 1) := by decide +kernel
theorem dX9_finds_95 : decode cX9_finds 95 = .ok (.getfield 7, 3) := by decide +kernel
theorem dX9_finds_98 : decode cX9_finds 98 = .ok (.bipush 60, 2) := by decide +kernel
theorem dX9_finds_100 : decode cX9_finds 100 = .ok (.iload_n 1, 1) := by decide +kernel
theorem dX9_finds_101 : decode cX9_finds 101 = .ok (.iadd, 1) := by decide +kernel
theorem dX9_finds_102 : decode cX9_finds 102 = .ok (.iaload, 1) := by decide +kernel
theorem dX9_finds_103 : decode cX9_finds 103 = .ok (.iadd, 1) := by decide +kernel
theorem dX9_finds_104 : decode cX9_finds 104 = .ok (.aload_n 0, 1) := by decide +kernel
theorem dX9_finds_105 : decode cX9_finds 105 = .ok (.getfield 58, 3) := by decide +kernel
theorem dX9_finds_108 : decode cX9_finds 108 = .ok (.aload_n 0, 1) := by decide +kernel
theorem dX9_finds_109 : decode cX9_finds 109 = .ok (.getfield 17, 3) := by decide +kernel
theorem dX9_finds_112 : decode cX9_finds 112 = .ok (.iadd, 1) := by decide +kernel
theorem dX9_finds_113 : decode cX9_finds 113 = .ok (.if_icmp .gt 7, 3) := by decide +kernel
theorem dX9_finds_116 : decode cX9_finds 116 = .ok (.iconst 1, 1) := by decide +kernel
theorem dX9_finds_117 : decode cX9_finds 117 = .ok (.goto 4, 3) := by decide +kernel
theorem dX9_finds_120 : decode cX9_finds 120 = .ok (.iconst 0, 1) := by decide +kernel
theorem dX9_finds_121 : decode cX9_finds 121 = .ok (.istore 5, 2) := by decide +kernel
theorem dX9_finds_123 : decode cX9_finds 123 = .ok (.iconst 0, 1) := by decide +kernel
theorem dX9_finds_124 : decode cX9_finds 124 = .ok (.istore 6, 2) := by decide +kernel
theorem dX9_finds_126 : decode cX9_finds 126 = .ok (.iload 6, 2) := by decide +kernel
theorem dX9_finds_128 : decode cX9_finds 128 = .ok (.aload_n 0, 1) := by decide +kernel
theorem dX9_finds_129 : decode cX9_finds 129 = .ok (.getfield 48, 3) := by decide +kernel
theorem dX9_finds_132 : decode cX9_finds 132 = .ok (.if_icmp .ge 49, 3) := by decide +kernel
theorem dX9_finds_135 : decode cX9_finds 135 = .ok (.iload 5, 2) := by decide +kernel
theorem dX9_finds_137 : decode cX9_finds 137 = .ok (.ifCond .eq 44, 3) := by decide +kernel
theorem dX9_finds_140 : decode cX9_finds 140 = .ok (.aload_n 0, 1) := by decide +kernel
theorem dX9_finds_141 : decode cX9_finds 141 = .ok (.iload_n 1, 1) := by decide +kernel
theorem dX9_finds_142 : decode cX9_finds 142 = .ok (.iload_n 2, 1) := by decide +kernel
theorem dX9_finds_143 : decode cX9_finds 143 = .ok (.aload_n 0, 1) := by decide +kernel
theorem dX9_finds_144 : decode cX9_finds 144 = .ok (.getfield 7, 3) := by decide +kernel
theorem dX9_finds_147 : decode cX9_finds 147 = .ok (.iconst 0, 1) := by decide +kernel
theorem dX9_finds_148 : decode cX9_finds 148 = .ok (.iload 6, 2) := by decide +kernel
theorem dX9_finds_150 : decode cX9_finds 150 = .ok (.iadd, 1) := by decide +kernel
theorem dX9_finds_151 : decode cX9_finds 151 = .ok (.iaload, 1) := by decide +kernel
theorem dX9_finds_152 : decode cX9_finds 152 = .ok (.aload_n 0, 1) := by decide +kernel
theorem dX9_finds_153 : decode cX9_finds 153 = .ok (.getfield 7, 3) := by decide +kernel
theorem dX9_finds_156 : decode cX9_finds 156 = .ok (.bipush 20, 2) := by decide +kernel
theorem dX9_finds_158 : decode cX9_finds 158 = .ok (.iload 6, 2) := by decide +kernel
theorem dX9_finds_160 : decode cX9_finds 160 = .ok (.iadd, 1) := by decide +kernel
theorem dX9_finds_161 : decode cX9_finds 161 = .ok (.iaload, 1) := by decide +kernel
theorem dX9_finds_162 : decode cX9_finds 162 = .ok (.invokevirtual 72, 3) := by decide +kernel
theorem dX9_finds_165 : decode cX9_finds 165 = .ok (.ifCond .ne 7, 3) := by decide +kernel
theorem dX9_finds_168 : decode cX9_finds 168 = .ok (.iconst 1, 1) := by decide +kernel
theorem dX9_finds_169 : decode cX9_finds 169 = .ok (.goto 4, 3) := by decide +kernel
theorem dX9_finds_172 : decode cX9_finds 172 = .ok (.iconst 0, 1) := by decide +kernel
theorem dX9_finds_173 : decode cX9_finds 173 = .ok (.istore 5, 2) := by decide +kernel
theorem dX9_finds_175 : decode cX9_finds 175 = .ok (.iinc 6 1, 3) := by decide +kernel
theorem dX9_finds_178 : decode cX9_finds 178 = .ok (.goto (-52), 3) := by decide +kernel
theorem dX9_finds_181 : decode cX9_finds 181 = .ok (.iload 5, 2) := by decide +kernel
theorem dX9_finds_183 : decode cX9_finds 183 = .ok (.ireturn, 1) := by decide +kernel
theorem dX9_findsAll_0 : decode cX9_findsAll 0 = .ok (.iconst 0, 1) := by decide +kernel
theorem dX9_findsAll_1 : decode cX9_findsAll 1 = .ok (.istore_n 1, 1) := by decide +kernel
theorem dX9_findsAll_2 : decode cX9_findsAll 2 = .ok (.iload_n 1, 1) := by decide +kernel
theorem dX9_findsAll_3 : decode cX9_findsAll 3 = .ok (.bipush 8, 2) := by decide +kernel
theorem dX9_findsAll_5 : decode cX9_findsAll 5 = .ok (.aload_n 0, 1) := by decide +kernel
theorem dX9_findsAll_6 : decode cX9_findsAll 6 = .ok (.getfield 48, 3) := by decide +kernel
theorem dX9_findsAll_9 : decode cX9_findsAll 9 = .ok (.imul, 1) := by decide +kernel
theorem dX9_findsAll_10 : decode cX9_findsAll 10 = .ok (.if_icmp .ge 27, 3) := by decide +kernel
theorem dX9_findsAll_13 : decode cX9_findsAll 13 = .ok (.aload_n 0, 1) := by decide +kernel
theorem dX9_findsAll_14 : decode cX9_findsAll 14 = .ok (.getfield 20, 3) := by decide +kernel
theorem dX9_findsAll_17 : decode cX9_findsAll 17 = .ok (.iload_n 1, 1) := by decide +kernel
theorem dX9_findsAll_18 : decode cX9_findsAll 18 = .ok (.aload_n 0, 1) := by decide +kernel
theorem dX9_findsAll_19 : decode cX9_findsAll 19 = .ok (.iload_n 1, 1) := by decide +kernel
theorem dX9_findsAll_20 : decode cX9_findsAll 20 = .ok (.bipush 8, 2) := by decide +kernel
theorem dX9_findsAll_22 : decode cX9_findsAll 22 = .ok (.idiv, 1) := by decide +kernel
theorem dX9_findsAll_23 : decode cX9_findsAll 23 = .ok (.iload_n 1, 1) := by decide +kernel
theorem dX9_findsAll_24 : decode cX9_findsAll 24 = .ok (.bipush 8, 2) := by decide +kernel
theorem dX9_findsAll_26 : decode cX9_findsAll 26 = .ok (.irem, 1) := by decide +kernel
theorem dX9_findsAll_27 : decode cX9_findsAll 27 = .ok (.invokevirtual 76, 3) := by decide +kernel
theorem dX9_findsAll_30 : decode cX9_findsAll 30 = .ok (.bastore, 1) := by decide +kernel
theorem dX9_findsAll_31 : decode cX9_findsAll 31 = .ok (.iinc 1 1, 3) := by decide +kernel
theorem dX9_findsAll_34 : decode cX9_findsAll 34 = .ok (.goto (-32), 3) := by decide +kernel
theorem dX9_findsAll_37 : decode cX9_findsAll 37 = .ok (.return_, 1) := by decide +kernel
theorem dX9_meet_0 : decode cX9_meet 0 = .ok (.aload_n 0, 1) := by decide +kernel
theorem dX9_meet_1 : decode cX9_meet 1 = .ok (.iload_n 1, 1) := by decide +kernel
theorem dX9_meet_2 : decode cX9_meet 2 = .ok (.iload_n 2, 1) := by decide +kernel
theorem dX9_meet_3 : decode cX9_meet 3 = .ok (.invokevirtual 61, 3) := by decide +kernel
theorem dX9_meet_6 : decode cX9_meet 6 = .ok (.aload_n 0, 1) := by decide +kernel
theorem dX9_meet_7 : decode cX9_meet 7 = .ok (.iload_n 3, 1) := by decide +kernel
theorem dX9_meet_8 : decode cX9_meet 8 = .ok (.iload 4, 2) := by decide +kernel
theorem dX9_meet_10 : decode cX9_meet 10 = .ok (.invokevirtual 61, 3) := by decide +kernel
theorem dX9_meet_13 : decode cX9_meet 13 = .ok (.aload_n 0, 1) := by decide +kernel
theorem dX9_meet_14 : decode cX9_meet 14 = .ok (.getfield 7, 3) := by decide +kernel
theorem dX9_meet_17 : decode cX9_meet 17 = .ok (.bipush 40, 2) := by decide +kernel
theorem dX9_meet_19 : decode cX9_meet 19 = .ok (.iload_n 3, 1) := by decide +kernel
theorem dX9_meet_20 : decode cX9_meet 20 = .ok (.iadd, 1) := by decide +kernel
theorem dX9_meet_21 : decode cX9_meet 21 = .ok (.iaload, 1) := by decide +kernel
theorem dX9_meet_22 : decode cX9_meet 22 = .ok (.iadd, 1) := by decide +kernel
theorem dX9_meet_23 : decode cX9_meet 23 = .ok (.if_icmp .ge 33, 3) := by decide +kernel
theorem dX9_meet_26 : decode cX9_meet 26 = .ok (.aload_n 0, 1) := by decide +kernel
theorem dX9_meet_27 : decode cX9_meet 27 = .ok (.iload_n 3, 1) := by decide +kernel
theorem dX9_meet_28 : decode cX9_meet 28 = .ok (.iload 4, 2) := by decide +kernel
theorem dX9_meet_30 : decode cX9_meet 30 = .ok (.invokevirtual 61, 3) := by decide +kernel
theorem dX9_meet_33 : decode cX9_meet 33 = .ok (.aload_n 0, 1) := by decide +kernel
theorem dX9_meet_34 : decode cX9_meet 34 = .ok (.iload_n 1, 1) := by decide +kernel
theorem dX9_meet_35 : decode cX9_meet 35 = .ok (.iload_n 2, 1) := by decide +kernel
theorem dX9_meet_36 : decode cX9_meet 36 = .ok (.invokevirtual 61, 3) := by decide +kernel
theorem dX9_meet_39 : decode cX9_meet 39 = .ok (.aload_n 0, 1) := by decide +kernel
theorem dX9_meet_40 : decode cX9_meet 40 = .ok (.getfield 7, 3) := by decide +kernel
theorem dX9_meet_43 : decode cX9_meet 43 = .ok (.bipush 40, 2) := by decide +kernel
theorem dX9_meet_45 : decode cX9_meet 45 = .ok (.iload_n 1, 1) := by decide +kernel
theorem dX9_meet_46 : decode cX9_meet 46 = .ok (.iadd, 1) := by decide +kernel
theorem dX9_meet_47 : decode cX9_meet 47 = .ok (.iaload, 1) := by decide +kernel
theorem dX9_meet_48 : decode cX9_meet 48 = .ok (.iadd, 1) := by decide +kernel
theorem dX9_meet_49 : decode cX9_meet 49 = .ok (.if_icmp .ge 7, 3) := by decide +kernel
theorem dX9_meet_52 : decode cX9_meet 52 = .ok (.iconst 1, 1) := by decide +kernel
theorem dX9_meet_53 : decode cX9_meet 53 = .ok (.goto 4, 3) := by decide +kernel
theorem dX9_meet_56 : decode cX9_meet 56 = .ok (.iconst 0, 1) := by decide +kernel
theorem dX9_meet_57 : decode cX9_meet 57 = .ok (.istore 5, 2) := by decide +kernel
theorem dX9_meet_59 : decode cX9_meet 59 = .ok (.iload 5, 2) := by decide +kernel
theorem dX9_meet_61 : decode cX9_meet 61 = .ok (.ifCond .eq 59, 3) := by decide +kernel
theorem dX9_meet_64 : decode cX9_meet 64 = .ok (.aload_n 0, 1) := by decide +kernel
theorem dX9_meet_65 : decode cX9_meet 65 = .ok (.iload_n 1, 1) := by decide +kernel
theorem dX9_meet_66 : decode cX9_meet 66 = .ok (.iload_n 2, 1) := by decide +kernel
theorem dX9_meet_67 : decode cX9_meet 67 = .ok (.invokevirtual 65, 3) := by decide +kernel
theorem dX9_meet_70 : decode cX9_meet 70 = .ok (.aload_n 0, 1) := by decide +kernel
theorem dX9_meet_71 : decode cX9_meet 71 = .ok (.iload_n 3, 1) := by decide +kernel
theorem dX9_meet_72 : decode cX9_meet 72 = .ok (.iload 4, 2) := by decide +kernel
theorem dX9_meet_74 : decode cX9_meet 74 = .ok (.invokevirtual 65, 3) := by decide +kernel
theorem dX9_meet_77 : decode cX9_meet 77 = .ok (.aload_n 0, 1) := by decide +kernel
theorem dX9_meet_78 : decode cX9_meet 78 = .ok (.getfield 7, 3) := by decide +kernel
theorem dX9_meet_81 : decode cX9_meet 81 = .ok (.bipush 60, 2) := by decide +kernel
theorem dX9_meet_83 : decode cX9_meet 83 = .ok (.iload_n 3, 1) := by decide +kernel
theorem dX9_meet_84 : decode cX9_meet 84 = .ok (.iadd, 1) := by decide +kernel
theorem dX9_meet_85 : decode cX9_meet 85 = .ok (.iaload, 1) := by decide +kernel
theorem dX9_meet_86 : decode cX9_meet 86 = .ok (.iadd, 1) := by decide +kernel
theorem dX9_meet_87 : decode cX9_meet 87 = .ok (.if_icmp .ge 33, 3) := by decide +kernel
theorem dX9_meet_90 : decode cX9_meet 90 = .ok (.aload_n 0, 1) := by decide +kernel
theorem dX9_meet_91 : decode cX9_meet 91 = .ok (.iload_n 3, 1) := by decide +kernel
theorem dX9_meet_92 : decode cX9_meet 92 = .ok (.iload 4, 2) := by decide +kernel
theorem dX9_meet_94 : decode cX9_meet 94 = .ok (.invokevirtual 65, 3) := by decide +kernel
theorem dX9_meet_97 : decode cX9_meet 97 = .ok (.aload_n 0, 1) := by decide +kernel
theorem dX9_meet_98 : decode cX9_meet 98 = .ok (.iload_n 1, 1) := by decide +kernel
theorem dX9_meet_99 : decode cX9_meet 99 = .ok (.iload_n 2, 1) := by decide +kernel
theorem dX9_meet_100 : decode cX9_meet 100 = .ok (.invokevirtual 65, 3) := by decide +kernel
theorem dX9_meet_103 : decode cX9_meet 103 = .ok (.aload_n 0, 1) := by decide +kernel
theorem dX9_meet_104 : decode cX9_meet 104 = .ok (.getfield 7, 3) := by decide +kernel
theorem dX9_meet_107 : decode cX9_meet 107 = .ok (.bipush 60, 2) := by decide +kernel
theorem dX9_meet_109 : decode cX9_meet 109 = .ok (.iload_n 1, 1) := by decide +kernel
theorem dX9_meet_110 : decode cX9_meet 110 = .ok (.iadd, 1) := by decide +kernel
theorem dX9_meet_111 : decode cX9_meet 111 = .ok (.iaload, 1) := by decide +kernel
theorem dX9_meet_112 : decode cX9_meet 112 = .ok (.iadd, 1) := by decide +kernel
theorem dX9_meet_113 : decode cX9_meet 113 = .ok (.if_icmp .ge 7, 3) := by decide +kernel
theorem dX9_meet_116 : decode cX9_meet 116 = .ok (.iconst 1, 1) := by decide +kernel
theorem dX9_meet_117 : decode cX9_meet 117 = .ok (.goto 4, 3) := by decide +kernel
theorem dX9_meet_120 : decode cX9_meet 120 = .ok (.iconst 0, 1) := by decide +kernel
theorem dX9_meet_121 : decode cX9_meet 121 = .ok (.ireturn, 1) := by decide +kernel
theorem dX9_clashes_0 : decode cX9_clashes 0 = .ok (.iconst 0, 1) := by decide +kernel
theorem dX9_clashes_1 : decode cX9_clashes 1 = .ok (.istore 4, 2) := by decide +kernel
theorem dX9_clashes_3 : decode cX9_clashes 3 = .ok (.iconst 0, 1) := by decide +kernel
theorem dX9_clashes_4 : decode cX9_clashes 4 = .ok (.istore 5, 2) := by decide +kernel
theorem dX9_clashes_6 : decode cX9_clashes 6 = .ok (.iload 5, 2) := by decide +kernel
theorem dX9_clashes_8 : decode cX9_clashes 8 = .ok (.aload_n 0, 1) := by decide +kernel
theorem dX9_clashes_9 : decode cX9_clashes 9 = .ok (.getfield 48, 3) := by decide +kernel
theorem dX9_clashes_12 : decode cX9_clashes 12 = .ok (.if_icmp .ge 66, 3) := by decide +kernel
theorem dX9_clashes_15 : decode cX9_clashes 15 = .ok (.iload 4, 2) := by decide +kernel
theorem dX9_clashes_17 : decode cX9_clashes 17 = .ok (.iload 5, 2) := by decide +kernel
theorem dX9_clashes_19 : decode cX9_clashes 19 = .ok (.iload_n 1, 1) := by decide +kernel
theorem dX9_clashes_20 : decode cX9_clashes 20 = .ok (.if_icmp .eq 48, 3) := by decide +kernel
theorem dX9_clashes_23 : decode cX9_clashes 23 = .ok (.iload 5, 2) := by decide +kernel
theorem dX9_clashes_25 : decode cX9_clashes 25 = .ok (.iload_n 3, 1) := by decide +kernel
theorem dX9_clashes_26 : decode cX9_clashes 26 = .ok (.if_icmp .eq 42, 3) := by decide +kernel
theorem dX9_clashes_29 : decode cX9_clashes 29 = .ok (.aload_n 0, 1) := by decide +kernel
theorem dX9_clashes_30 : decode cX9_clashes 30 = .ok (.getfield 7, 3) := by decide +kernel
theorem dX9_clashes_33 : decode cX9_clashes 33 = .ok (.bipush 120, 2) := by decide +kernel
theorem dX9_clashes_35 : decode cX9_clashes 35 = .ok (.iload 5, 2) := by decide +kernel
theorem dX9_clashes_37 : decode cX9_clashes 37 = .ok (.iadd, 1) := by decide +kernel
theorem dX9_clashes_38 : decode cX9_clashes 38 = .ok (.iaload, 1) := by decide +kernel
theorem dX9_clashes_39 : decode cX9_clashes 39 = .ok (.iconst (-1), 1) := by decide +kernel
theorem dX9_clashes_40 : decode cX9_clashes 40 = .ok (.if_icmp .eq 28, 3) := by decide +kernel
theorem dX9_clashes_43 : decode cX9_clashes 43 = .ok (.aload_n 0, 1) := by decide +kernel
theorem dX9_clashes_44 : decode cX9_clashes 44 = .ok (.iload_n 1, 1) := by decide +kernel
theorem dX9_clashes_45 : decode cX9_clashes 45 = .ok (.iload_n 2, 1) := by decide +kernel
theorem dX9_clashes_46 : decode cX9_clashes 46 = .ok (.iload 5, 2) := by decide +kernel
theorem dX9_clashes_48 : decode cX9_clashes 48 = .ok (.aload_n 0, 1) := by decide +kernel
theorem dX9_clashes_49 : decode cX9_clashes 49 = .ok (.getfield 7, 3) := by decide +kernel
theorem dX9_clashes_52 : decode cX9_clashes 52 = .ok (.bipush 120, 2) := by decide +kernel
theorem dX9_clashes_54 : decode cX9_clashes 54 = .ok (.iload 5, 2) := by decide +kernel
theorem dX9_clashes_56 : decode cX9_clashes 56 = .ok (.iadd, 1) := by decide +kernel
theorem dX9_clashes_57 : decode cX9_clashes 57 = .ok (.iaload, 1) := by decide +kernel
theorem dX9_clashes_58 : decode cX9_clashes 58 = .ok (.invokevirtual 80, 3) := by decide +kernel
theorem dX9_clashes_61 : decode cX9_clashes 61 = .ok (.ifCond .eq 7, 3) := by decide +kernel
theorem dX9_clashes_64 : decode cX9_clashes 64 = .ok (.iconst 1, 1) := by decide +kernel
theorem dX9_clashes_65 : decode cX9_clashes 65 = .ok (.goto 4, 3) := by decide +kernel
theorem dX9_clashes_68 : decode cX9_clashes 68 = .ok (.iconst 0, 1) := by decide +kernel
theorem dX9_clashes_69 : decode cX9_clashes 69 = .ok (.iadd, 1) := by decide +kernel
theorem dX9_clashes_70 : decode cX9_clashes 70 = .ok (.istore 4, 2) := by decide +kernel
theorem dX9_clashes_72 : decode cX9_clashes 72 = .ok (.iinc 5 1, 3) := by decide +kernel
theorem dX9_clashes_75 : decode cX9_clashes 75 = .ok (.goto (-69), 3) := by decide +kernel
theorem dX9_clashes_78 : decode cX9_clashes 78 = .ok (.iload 4, 2) := by decide +kernel
theorem dX9_clashes_80 : decode cX9_clashes 80 = .ok (.ireturn, 1) := by decide +kernel
theorem dX9_clashing_0 : decode cX9_clashing 0 = .ok (.iconst (-1), 1) := by decide +kernel
theorem dX9_clashing_1 : decode cX9_clashing 1 = .ok (.istore_n 3, 1) := by decide +kernel
theorem dX9_clashing_2 : decode cX9_clashing 2 = .ok (.iconst 0, 1) := by decide +kernel
theorem dX9_clashing_3 : decode cX9_clashing 3 = .ok (.istore 4, 2) := by decide +kernel
theorem dX9_clashing_5 : decode cX9_clashing 5 = .ok (.iload 4, 2) := by decide +kernel
theorem dX9_clashing_7 : decode cX9_clashing 7 = .ok (.aload_n 0, 1) := by decide +kernel
theorem dX9_clashing_8 : decode cX9_clashing 8 = .ok (.getfield 48, 3) := by decide +kernel
theorem dX9_clashing_11 : decode cX9_clashing 11 = .ok (.if_icmp .ge 57, 3) := by decide +kernel
theorem dX9_clashing_14 : decode cX9_clashing 14 = .ok (.iload 4, 2) := by decide +kernel
theorem dX9_clashing_16 : decode cX9_clashing 16 = .ok (.iload_n 1, 1) := by decide +kernel
theorem dX9_clashing_17 : decode cX9_clashing 17 = .ok (.if_icmp .eq 43, 3) := by decide +kernel
theorem dX9_clashing_20 : decode cX9_clashing 20 = .ok (.aload_n 0, 1) := by decide +kernel
theorem dX9_clashing_21 : decode cX9_clashing 21 = .ok (.getfield 7, 3) := by decide +kernel
theorem dX9_clashing_24 : decode cX9_clashing 24 = .ok (.bipush 120, 2) := by decide +kernel
theorem dX9_clashing_26 : decode cX9_clashing 26 = .ok (.iload 4, 2) := by decide +kernel
theorem dX9_clashing_28 : decode cX9_clashing 28 = .ok (.iadd, 1) := by decide +kernel
theorem dX9_clashing_29 : decode cX9_clashing 29 = .ok (.iaload, 1) := by decide +kernel
theorem dX9_clashing_30 : decode cX9_clashing 30 = .ok (.iconst (-1), 1) := by decide +kernel
theorem dX9_clashing_31 : decode cX9_clashing 31 = .ok (.if_icmp .eq 29, 3) := by decide +kernel
theorem dX9_clashing_34 : decode cX9_clashing 34 = .ok (.aload_n 0, 1) := by decide +kernel
theorem dX9_clashing_35 : decode cX9_clashing 35 = .ok (.iload_n 1, 1) := by decide +kernel
theorem dX9_clashing_36 : decode cX9_clashing 36 = .ok (.iload_n 2, 1) := by decide +kernel
theorem dX9_clashing_37 : decode cX9_clashing 37 = .ok (.iload 4, 2) := by decide +kernel
theorem dX9_clashing_39 : decode cX9_clashing 39 = .ok (.aload_n 0, 1) := by decide +kernel
theorem dX9_clashing_40 : decode cX9_clashing 40 = .ok (.getfield 7, 3) := by decide +kernel
theorem dX9_clashing_43 : decode cX9_clashing 43 = .ok (.bipush 120, 2) := by decide +kernel
theorem dX9_clashing_45 : decode cX9_clashing 45 = .ok (.iload 4, 2) := by decide +kernel
theorem dX9_clashing_47 : decode cX9_clashing 47 = .ok (.iadd, 1) := by decide +kernel
theorem dX9_clashing_48 : decode cX9_clashing 48 = .ok (.iaload, 1) := by decide +kernel
theorem dX9_clashing_49 : decode cX9_clashing 49 = .ok (.invokevirtual 80, 3) := by decide +kernel
theorem dX9_clashing_52 : decode cX9_clashing 52 = .ok (.ifCond .eq 8, 3) := by decide +kernel
theorem dX9_clashing_55 : decode cX9_clashing 55 = .ok (.iload 4, 2) := by decide +kernel
theorem dX9_clashing_57 : decode cX9_clashing 57 = .ok (.goto 4, 3) := by decide +kernel
theorem dX9_clashing_60 : decode cX9_clashing 60 = .ok (.iload_n 3, 1) := by decide +kernel
theorem dX9_clashing_61 : decode cX9_clashing 61 = .ok (.istore_n 3, 1) := by decide +kernel
theorem dX9_clashing_62 : decode cX9_clashing 62 = .ok (.iinc 4 1, 3) := by decide +kernel
theorem dX9_clashing_65 : decode cX9_clashing 65 = .ok (.goto (-60), 3) := by decide +kernel
theorem dX9_clashing_68 : decode cX9_clashing 68 = .ok (.iload_n 3, 1) := by decide +kernel
theorem dX9_clashing_69 : decode cX9_clashing 69 = .ok (.ireturn, 1) := by decide +kernel
theorem dX9_settles_0 : decode cX9_settles 0 = .ok (.aload_n 0, 1) := by decide +kernel
theorem dX9_settles_1 : decode cX9_settles 1 = .ok (.invokevirtual 83, 3) := by decide +kernel
theorem dX9_settles_4 : decode cX9_settles 4 = .ok (.iconst 0, 1) := by decide +kernel
theorem dX9_settles_5 : decode cX9_settles 5 = .ok (.istore_n 1, 1) := by decide +kernel
theorem dX9_settles_6 : decode cX9_settles 6 = .ok (.iload_n 1, 1) := by decide +kernel
theorem dX9_settles_7 : decode cX9_settles 7 = .ok (.aload_n 0, 1) := by decide +kernel
theorem dX9_settles_8 : decode cX9_settles 8 = .ok (.getfield 48, 3) := by decide +kernel
theorem dX9_settles_11 : decode cX9_settles 11 = .ok (.if_icmp .ge 76, 3) := by decide +kernel
theorem dX9_settles_14 : decode cX9_settles 14 = .ok (.aload_n 0, 1) := by decide +kernel
theorem dX9_settles_15 : decode cX9_settles 15 = .ok (.getfield 7, 3) := by decide +kernel
theorem dX9_settles_18 : decode cX9_settles 18 = .ok (.bipush 120, 2) := by decide +kernel
theorem dX9_settles_20 : decode cX9_settles 20 = .ok (.iload_n 1, 1) := by decide +kernel
theorem dX9_settles_21 : decode cX9_settles 21 = .ok (.iadd, 1) := by decide +kernel
theorem dX9_settles_22 : decode cX9_settles 22 = .ok (.iaload, 1) := by decide +kernel
theorem dX9_settles_23 : decode cX9_settles 23 = .ok (.iconst (-1), 1) := by decide +kernel
theorem dX9_settles_24 : decode cX9_settles 24 = .ok (.if_icmp .eq 29, 3) := by decide +kernel
theorem dX9_settles_27 : decode cX9_settles 27 = .ok (.aload_n 0, 1) := by decide +kernel
theorem dX9_settles_28 : decode cX9_settles 28 = .ok (.getfield 20, 3) := by decide +kernel
theorem dX9_settles_31 : decode cX9_settles 31 = .ok (.bipush 8, 2) := by decide +kernel
theorem dX9_settles_33 : decode cX9_settles 33 = .ok (.iload_n 1, 1) := by decide +kernel
theorem dX9_settles_34 : decode cX9_settles 34 = .ok (.imul, 1) := by decide +kernel
theorem dX9_settles_35 : decode cX9_settles 35 = .ok (.aload_n 0, 1) := by decide +kernel
theorem dX9_settles_36 : decode cX9_settles 36 = .ok (.getfield 7, 3) := by decide +kernel
theorem dX9_settles_39 : decode cX9_settles 39 = .ok (.bipush 120, 2) := by decide +kernel
theorem dX9_settles_41 : decode cX9_settles 41 = .ok (.iload_n 1, 1) := by decide +kernel
theorem dX9_settles_42 : decode cX9_settles 42 = .ok (.iadd, 1) := by decide +kernel
theorem dX9_settles_43 : decode cX9_settles 43 = .ok (.iaload, 1) := by decide +kernel
theorem dX9_settles_44 : decode cX9_settles 44 = .ok (.iadd, 1) := by decide +kernel
theorem dX9_settles_45 : decode cX9_settles 45 = .ok (.baload, 1) := by decide +kernel
theorem dX9_settles_46 : decode cX9_settles 46 = .ok (.ifCond .eq 7, 3) := by decide +kernel
theorem dX9_settles_49 : decode cX9_settles 49 = .ok (.iconst 1, 1) := by decide +kernel
theorem dX9_settles_50 : decode cX9_settles 50 = .ok (.goto 4, 3) := by decide +kernel
theorem dX9_settles_53 : decode cX9_settles 53 = .ok (.iconst 0, 1) := by decide +kernel
theorem dX9_settles_54 : decode cX9_settles 54 = .ok (.istore_n 2, 1) := by decide +kernel
theorem dX9_settles_55 : decode cX9_settles 55 = .ok (.aload_n 0, 1) := by decide +kernel
theorem dX9_settles_56 : decode cX9_settles 56 = .ok (.getfield 7, 3) := by decide +kernel
theorem dX9_settles_59 : decode cX9_settles 59 = .ok (.bipush 120, 2) := by decide +kernel
theorem dX9_settles_61 : decode cX9_settles 61 = .ok (.iload_n 1, 1) := by decide +kernel
theorem dX9_settles_62 : decode cX9_settles 62 = .ok (.iadd, 1) := by decide +kernel
theorem dX9_settles_63 : decode cX9_settles 63 = .ok (.iload_n 2, 1) := by decide +kernel
theorem dX9_settles_64 : decode cX9_settles 64 = .ok (.ifCond .eq 15, 3) := by decide +kernel
theorem dX9_settles_67 : decode cX9_settles 67 = .ok (.aload_n 0, 1) := by decide +kernel
theorem dX9_settles_68 : decode cX9_settles 68 = .ok (.getfield 7, 3) := by decide +kernel
theorem dX9_settles_71 : decode cX9_settles 71 = .ok (.bipush 120, 2) := by decide +kernel
theorem dX9_settles_73 : decode cX9_settles 73 = .ok (.iload_n 1, 1) := by decide +kernel
theorem dX9_settles_74 : decode cX9_settles 74 = .ok (.iadd, 1) := by decide +kernel
theorem dX9_settles_75 : decode cX9_settles 75 = .ok (.iaload, 1) := by decide +kernel
theorem dX9_settles_76 : decode cX9_settles 76 = .ok (.goto 4, 3) := by decide +kernel
theorem dX9_settles_79 : decode cX9_settles 79 = .ok (.iconst (-1), 1) := by decide +kernel
theorem dX9_settles_80 : decode cX9_settles 80 = .ok (.iastore, 1) := by decide +kernel
theorem dX9_settles_81 : decode cX9_settles 81 = .ok (.iinc 1 1, 3) := by decide +kernel
theorem dX9_settles_84 : decode cX9_settles 84 = .ok (.goto (-78), 3) := by decide +kernel
theorem dX9_settles_87 : decode cX9_settles 87 = .ok (.return_, 1) := by decide +kernel
theorem dX9_shown_0 : decode cX9_shown 0 = .ok (.iconst 0, 1) := by decide +kernel
theorem dX9_shown_1 : decode cX9_shown 1 = .ok (.istore_n 1, 1) := by decide +kernel
theorem dX9_shown_2 : decode cX9_shown 2 = .ok (.iconst 0, 1) := by decide +kernel
theorem dX9_shown_3 : decode cX9_shown 3 = .ok (.istore_n 2, 1) := by decide +kernel
theorem dX9_shown_4 : decode cX9_shown 4 = .ok (.iload_n 2, 1) := by decide +kernel
theorem dX9_shown_5 : decode cX9_shown 5 = .ok (.aload_n 0, 1) := by decide +kernel
theorem dX9_shown_6 : decode cX9_shown 6 = .ok (.getfield 48, 3) := by decide +kernel
theorem dX9_shown_9 : decode cX9_shown 9 = .ok (.if_icmp .ge 30, 3) := by decide +kernel
theorem dX9_shown_12 : decode cX9_shown 12 = .ok (.iload_n 1, 1) := by decide +kernel
theorem dX9_shown_13 : decode cX9_shown 13 = .ok (.aload_n 0, 1) := by decide +kernel
theorem dX9_shown_14 : decode cX9_shown 14 = .ok (.getfield 7, 3) := by decide +kernel
theorem dX9_shown_17 : decode cX9_shown 17 = .ok (.bipush 120, 2) := by decide +kernel
theorem dX9_shown_19 : decode cX9_shown 19 = .ok (.iload_n 2, 1) := by decide +kernel
theorem dX9_shown_20 : decode cX9_shown 20 = .ok (.iadd, 1) := by decide +kernel
theorem dX9_shown_21 : decode cX9_shown 21 = .ok (.iaload, 1) := by decide +kernel
theorem dX9_shown_22 : decode cX9_shown 22 = .ok (.iconst (-1), 1) := by decide +kernel
theorem dX9_shown_23 : decode cX9_shown 23 = .ok (.if_icmp .eq 7, 3) := by decide +kernel
theorem dX9_shown_26 : decode cX9_shown 26 = .ok (.iconst 1, 1) := by decide +kernel
theorem dX9_shown_27 : decode cX9_shown 27 = .ok (.goto 4, 3) := by decide +kernel
theorem dX9_shown_30 : decode cX9_shown 30 = .ok (.iconst 0, 1) := by decide +kernel
theorem dX9_shown_31 : decode cX9_shown 31 = .ok (.iadd, 1) := by decide +kernel
theorem dX9_shown_32 : decode cX9_shown 32 = .ok (.istore_n 1, 1) := by decide +kernel
theorem dX9_shown_33 : decode cX9_shown 33 = .ok (.iinc 2 1, 3) := by decide +kernel
theorem dX9_shown_36 : decode cX9_shown 36 = .ok (.goto (-32), 3) := by decide +kernel
theorem dX9_shown_39 : decode cX9_shown 39 = .ok (.iload_n 1, 1) := by decide +kernel
theorem dX9_shown_40 : decode cX9_shown 40 = .ok (.ireturn, 1) := by decide +kernel
theorem dX9_orders_0 : decode cX9_orders 0 = .ok (.iconst 0, 1) := by decide +kernel
theorem dX9_orders_1 : decode cX9_orders 1 = .ok (.istore_n 1, 1) := by decide +kernel
theorem dX9_orders_2 : decode cX9_orders 2 = .ok (.bipush 9, 2) := by decide +kernel
theorem dX9_orders_4 : decode cX9_orders 4 = .ok (.istore_n 2, 1) := by decide +kernel
theorem dX9_orders_5 : decode cX9_orders 5 = .ok (.iload_n 2, 1) := by decide +kernel
theorem dX9_orders_6 : decode cX9_orders 6 = .ok (.ifCond .le 48, 3) := by decide +kernel
theorem dX9_orders_9 : decode cX9_orders 9 = .ok (.iconst 0, 1) := by decide +kernel
theorem dX9_orders_10 : decode cX9_orders 10 = .ok (.istore_n 3, 1) := by decide +kernel
theorem dX9_orders_11 : decode cX9_orders 11 = .ok (.iload_n 3, 1) := by decide +kernel
theorem dX9_orders_12 : decode cX9_orders 12 = .ok (.aload_n 0, 1) := by decide +kernel
theorem dX9_orders_13 : decode cX9_orders 13 = .ok (.getfield 48, 3) := by decide +kernel
theorem dX9_orders_16 : decode cX9_orders 16 = .ok (.if_icmp .ge 32, 3) := by decide +kernel
theorem dX9_orders_19 : decode cX9_orders 19 = .ok (.aload_n 0, 1) := by decide +kernel
theorem dX9_orders_20 : decode cX9_orders 20 = .ok (.getfield 7, 3) := by decide +kernel
theorem dX9_orders_23 : decode cX9_orders 23 = .ok (.bipush 80, 2) := by decide +kernel
theorem dX9_orders_25 : decode cX9_orders 25 = .ok (.iload_n 3, 1) := by decide +kernel
theorem dX9_orders_26 : decode cX9_orders 26 = .ok (.iadd, 1) := by decide +kernel
theorem dX9_orders_27 : decode cX9_orders 27 = .ok (.iaload, 1) := by decide +kernel
theorem dX9_orders_28 : decode cX9_orders 28 = .ok (.iload_n 2, 1) := by decide +kernel
theorem dX9_orders_29 : decode cX9_orders 29 = .ok (.if_icmp .ne 13, 3) := by decide +kernel
theorem dX9_orders_32 : decode cX9_orders 32 = .ok (.aload_n 0, 1) := by decide +kernel
theorem dX9_orders_33 : decode cX9_orders 33 = .ok (.getfield 24, 3) := by decide +kernel
theorem dX9_orders_36 : decode cX9_orders 36 = .ok (.iload_n 1, 1) := by decide +kernel
theorem dX9_orders_37 : decode cX9_orders 37 = .ok (.iload_n 3, 1) := by decide +kernel
theorem dX9_orders_38 : decode cX9_orders 38 = .ok (.iastore, 1) := by decide +kernel
theorem dX9_orders_39 : decode cX9_orders 39 = .ok (.iinc 1 1, 3) := by decide +kernel
theorem dX9_orders_42 : decode cX9_orders 42 = .ok (.iinc 3 1, 3) := by decide +kernel
theorem dX9_orders_45 : decode cX9_orders 45 = .ok (.goto (-34), 3) := by decide +kernel
theorem dX9_orders_48 : decode cX9_orders 48 = .ok (.iinc 2 (-1), 3) := by decide +kernel
theorem dX9_orders_51 : decode cX9_orders 51 = .ok (.goto (-46), 3) := by decide +kernel
theorem dX9_orders_54 : decode cX9_orders 54 = .ok (.return_, 1) := by decide +kernel
theorem dX9_isProperty_0 : decode cX9_isProperty 0 = .ok (.iload_n 0, 1) := by decide +kernel
theorem dX9_isProperty_1 : decode cX9_isProperty 1 = .ok (.tableswitch 71 2 5 #[31, 41, 51, 61], 31) := by decide +kernel
theorem dX9_isProperty_32 : decode cX9_isProperty 32 = .ok (.iload_n 1, 1) := by decide +kernel
theorem dX9_isProperty_33 : decode cX9_isProperty 33 = .ok (.i2l, 1) := by decide +kernel
theorem dX9_isProperty_34 : decode cX9_isProperty 34 = .ok (.lconst 1, 1) := by decide +kernel
theorem dX9_isProperty_35 : decode cX9_isProperty 35 = .ok (.ldc2_w 86, 3) := by decide +kernel
theorem dX9_isProperty_38 : decode cX9_isProperty 38 = .ok (.invokestatic 51, 3) := by decide +kernel
theorem dX9_isProperty_41 : decode cX9_isProperty 41 = .ok (.ireturn, 1) := by decide +kernel
theorem dX9_isProperty_42 : decode cX9_isProperty 42 = .ok (.iload_n 1, 1) := by decide +kernel
theorem dX9_isProperty_43 : decode cX9_isProperty 43 = .ok (.i2l, 1) := by decide +kernel
theorem dX9_isProperty_44 : decode cX9_isProperty 44 = .ok (.lconst 1, 1) := by decide +kernel
theorem dX9_isProperty_45 : decode cX9_isProperty 45 = .ok (.ldc2_w 88, 3) := by decide +kernel
theorem dX9_isProperty_48 : decode cX9_isProperty 48 = .ok (.invokestatic 51, 3) := by decide +kernel
theorem dX9_isProperty_51 : decode cX9_isProperty 51 = .ok (.ireturn, 1) := by decide +kernel
theorem dX9_isProperty_52 : decode cX9_isProperty 52 = .ok (.iload_n 1, 1) := by decide +kernel
theorem dX9_isProperty_53 : decode cX9_isProperty 53 = .ok (.i2l, 1) := by decide +kernel
theorem dX9_isProperty_54 : decode cX9_isProperty 54 = .ok (.lconst 1, 1) := by decide +kernel
theorem dX9_isProperty_55 : decode cX9_isProperty 55 = .ok (.ldc2_w 90, 3) := by decide +kernel
theorem dX9_isProperty_58 : decode cX9_isProperty 58 = .ok (.invokestatic 51, 3) := by decide +kernel
theorem dX9_isProperty_61 : decode cX9_isProperty 61 = .ok (.ireturn, 1) := by decide +kernel
theorem dX9_isProperty_62 : decode cX9_isProperty 62 = .ok (.iload_n 1, 1) := by decide +kernel
theorem dX9_isProperty_63 : decode cX9_isProperty 63 = .ok (.i2l, 1) := by decide +kernel
theorem dX9_isProperty_64 : decode cX9_isProperty 64 = .ok (.lconst 1, 1) := by decide +kernel
theorem dX9_isProperty_65 : decode cX9_isProperty 65 = .ok (.ldc2_w 92, 3) := by decide +kernel
theorem dX9_isProperty_68 : decode cX9_isProperty 68 = .ok (.invokestatic 51, 3) := by decide +kernel
theorem dX9_isProperty_71 : decode cX9_isProperty 71 = .ok (.ireturn, 1) := by decide +kernel
theorem dX9_isProperty_72 : decode cX9_isProperty 72 = .ok (.iconst 0, 1) := by decide +kernel
theorem dX9_isProperty_73 : decode cX9_isProperty 73 = .ok (.ireturn, 1) := by decide +kernel
set_option maxHeartbeats 4000000 in
set_option maxRecDepth 100000 in
theorem qM_in_ok {σ : QS} {x0 : Int64} {x2 : Int64} {x4 : Int64} {r : Int32} (h : qM_in σ x0 x2 x4 = some r) : qx_E (qx_gM l D ci a) 1 mX9_in (some (.int r), σ) 0 [(0, .long x0), (2, .long x2), (4, .long x4)] [] σ := by
  unfold qM_in at h
  refine qx_lload_n (pc := 0) 0 dX9_in_0 rfl ?_
  refine qx_lload_n (pc := 1) 1 dX9_in_1 rfl ?_
  refine qx_lcmp_lt (pc := 2) 17 h dX9_in_2 dX9_in_3 (by decide) (fun h => ?_) (fun h => ?_)
  · refine qx_iconst (pc := 17) 0 dX9_in_17 (by decide) ?_
    exact qx_nret h rfl rfl dX9_in_18
  · refine qx_lload_n (pc := 6) 0 dX9_in_6 rfl ?_
    refine qx_lload (pc := 7) 2 dX9_in_7 rfl ?_
    refine qx_lcmp_gt (pc := 9) 17 h dX9_in_9 dX9_in_10 (by decide) (fun h => ?_) (fun h => ?_)
    · refine qx_iconst (pc := 17) 0 dX9_in_17 (by decide) ?_
      exact qx_nret h rfl rfl dX9_in_18
    · refine qx_iconst (pc := 13) 1 dX9_in_13 (by decide) ?_
      refine qx_goto (pc := 14) 18 dX9_in_14 (by decide) ?_
      exact qx_nret h rfl rfl dX9_in_18
set_option maxHeartbeats 4000000 in
set_option maxRecDepth 100000 in
theorem qM_isPoint_ok {σ : QS} {x1 : Int32} {r : Int32} (h : qM_isPoint σ x1 = some r) : qx_E (qx_gM l D ci a) 2 mX9_isPoint (some (.int r), σ) 0 [(0, .ref (a 0)), (1, .int x1)] [] σ := by
  unfold qM_isPoint at h
  refine qx_iload_n (pc := 0) 1 dX9_isPoint_0 rfl ?_
  refine qx_i2l (pc := 1) dX9_isPoint_1 ?_
  refine qx_lconst (pc := 2) 0 dX9_isPoint_2 (by decide) ?_
  refine qx_aload_n (pc := 3) 0 dX9_isPoint_3 rfl ?_
  refine qgM0_1 (pc := 4) qwf_X9_48 dX9_isPoint_4 ?_
  refine qx_iconst (pc := 7) 1 dX9_isPoint_7 (by decide) ?_
  refine qx_isub (pc := 8) dX9_isPoint_8 ?_
  refine qx_i2l (pc := 9) dX9_isPoint_9 ?_
  obtain ⟨r1, hr1, h⟩ := qx_bindE h
  refine qx_callSi (pc := 10) r1 σ [.long (x1.toInt64), .long 0, .long (((σ.1 0 1) - 1).toInt64)] [] rfl qcm_X9_in qcs_X9_in qwm_X9_51 rfl (Nat.le_of_ble_eq_true rfl) (Nat.le_of_ble_eq_true rfl) (by decide) dX9_isPoint_10 (qM_in_ok hr1) ?_
  exact qx_nret h rfl rfl dX9_isPoint_13
set_option maxHeartbeats 4000000 in
set_option maxRecDepth 100000 in
theorem qM_isVisible_ok {σ : QS} {x1 : Int32} {r : Int32} (h : qM_isVisible σ x1 = some r) : qx_E (qx_gM l D ci a) 2 mX9_isVisible (some (.int r), σ) 0 [(0, .ref (a 0)), (1, .int x1)] [] σ := by
  unfold qM_isVisible at h
  refine qx_aload_n (pc := 0) 0 dX9_isVisible_0 rfl ?_
  refine qgM0_0 (pc := 1) qwf_X9_7 dX9_isVisible_1 ?_
  refine qx_iconst (pc := 4) 0 dX9_isVisible_4 (by decide) ?_
  refine qx_iload_n (pc := 5) 1 dX9_isVisible_5 rfl ?_
  refine qx_iadd (pc := 6) dX9_isVisible_6 ?_
  refine qlM1 (pc := 7) h dX9_isVisible_7 (fun h => ?_)
  refine qx_i2l (pc := 8) dX9_isVisible_8 ?_
  refine qx_aload_n (pc := 9) 0 dX9_isVisible_9 rfl ?_
  refine qgM0_2 (pc := 10) qwf_X9_55 dX9_isVisible_10 ?_
  refine qx_i2l (pc := 13) dX9_isVisible_13 ?_
  refine qx_aload_n (pc := 14) 0 dX9_isVisible_14 rfl ?_
  refine qgM0_2 (pc := 15) qwf_X9_55 dX9_isVisible_15 ?_
  refine qx_aload_n (pc := 18) 0 dX9_isVisible_18 rfl ?_
  refine qgM0_4 (pc := 19) qwf_X9_13 dX9_isVisible_19 ?_
  refine qx_iadd (pc := 22) dX9_isVisible_22 ?_
  refine qx_iconst (pc := 23) 1 dX9_isVisible_23 (by decide) ?_
  refine qx_isub (pc := 24) dX9_isVisible_24 ?_
  refine qx_i2l (pc := 25) dX9_isVisible_25 ?_
  obtain ⟨r1, hr1, h⟩ := qx_bindE h
  refine qx_callSi (pc := 26) r1 σ [.long ((σ.1 1 (0 + x1).toNatClampNeg).toInt64), .long ((σ.1 0 2).toInt64), .long ((((σ.1 0 2) + (σ.1 0 4)) - 1).toInt64)] [] rfl qcm_X9_in qcs_X9_in qwm_X9_51 rfl (Nat.le_of_ble_eq_true rfl) (Nat.le_of_ble_eq_true rfl) (by decide) dX9_isVisible_26 (qM_in_ok hr1) ?_
  refine qx_if_eq (pc := 29) 69 h dX9_isVisible_29 (by decide) (fun h => ?_) (fun h => ?_)
  · refine qx_iconst (pc := 69) 0 dX9_isVisible_69 (by decide) ?_
    exact qx_nret h rfl rfl dX9_isVisible_70
  · refine qx_aload_n (pc := 32) 0 dX9_isVisible_32 rfl ?_
    refine qgM0_0 (pc := 33) qwf_X9_7 dX9_isVisible_33 ?_
    refine qx_bipush (pc := 36) 20 dX9_isVisible_36 (by decide) ?_
    refine qx_iload_n (pc := 38) 1 dX9_isVisible_38 rfl ?_
    refine qx_iadd (pc := 39) dX9_isVisible_39 ?_
    refine qlM1 (pc := 40) h dX9_isVisible_40 (fun h => ?_)
    refine qx_i2l (pc := 41) dX9_isVisible_41 ?_
    refine qx_aload_n (pc := 42) 0 dX9_isVisible_42 rfl ?_
    refine qgM0_3 (pc := 43) qwf_X9_58 dX9_isVisible_43 ?_
    refine qx_i2l (pc := 46) dX9_isVisible_46 ?_
    refine qx_aload_n (pc := 47) 0 dX9_isVisible_47 rfl ?_
    refine qgM0_3 (pc := 48) qwf_X9_58 dX9_isVisible_48 ?_
    refine qx_aload_n (pc := 51) 0 dX9_isVisible_51 rfl ?_
    refine qgM0_5 (pc := 52) qwf_X9_17 dX9_isVisible_52 ?_
    refine qx_iadd (pc := 55) dX9_isVisible_55 ?_
    refine qx_iconst (pc := 56) 1 dX9_isVisible_56 (by decide) ?_
    refine qx_isub (pc := 57) dX9_isVisible_57 ?_
    refine qx_i2l (pc := 58) dX9_isVisible_58 ?_
    obtain ⟨r2, hr2, h⟩ := qx_bindE h
    refine qx_callSi (pc := 59) r2 σ [.long ((σ.1 1 (20 + x1).toNatClampNeg).toInt64), .long ((σ.1 0 3).toInt64), .long ((((σ.1 0 3) + (σ.1 0 5)) - 1).toInt64)] [] rfl qcm_X9_in qcs_X9_in qwm_X9_51 rfl (Nat.le_of_ble_eq_true rfl) (Nat.le_of_ble_eq_true rfl) (by decide) dX9_isVisible_59 (qM_in_ok hr2) ?_
    refine qx_if_eq (pc := 62) 69 h dX9_isVisible_62 (by decide) (fun h => ?_) (fun h => ?_)
    · refine qx_iconst (pc := 69) 0 dX9_isVisible_69 (by decide) ?_
      exact qx_nret h rfl rfl dX9_isVisible_70
    · refine qx_iconst (pc := 65) 1 dX9_isVisible_65 (by decide) ?_
      refine qx_goto (pc := 66) 70 dX9_isVisible_66 (by decide) ?_
      exact qx_nret h rfl rfl dX9_isVisible_70
set_option maxHeartbeats 4000000 in
set_option maxRecDepth 100000 in
theorem qM_left_ok {σ : QS} {x1 : Int32} {x2 : Int32} {r : Int32} (h : qM_left σ x1 x2 = some r) : qx_E (qx_gM l D ci a) 1 mX9_left (some (.int r), σ) 0 [(0, .ref (a 0)), (1, .int x1), (2, .int x2)] [] σ := by
  unfold qM_left at h
  refine qx_aload_n (pc := 0) 0 dX9_left_0 rfl ?_
  refine qgM0_0 (pc := 1) qwf_X9_7 dX9_left_1 ?_
  refine qx_iconst (pc := 4) 0 dX9_left_4 (by decide) ?_
  refine qx_iload_n (pc := 5) 1 dX9_left_5 rfl ?_
  refine qx_iadd (pc := 6) dX9_left_6 ?_
  refine qlM1 (pc := 7) h dX9_left_7 (fun h => ?_)
  refine qx_istore_n (pc := 8) (lv' := [(3, .int (σ.1 1 (0 + x1).toNatClampNeg)), (0, .ref (a 0)), (1, .int x1), (2, .int x2)]) dX9_left_8 (Nat.le_of_ble_eq_true rfl) rfl ?_
  refine qx_iload_n (pc := 9) 3 dX9_left_9 rfl ?_
  refine qx_iconst (pc := 10) 5 dX9_left_10 (by decide) ?_
  refine qx_icmp_le (pc := 11) 32 h dX9_left_11 (by decide) (fun h => ?_) (fun h => ?_)
  · refine qx_iload_n (pc := 32) 3 dX9_left_32 rfl ?_
    refine qx_iconst (pc := 33) 2 dX9_left_33 (by decide) ?_
    refine qx_irem (pc := 34) dX9_left_34 (by decide) ?_
    refine qx_if_ne (pc := 35) 44 h dX9_left_35 (by decide) (fun h => ?_) (fun h => ?_)
    · refine qx_iload_n (pc := 44) 0 dX9_left_44 rfl ?_
      refine qx_aload_n (pc := 45) 1 dX9_left_45 rfl ?_
      refine qgM0_0 (pc := 46) qwf_X9_7 dX9_left_46 ?_
      refine qx_bipush (pc := 49) 40 dX9_left_49 (by decide) ?_
      refine qx_iload_n (pc := 51) 2 dX9_left_51 rfl ?_
      refine qx_iadd (pc := 52) dX9_left_52 ?_
      refine qlM1 (pc := 53) h dX9_left_53 (fun h => ?_)
      refine qx_isub (pc := 54) dX9_left_54 ?_
      exact qx_iret h rfl dX9_left_55
    · refine qx_iload_n (pc := 38) 0 dX9_left_38 rfl ?_
      refine qx_iconst (pc := 39) 1 dX9_left_39 (by decide) ?_
      refine qx_iadd (pc := 40) dX9_left_40 ?_
      refine qx_goto (pc := 41) 55 dX9_left_41 (by decide) ?_
      exact qx_iret h rfl dX9_left_55
  · refine qx_iload_n (pc := 14) 0 dX9_left_14 rfl ?_
    refine qx_aload_n (pc := 15) 1 dX9_left_15 rfl ?_
    refine qgM0_0 (pc := 16) qwf_X9_7 dX9_left_16 ?_
    refine qx_bipush (pc := 19) 40 dX9_left_19 (by decide) ?_
    refine qx_iload_n (pc := 21) 2 dX9_left_21 rfl ?_
    refine qx_iadd (pc := 22) dX9_left_22 ?_
    refine qlM1 (pc := 23) h dX9_left_23 (fun h => ?_)
    refine qx_iconst (pc := 24) 1 dX9_left_24 (by decide) ?_
    refine qx_isub (pc := 25) dX9_left_25 ?_
    refine qx_iconst (pc := 26) 2 dX9_left_26 (by decide) ?_
    refine qx_idiv (pc := 27) dX9_left_27 (by decide) ?_
    refine qx_isub (pc := 28) dX9_left_28 ?_
    refine qx_goto (pc := 29) 55 dX9_left_29 (by decide) ?_
    exact qx_iret h rfl dX9_left_55
set_option maxHeartbeats 4000000 in
set_option maxRecDepth 100000 in
theorem qM_bottom_J20_ok {σ : QS} {x1 : Int32} {x3 : Int32} {r : Int32} (h : qM_bottom_J20 σ x1 x3 = some r) : qx_E (qx_gM l D ci a) 1 mX9_bottom (some (.int r), σ) 20 [(0, .ref (a 0)), (1, .int x1), (3, .int x3)] [] σ := by
  unfold qM_bottom_J20 at h
  refine qx_iload_n (pc := 20) 2 dX9_bottom_20 rfl ?_
  refine qx_aload_n (pc := 21) 0 dX9_bottom_21 rfl ?_
  refine qgM0_0 (pc := 22) qwf_X9_7 dX9_bottom_22 ?_
  refine qx_bipush (pc := 25) 60 dX9_bottom_25 (by decide) ?_
  refine qx_iload_n (pc := 27) 1 dX9_bottom_27 rfl ?_
  refine qx_iadd (pc := 28) dX9_bottom_28 ?_
  refine qlM1 (pc := 29) h dX9_bottom_29 (fun h => ?_)
  refine qx_iconst (pc := 30) 1 dX9_bottom_30 (by decide) ?_
  refine qx_isub (pc := 31) dX9_bottom_31 ?_
  refine qx_iconst (pc := 32) 2 dX9_bottom_32 (by decide) ?_
  refine qx_idiv (pc := 33) dX9_bottom_33 (by decide) ?_
  refine qx_isub (pc := 34) dX9_bottom_34 ?_
  exact qx_iret h rfl dX9_bottom_35
set_option maxHeartbeats 4000000 in
set_option maxRecDepth 100000 in
theorem qM_bottom_ok {σ : QS} {x1 : Int32} {x2 : Int32} {r : Int32} (h : qM_bottom σ x1 x2 = some r) : qx_E (qx_gM l D ci a) 1 mX9_bottom (some (.int r), σ) 0 [(0, .ref (a 0)), (1, .int x1), (2, .int x2)] [] σ := by
  unfold qM_bottom at h
  refine qx_aload_n (pc := 0) 0 dX9_bottom_0 rfl ?_
  refine qgM0_0 (pc := 1) qwf_X9_7 dX9_bottom_1 ?_
  refine qx_bipush (pc := 4) 20 dX9_bottom_4 (by decide) ?_
  refine qx_iload_n (pc := 6) 1 dX9_bottom_6 rfl ?_
  refine qx_iadd (pc := 7) dX9_bottom_7 ?_
  refine qlM1 (pc := 8) h dX9_bottom_8 (fun h => ?_)
  refine qx_istore_n (pc := 9) (lv' := [(3, .int (σ.1 1 (20 + x1).toNatClampNeg)), (0, .ref (a 0)), (1, .int x1), (2, .int x2)]) dX9_bottom_9 (Nat.le_of_ble_eq_true rfl) rfl ?_
  refine qx_iload_n (pc := 10) 3 dX9_bottom_10 rfl ?_
  refine qx_iconst (pc := 11) 4 dX9_bottom_11 (by decide) ?_
  refine qx_icmp_eq (pc := 12) 20 h dX9_bottom_12 (by decide) (fun h => ?_) (fun h => ?_)
  · exact qx_sub [1, 2, 0] rfl (qM_bottom_J20_ok h)
  · refine qx_iload_n (pc := 15) 3 dX9_bottom_15 rfl ?_
    refine qx_iconst (pc := 16) 5 dX9_bottom_16 (by decide) ?_
    refine qx_icmp_ne (pc := 17) 36 h dX9_bottom_17 (by decide) (fun h => ?_) (fun h => ?_)
    · refine qx_iload_n (pc := 36) 3 dX9_bottom_36 rfl ?_
      refine qx_if_eq (pc := 37) 51 h dX9_bottom_37 (by decide) (fun h => ?_) (fun h => ?_)
      · refine qx_iload_n (pc := 51) 0 dX9_bottom_51 rfl ?_
        refine qx_iconst (pc := 52) 1 dX9_bottom_52 (by decide) ?_
        refine qx_iadd (pc := 53) dX9_bottom_53 ?_
        refine qx_goto (pc := 54) 68 dX9_bottom_54 (by decide) ?_
        exact qx_iret h rfl dX9_bottom_68
      · refine qx_iload_n (pc := 40) 3 dX9_bottom_40 rfl ?_
        refine qx_iconst (pc := 41) 1 dX9_bottom_41 (by decide) ?_
        refine qx_icmp_eq (pc := 42) 51 h dX9_bottom_42 (by decide) (fun h => ?_) (fun h => ?_)
        · refine qx_iload_n (pc := 51) 0 dX9_bottom_51 rfl ?_
          refine qx_iconst (pc := 52) 1 dX9_bottom_52 (by decide) ?_
          refine qx_iadd (pc := 53) dX9_bottom_53 ?_
          refine qx_goto (pc := 54) 68 dX9_bottom_54 (by decide) ?_
          exact qx_iret h rfl dX9_bottom_68
        · refine qx_iload_n (pc := 45) 3 dX9_bottom_45 rfl ?_
          refine qx_bipush (pc := 46) 6 dX9_bottom_46 (by decide) ?_
          refine qx_icmp_ne (pc := 48) 57 h dX9_bottom_48 (by decide) (fun h => ?_) (fun h => ?_)
          · refine qx_iload_n (pc := 57) 0 dX9_bottom_57 rfl ?_
            refine qx_aload_n (pc := 58) 1 dX9_bottom_58 rfl ?_
            refine qgM0_0 (pc := 59) qwf_X9_7 dX9_bottom_59 ?_
            refine qx_bipush (pc := 62) 60 dX9_bottom_62 (by decide) ?_
            refine qx_iload_n (pc := 64) 2 dX9_bottom_64 rfl ?_
            refine qx_iadd (pc := 65) dX9_bottom_65 ?_
            refine qlM1 (pc := 66) h dX9_bottom_66 (fun h => ?_)
            refine qx_isub (pc := 67) dX9_bottom_67 ?_
            exact qx_iret h rfl dX9_bottom_68
          · refine qx_iload_n (pc := 51) 0 dX9_bottom_51 rfl ?_
            refine qx_iconst (pc := 52) 1 dX9_bottom_52 (by decide) ?_
            refine qx_iadd (pc := 53) dX9_bottom_53 ?_
            refine qx_goto (pc := 54) 68 dX9_bottom_54 (by decide) ?_
            exact qx_iret h rfl dX9_bottom_68
    · exact qx_sub [1, 2, 0] rfl (qM_bottom_J20_ok h)
set_option maxHeartbeats 4000000 in
set_option maxRecDepth 100000 in
theorem qM_covers_ok {σ : QS} {x1 : Int32} {x2 : Int32} {x3 : Int32} {x4 : Int32} {r : Int32} (h : qM_covers σ x1 x2 x3 x4 = some r) : qx_E (qx_gM l D ci a) 2 mX9_covers (some (.int r), σ) 0 [(0, .ref (a 0)), (1, .int x1), (2, .int x2), (3, .int x3), (4, .int x4)] [] σ := by
  unfold qM_covers at h
  refine qx_aload_n (pc := 0) 0 dX9_covers_0 rfl ?_
  refine qx_iload_n (pc := 1) 1 dX9_covers_1 rfl ?_
  refine qx_iload_n (pc := 2) 2 dX9_covers_2 rfl ?_
  obtain ⟨r1, hr1, h⟩ := qx_bindE h
  refine qx_callVi (pc := 3) 0 r1 σ [.int x1, .int x2] [] rfl rfl rfl qcm_X9_left qcv_X9_left qwm_X9_61 rfl (Nat.le_of_ble_eq_true rfl) (Nat.le_of_ble_eq_true rfl) (by decide) dX9_covers_3 (qM_left_ok hr1) ?_
  refine qx_istore (pc := 6) (lv' := [(5, .int r1), (0, .ref (a 0)), (1, .int x1), (2, .int x2), (3, .int x3), (4, .int x4)]) dX9_covers_6 (Nat.le_of_ble_eq_true rfl) rfl ?_
  refine qx_aload_n (pc := 8) 1 dX9_covers_8 rfl ?_
  refine qx_iload_n (pc := 9) 2 dX9_covers_9 rfl ?_
  refine qx_iload_n (pc := 10) 3 dX9_covers_10 rfl ?_
  obtain ⟨r2, hr2, h⟩ := qx_bindE h
  refine qx_callVi (pc := 11) 0 r2 σ [.int x1, .int x2] [] rfl rfl rfl qcm_X9_bottom qcv_X9_bottom qwm_X9_65 rfl (Nat.le_of_ble_eq_true rfl) (Nat.le_of_ble_eq_true rfl) (by decide) dX9_covers_11 (qM_bottom_ok hr2) ?_
  refine qx_istore (pc := 14) (lv' := [(6, .int r2), (5, .int r1), (0, .ref (a 0)), (1, .int x1), (2, .int x2), (3, .int x3), (4, .int x4)]) dX9_covers_14 (Nat.le_of_ble_eq_true rfl) rfl ?_
  refine qx_iload_n (pc := 16) 5 dX9_covers_16 rfl ?_
  refine qx_i2l (pc := 17) dX9_covers_17 ?_
  refine qx_iload (pc := 18) 1 dX9_covers_18 rfl ?_
  refine qx_i2l (pc := 20) dX9_covers_20 ?_
  refine qx_iload (pc := 21) 1 dX9_covers_21 rfl ?_
  refine qx_aload_n (pc := 23) 2 dX9_covers_23 rfl ?_
  refine qgM0_0 (pc := 24) qwf_X9_7 dX9_covers_24 ?_
  refine qx_bipush (pc := 27) 40 dX9_covers_27 (by decide) ?_
  refine qx_iload_n (pc := 29) 3 dX9_covers_29 rfl ?_
  refine qx_iadd (pc := 30) dX9_covers_30 ?_
  refine qlM1 (pc := 31) h dX9_covers_31 (fun h => ?_)
  refine qx_iadd (pc := 32) dX9_covers_32 ?_
  refine qx_iconst (pc := 33) 1 dX9_covers_33 (by decide) ?_
  refine qx_isub (pc := 34) dX9_covers_34 ?_
  refine qx_i2l (pc := 35) dX9_covers_35 ?_
  obtain ⟨r3, hr3, h⟩ := qx_bindE h
  refine qx_callSi (pc := 36) r3 σ [.long (x3.toInt64), .long (r1.toInt64), .long (((r1 + (σ.1 1 (40 + x1).toNatClampNeg)) - 1).toInt64)] [] rfl qcm_X9_in qcs_X9_in qwm_X9_51 rfl (Nat.le_of_ble_eq_true rfl) (Nat.le_of_ble_eq_true rfl) (by decide) dX9_covers_36 (qM_in_ok hr3) ?_
  refine qx_if_eq (pc := 39) 73 h dX9_covers_39 (by decide) (fun h => ?_) (fun h => ?_)
  · refine qx_iconst (pc := 73) 0 dX9_covers_73 (by decide) ?_
    exact qx_nret h rfl rfl dX9_covers_74
  · refine qx_iload (pc := 42) 6 dX9_covers_42 rfl ?_
    refine qx_i2l (pc := 44) dX9_covers_44 ?_
    refine qx_iload (pc := 45) 0 dX9_covers_45 rfl ?_
    refine qx_i2l (pc := 47) dX9_covers_47 ?_
    refine qx_iload (pc := 48) 0 dX9_covers_48 rfl ?_
    refine qx_aload_n (pc := 50) 2 dX9_covers_50 rfl ?_
    refine qgM0_0 (pc := 51) qwf_X9_7 dX9_covers_51 ?_
    refine qx_bipush (pc := 54) 60 dX9_covers_54 (by decide) ?_
    refine qx_iload_n (pc := 56) 3 dX9_covers_56 rfl ?_
    refine qx_iadd (pc := 57) dX9_covers_57 ?_
    refine qlM1 (pc := 58) h dX9_covers_58 (fun h => ?_)
    refine qx_iadd (pc := 59) dX9_covers_59 ?_
    refine qx_iconst (pc := 60) 1 dX9_covers_60 (by decide) ?_
    refine qx_isub (pc := 61) dX9_covers_61 ?_
    refine qx_i2l (pc := 62) dX9_covers_62 ?_
    obtain ⟨r4, hr4, h⟩ := qx_bindE h
    refine qx_callSi (pc := 63) r4 σ [.long (x4.toInt64), .long (r2.toInt64), .long (((r2 + (σ.1 1 (60 + x1).toNatClampNeg)) - 1).toInt64)] [] rfl qcm_X9_in qcs_X9_in qwm_X9_51 rfl (Nat.le_of_ble_eq_true rfl) (Nat.le_of_ble_eq_true rfl) (by decide) dX9_covers_63 (qM_in_ok hr4) ?_
    refine qx_if_eq (pc := 66) 73 h dX9_covers_66 (by decide) (fun h => ?_) (fun h => ?_)
    · refine qx_iconst (pc := 73) 0 dX9_covers_73 (by decide) ?_
      exact qx_nret h rfl rfl dX9_covers_74
    · refine qx_iconst (pc := 69) 1 dX9_covers_69 (by decide) ?_
      refine qx_goto (pc := 70) 74 dX9_covers_70 (by decide) ?_
      exact qx_nret h rfl rfl dX9_covers_74
set_option maxHeartbeats 4000000 in
set_option maxRecDepth 100000 in
theorem qM_finds_L126_ok {σ : QS} {x1 : Int32} {x2 : Int32} : ∀ (n : Nat) (x5 : Int32) (x6 : Int32) (r : Int32), qM_finds_L126 σ x1 x2 n x5 x6 = some r → qx_E (qx_gM l D ci a) 3 mX9_finds (some (.int r), σ) 126 [(0, .ref (a 0)), (1, .int x1), (2, .int x2), (5, .int x5), (6, .int x6)] [] σ := by
  intro n
  induction n with
  | zero =>
    intro x5 x6 r h
    exact (qx_none h).elim
  | succ n ih =>
    intro x5 x6 r h
    unfold qM_finds_L126 at h
    refine qx_iload (pc := 126) 4 dX9_finds_126 rfl ?_
    refine qx_aload_n (pc := 128) 0 dX9_finds_128 rfl ?_
    refine qgM0_1 (pc := 129) qwf_X9_48 dX9_finds_129 ?_
    refine qx_icmp_ge (pc := 132) 181 h dX9_finds_132 (by decide) (fun h => ?_) (fun h => ?_)
    · refine qx_iload (pc := 181) 3 dX9_finds_181 rfl ?_
      exact qx_nret h rfl rfl dX9_finds_183
    · refine qx_iload (pc := 135) 3 dX9_finds_135 rfl ?_
      refine qx_if_eq (pc := 137) 181 h dX9_finds_137 (by decide) (fun h => ?_) (fun h => ?_)
      · refine qx_iload (pc := 181) 3 dX9_finds_181 rfl ?_
        exact qx_nret h rfl rfl dX9_finds_183
      · refine qx_aload_n (pc := 140) 0 dX9_finds_140 rfl ?_
        refine qx_iload_n (pc := 141) 1 dX9_finds_141 rfl ?_
        refine qx_iload_n (pc := 142) 2 dX9_finds_142 rfl ?_
        refine qx_aload_n (pc := 143) 0 dX9_finds_143 rfl ?_
        refine qgM0_0 (pc := 144) qwf_X9_7 dX9_finds_144 ?_
        refine qx_iconst (pc := 147) 0 dX9_finds_147 (by decide) ?_
        refine qx_iload (pc := 148) 4 dX9_finds_148 rfl ?_
        refine qx_iadd (pc := 150) dX9_finds_150 ?_
        refine qlM1 (pc := 151) h dX9_finds_151 (fun h => ?_)
        refine qx_aload_n (pc := 152) 0 dX9_finds_152 rfl ?_
        refine qgM0_0 (pc := 153) qwf_X9_7 dX9_finds_153 ?_
        refine qx_bipush (pc := 156) 20 dX9_finds_156 (by decide) ?_
        refine qx_iload (pc := 158) 4 dX9_finds_158 rfl ?_
        refine qx_iadd (pc := 160) dX9_finds_160 ?_
        refine qlM1 (pc := 161) h dX9_finds_161 (fun h => ?_)
        obtain ⟨r1, hr1, h⟩ := qx_bindE h
        refine qx_callVi (pc := 162) 0 r1 σ [.int x1, .int x2, .int (σ.1 1 (0 + x6).toNatClampNeg), .int (σ.1 1 (20 + x6).toNatClampNeg)] [] rfl rfl rfl qcm_X9_covers qcv_X9_covers qwm_X9_72 rfl (Nat.le_of_ble_eq_true rfl) (Nat.le_of_ble_eq_true rfl) (by decide) dX9_finds_162 (qM_covers_ok hr1) ?_
        refine qx_if_ne (pc := 165) 172 h dX9_finds_165 (by decide) (fun h => ?_) (fun h => ?_)
        · refine qx_iconst (pc := 172) 0 dX9_finds_172 (by decide) ?_
          refine qx_istore (pc := 173) (lv' := [(5, .int 0), (0, .ref (a 0)), (1, .int x1), (2, .int x2), (6, .int x6)]) dX9_finds_173 (Nat.le_of_ble_eq_true rfl) rfl ?_
          refine qx_iinc (pc := 175) (lv' := [(6, .int (x6 + 1)), (5, .int 0), (0, .ref (a 0)), (1, .int x1), (2, .int x2)]) 4 (x6 + 1) dX9_finds_175 rfl rfl (Nat.le_of_ble_eq_true rfl) rfl ?_
          refine qx_goto (pc := 178) 126 dX9_finds_178 (by decide) ?_
          exact qx_sub [2, 3, 4, 1, 0] rfl (ih _ _ _ h)
        · refine qx_iconst (pc := 168) 1 dX9_finds_168 (by decide) ?_
          refine qx_goto (pc := 169) 173 dX9_finds_169 (by decide) ?_
          refine qx_istore (pc := 173) (lv' := [(5, .int 1), (0, .ref (a 0)), (1, .int x1), (2, .int x2), (6, .int x6)]) dX9_finds_173 (Nat.le_of_ble_eq_true rfl) rfl ?_
          refine qx_iinc (pc := 175) (lv' := [(6, .int (x6 + 1)), (5, .int 1), (0, .ref (a 0)), (1, .int x1), (2, .int x2)]) 4 (x6 + 1) dX9_finds_175 rfl rfl (Nat.le_of_ble_eq_true rfl) rfl ?_
          refine qx_goto (pc := 178) 126 dX9_finds_178 (by decide) ?_
          exact qx_sub [2, 3, 4, 1, 0] rfl (ih _ _ _ h)
set_option maxHeartbeats 4000000 in
set_option maxRecDepth 100000 in
theorem qM_finds_J45_ok {σ : QS} {x1 : Int32} {x2 : Int32} {x3 : Int32} {x4 : Int32} {s0 : Int32} {r : Int32} (h : qM_finds_J45 σ x1 x2 x3 x4 s0 = some r) : qx_E (qx_gM l D ci a) 3 mX9_finds (some (.int r), σ) 45 [(0, .ref (a 0)), (1, .int x1), (2, .int x2), (3, .int x3), (4, .int x4)] [.int s0] σ := by
  unfold qM_finds_J45 at h
  refine qx_istore (pc := 45) (lv' := [(5, .int s0), (0, .ref (a 0)), (1, .int x1), (2, .int x2), (3, .int x3), (4, .int x4)]) dX9_finds_45 (Nat.le_of_ble_eq_true rfl) rfl ?_
  refine qx_iload (pc := 47) 0 dX9_finds_47 rfl ?_
  refine qx_if_eq (pc := 49) 120 h dX9_finds_49 (by decide) (fun h => ?_) (fun h => ?_)
  · refine qx_iconst (pc := 120) 0 dX9_finds_120 (by decide) ?_
    refine qx_istore (pc := 121) (lv' := [(5, .int 0), (0, .ref (a 0)), (1, .int x1), (2, .int x2), (3, .int x3), (4, .int x4)]) dX9_finds_121 (Nat.le_of_ble_eq_true rfl) rfl ?_
    refine qx_iconst (pc := 123) 0 dX9_finds_123 (by decide) ?_
    refine qx_istore (pc := 124) (lv' := [(6, .int 0), (5, .int 0), (0, .ref (a 0)), (1, .int x1), (2, .int x2), (3, .int x3), (4, .int x4)]) dX9_finds_124 (Nat.le_of_ble_eq_true rfl) rfl ?_
    exact qx_sub [2, 3, 4, 1, 0] rfl (qM_finds_L126_ok qx_F _ _ _ h)
  · refine qx_iload_n (pc := 52) 4 dX9_finds_52 rfl ?_
    refine qx_aload_n (pc := 53) 1 dX9_finds_53 rfl ?_
    refine qgM0_2 (pc := 54) qwf_X9_55 dX9_finds_54 ?_
    refine qx_icmp_lt (pc := 57) 120 h dX9_finds_57 (by decide) (fun h => ?_) (fun h => ?_)
    · refine qx_iconst (pc := 120) 0 dX9_finds_120 (by decide) ?_
      refine qx_istore (pc := 121) (lv' := [(5, .int 0), (0, .ref (a 0)), (1, .int x1), (2, .int x2), (3, .int x3), (4, .int x4)]) dX9_finds_121 (Nat.le_of_ble_eq_true rfl) rfl ?_
      refine qx_iconst (pc := 123) 0 dX9_finds_123 (by decide) ?_
      refine qx_istore (pc := 124) (lv' := [(6, .int 0), (5, .int 0), (0, .ref (a 0)), (1, .int x1), (2, .int x2), (3, .int x3), (4, .int x4)]) dX9_finds_124 (Nat.le_of_ble_eq_true rfl) rfl ?_
      exact qx_sub [2, 3, 4, 1, 0] rfl (qM_finds_L126_ok qx_F _ _ _ h)
    · refine qx_iload (pc := 60) 5 dX9_finds_60 rfl ?_
      refine qx_aload_n (pc := 62) 1 dX9_finds_62 rfl ?_
      refine qgM0_3 (pc := 63) qwf_X9_58 dX9_finds_63 ?_
      refine qx_icmp_lt (pc := 66) 120 h dX9_finds_66 (by decide) (fun h => ?_) (fun h => ?_)
      · refine qx_iconst (pc := 120) 0 dX9_finds_120 (by decide) ?_
        refine qx_istore (pc := 121) (lv' := [(5, .int 0), (0, .ref (a 0)), (1, .int x1), (2, .int x2), (3, .int x3), (4, .int x4)]) dX9_finds_121 (Nat.le_of_ble_eq_true rfl) rfl ?_
        refine qx_iconst (pc := 123) 0 dX9_finds_123 (by decide) ?_
        refine qx_istore (pc := 124) (lv' := [(6, .int 0), (5, .int 0), (0, .ref (a 0)), (1, .int x1), (2, .int x2), (3, .int x3), (4, .int x4)]) dX9_finds_124 (Nat.le_of_ble_eq_true rfl) rfl ?_
        exact qx_sub [2, 3, 4, 1, 0] rfl (qM_finds_L126_ok qx_F _ _ _ h)
      · refine qx_iload_n (pc := 69) 4 dX9_finds_69 rfl ?_
        refine qx_aload_n (pc := 70) 1 dX9_finds_70 rfl ?_
        refine qgM0_0 (pc := 71) qwf_X9_7 dX9_finds_71 ?_
        refine qx_bipush (pc := 74) 40 dX9_finds_74 (by decide) ?_
        refine qx_iload_n (pc := 76) 2 dX9_finds_76 rfl ?_
        refine qx_iadd (pc := 77) dX9_finds_77 ?_
        refine qlM1 (pc := 78) h dX9_finds_78 (fun h => ?_)
        refine qx_iadd (pc := 79) dX9_finds_79 ?_
        refine qx_aload_n (pc := 80) 1 dX9_finds_80 rfl ?_
        refine qgM0_2 (pc := 81) qwf_X9_55 dX9_finds_81 ?_
        refine qx_aload_n (pc := 84) 1 dX9_finds_84 rfl ?_
        refine qgM0_4 (pc := 85) qwf_X9_13 dX9_finds_85 ?_
        refine qx_iadd (pc := 88) dX9_finds_88 ?_
        refine qx_icmp_gt (pc := 89) 120 h dX9_finds_89 (by decide) (fun h => ?_) (fun h => ?_)
        · refine qx_iconst (pc := 120) 0 dX9_finds_120 (by decide) ?_
          refine qx_istore (pc := 121) (lv' := [(5, .int 0), (0, .ref (a 0)), (1, .int x1), (2, .int x2), (3, .int x3), (4, .int x4)]) dX9_finds_121 (Nat.le_of_ble_eq_true rfl) rfl ?_
          refine qx_iconst (pc := 123) 0 dX9_finds_123 (by decide) ?_
          refine qx_istore (pc := 124) (lv' := [(6, .int 0), (5, .int 0), (0, .ref (a 0)), (1, .int x1), (2, .int x2), (3, .int x3), (4, .int x4)]) dX9_finds_124 (Nat.le_of_ble_eq_true rfl) rfl ?_
          exact qx_sub [2, 3, 4, 1, 0] rfl (qM_finds_L126_ok qx_F _ _ _ h)
        · refine qx_iload (pc := 92) 5 dX9_finds_92 rfl ?_
          refine qx_aload_n (pc := 94) 1 dX9_finds_94 rfl ?_
          refine qgM0_0 (pc := 95) qwf_X9_7 dX9_finds_95 ?_
          refine qx_bipush (pc := 98) 60 dX9_finds_98 (by decide) ?_
          refine qx_iload_n (pc := 100) 2 dX9_finds_100 rfl ?_
          refine qx_iadd (pc := 101) dX9_finds_101 ?_
          refine qlM1 (pc := 102) h dX9_finds_102 (fun h => ?_)
          refine qx_iadd (pc := 103) dX9_finds_103 ?_
          refine qx_aload_n (pc := 104) 1 dX9_finds_104 rfl ?_
          refine qgM0_3 (pc := 105) qwf_X9_58 dX9_finds_105 ?_
          refine qx_aload_n (pc := 108) 1 dX9_finds_108 rfl ?_
          refine qgM0_5 (pc := 109) qwf_X9_17 dX9_finds_109 ?_
          refine qx_iadd (pc := 112) dX9_finds_112 ?_
          refine qx_icmp_gt (pc := 113) 120 h dX9_finds_113 (by decide) (fun h => ?_) (fun h => ?_)
          · refine qx_iconst (pc := 120) 0 dX9_finds_120 (by decide) ?_
            refine qx_istore (pc := 121) (lv' := [(5, .int 0), (0, .ref (a 0)), (1, .int x1), (2, .int x2), (3, .int x3), (4, .int x4)]) dX9_finds_121 (Nat.le_of_ble_eq_true rfl) rfl ?_
            refine qx_iconst (pc := 123) 0 dX9_finds_123 (by decide) ?_
            refine qx_istore (pc := 124) (lv' := [(6, .int 0), (5, .int 0), (0, .ref (a 0)), (1, .int x1), (2, .int x2), (3, .int x3), (4, .int x4)]) dX9_finds_124 (Nat.le_of_ble_eq_true rfl) rfl ?_
            exact qx_sub [2, 3, 4, 1, 0] rfl (qM_finds_L126_ok qx_F _ _ _ h)
          · refine qx_iconst (pc := 116) 1 dX9_finds_116 (by decide) ?_
            refine qx_goto (pc := 117) 121 dX9_finds_117 (by decide) ?_
            refine qx_istore (pc := 121) (lv' := [(5, .int 1), (0, .ref (a 0)), (1, .int x1), (2, .int x2), (3, .int x3), (4, .int x4)]) dX9_finds_121 (Nat.le_of_ble_eq_true rfl) rfl ?_
            refine qx_iconst (pc := 123) 0 dX9_finds_123 (by decide) ?_
            refine qx_istore (pc := 124) (lv' := [(6, .int 0), (5, .int 1), (0, .ref (a 0)), (1, .int x1), (2, .int x2), (3, .int x3), (4, .int x4)]) dX9_finds_124 (Nat.le_of_ble_eq_true rfl) rfl ?_
            exact qx_sub [2, 3, 4, 1, 0] rfl (qM_finds_L126_ok qx_F _ _ _ h)
set_option maxHeartbeats 4000000 in
set_option maxRecDepth 100000 in
theorem qM_finds_ok {σ : QS} {x1 : Int32} {x2 : Int32} {r : Int32} (h : qM_finds σ x1 x2 = some r) : qx_E (qx_gM l D ci a) 3 mX9_finds (some (.int r), σ) 0 [(0, .ref (a 0)), (1, .int x1), (2, .int x2)] [] σ := by
  unfold qM_finds at h
  refine qx_aload_n (pc := 0) 0 dX9_finds_0 rfl ?_
  refine qx_iload_n (pc := 1) 1 dX9_finds_1 rfl ?_
  refine qx_iload_n (pc := 2) 2 dX9_finds_2 rfl ?_
  obtain ⟨r2, hr2, h⟩ := qx_bindE h
  refine qx_callVi (pc := 3) 0 r2 σ [.int x1, .int x2] [] rfl rfl rfl qcm_X9_left qcv_X9_left qwm_X9_61 rfl (Nat.le_of_ble_eq_true rfl) (Nat.le_of_ble_eq_true rfl) (by decide) dX9_finds_3 (qM_left_ok hr2) ?_
  refine qx_istore_n (pc := 6) (lv' := [(3, .int r2), (0, .ref (a 0)), (1, .int x1), (2, .int x2)]) dX9_finds_6 (Nat.le_of_ble_eq_true rfl) rfl ?_
  refine qx_aload_n (pc := 7) 1 dX9_finds_7 rfl ?_
  refine qx_iload_n (pc := 8) 2 dX9_finds_8 rfl ?_
  refine qx_iload_n (pc := 9) 3 dX9_finds_9 rfl ?_
  obtain ⟨r3, hr3, h⟩ := qx_bindE h
  refine qx_callVi (pc := 10) 0 r3 σ [.int x1, .int x2] [] rfl rfl rfl qcm_X9_bottom qcv_X9_bottom qwm_X9_65 rfl (Nat.le_of_ble_eq_true rfl) (Nat.le_of_ble_eq_true rfl) (by decide) dX9_finds_10 (qM_bottom_ok hr3) ?_
  refine qx_istore (pc := 13) (lv' := [(4, .int r3), (3, .int r2), (0, .ref (a 0)), (1, .int x1), (2, .int x2)]) dX9_finds_13 (Nat.le_of_ble_eq_true rfl) rfl ?_
  refine qx_aload_n (pc := 15) 2 dX9_finds_15 rfl ?_
  refine qx_iload_n (pc := 16) 3 dX9_finds_16 rfl ?_
  obtain ⟨r4, hr4, h⟩ := qx_bindE h
  refine qx_callVi (pc := 17) 0 r4 σ [.int x1] [] rfl rfl rfl qcm_X9_isVisible qcv_X9_isVisible qwm_X9_68 rfl (Nat.le_of_ble_eq_true rfl) (Nat.le_of_ble_eq_true rfl) (by decide) dX9_finds_17 (qM_isVisible_ok hr4) ?_
  refine qx_if_eq (pc := 20) 44 h dX9_finds_20 (by decide) (fun h => ?_) (fun h => ?_)
  · refine qx_iconst (pc := 44) 0 dX9_finds_44 (by decide) ?_
    exact qx_sub [2, 3, 4, 1, 0] rfl (qM_finds_J45_ok h)
  · refine qx_aload_n (pc := 23) 2 dX9_finds_23 rfl ?_
    refine qgM0_0 (pc := 24) qwf_X9_7 dX9_finds_24 ?_
    refine qx_bipush (pc := 27) 100 dX9_finds_27 (by decide) ?_
    refine qx_iload_n (pc := 29) 3 dX9_finds_29 rfl ?_
    refine qx_iadd (pc := 30) dX9_finds_30 ?_
    refine qlM1 (pc := 31) h dX9_finds_31 (fun h => ?_)
    refine qx_iload_n (pc := 32) 4 dX9_finds_32 rfl ?_
    refine qx_ishr (pc := 33) dX9_finds_33 ?_
    refine qx_iconst (pc := 34) 1 dX9_finds_34 (by decide) ?_
    refine qx_iand (pc := 35) dX9_finds_35 ?_
    refine qx_iconst (pc := 36) 1 dX9_finds_36 (by decide) ?_
    refine qx_icmp_ne (pc := 37) 44 h dX9_finds_37 (by decide) (fun h => ?_) (fun h => ?_)
    · refine qx_iconst (pc := 44) 0 dX9_finds_44 (by decide) ?_
      exact qx_sub [2, 3, 4, 1, 0] rfl (qM_finds_J45_ok h)
    · refine qx_iconst (pc := 40) 1 dX9_finds_40 (by decide) ?_
      refine qx_goto (pc := 41) 45 dX9_finds_41 (by decide) ?_
      exact qx_sub [2, 3, 4, 1, 0] rfl (qM_finds_J45_ok h)
set_option maxHeartbeats 4000000 in
set_option maxRecDepth 100000 in
theorem qM_findsAll_L2_ok : ∀ (n : Nat) (σ : QS) (x1 : Int32) (r : QS), qM_findsAll_L2 n σ x1 = some r → qx_E (qx_gM l D ci a) 4 mX9_findsAll (none, r) 2 [(0, .ref (a 0)), (1, .int x1)] [] σ := by
  intro n
  induction n with
  | zero =>
    intro σ x1 r h
    exact (qx_none h).elim
  | succ n ih =>
    intro σ x1 r h
    unfold qM_findsAll_L2 at h
    refine qx_iload_n (pc := 2) 1 dX9_findsAll_2 rfl ?_
    refine qx_bipush (pc := 3) 8 dX9_findsAll_3 (by decide) ?_
    refine qx_aload_n (pc := 5) 0 dX9_findsAll_5 rfl ?_
    refine qgM0_1 (pc := 6) qwf_X9_48 dX9_findsAll_6 ?_
    refine qx_imul (pc := 9) dX9_findsAll_9 ?_
    refine qx_icmp_ge (pc := 10) 37 h dX9_findsAll_10 (by decide) (fun h => ?_) (fun h => ?_)
    · exact qx_vret h rfl dX9_findsAll_37
    · refine qx_aload_n (pc := 13) 0 dX9_findsAll_13 rfl ?_
      refine qgM0_6 (pc := 14) qwf_X9_20 dX9_findsAll_14 ?_
      refine qx_iload_n (pc := 17) 1 dX9_findsAll_17 rfl ?_
      refine qx_aload_n (pc := 18) 0 dX9_findsAll_18 rfl ?_
      refine qx_iload_n (pc := 19) 1 dX9_findsAll_19 rfl ?_
      refine qx_bipush (pc := 20) 8 dX9_findsAll_20 (by decide) ?_
      refine qx_idiv (pc := 22) dX9_findsAll_22 (by decide) ?_
      refine qx_iload_n (pc := 23) 1 dX9_findsAll_23 rfl ?_
      refine qx_bipush (pc := 24) 8 dX9_findsAll_24 (by decide) ?_
      refine qx_irem (pc := 26) dX9_findsAll_26 (by decide) ?_
      obtain ⟨r1, hr1, h⟩ := qx_bindE h
      refine qx_callVi (pc := 27) 0 r1 σ [.int (x1 / 8), .int (x1 - x1 / 8 * 8)] [.int x1, .ref (a 2)] rfl rfl rfl qcm_X9_finds qcv_X9_finds qwm_X9_76 rfl (Nat.le_of_ble_eq_true rfl) (Nat.le_of_ble_eq_true rfl) (by decide) dX9_findsAll_27 (qM_finds_ok hr1) ?_
      refine qsM2 (pc := 30) h dX9_findsAll_30 (fun h => ?_)
      refine qx_iinc (pc := 31) (lv' := [(1, .int (x1 + 1)), (0, .ref (a 0))]) 1 (x1 + 1) dX9_findsAll_31 rfl rfl (Nat.le_of_ble_eq_true rfl) rfl ?_
      refine qx_goto (pc := 34) 2 dX9_findsAll_34 (by decide) ?_
      exact qx_sub [1, 0] rfl (ih _ _ _ h)
set_option maxHeartbeats 4000000 in
set_option maxRecDepth 100000 in
theorem qM_findsAll_ok {σ : QS} {r : QS} (h : qM_findsAll σ = some r) : qx_E (qx_gM l D ci a) 4 mX9_findsAll (none, r) 0 [(0, .ref (a 0))] [] σ := by
  unfold qM_findsAll at h
  refine qx_iconst (pc := 0) 0 dX9_findsAll_0 (by decide) ?_
  refine qx_istore_n (pc := 1) (lv' := [(1, .int 0), (0, .ref (a 0))]) dX9_findsAll_1 (Nat.le_of_ble_eq_true rfl) rfl ?_
  exact qx_sub [1, 0] rfl (qM_findsAll_L2_ok qx_F _ _ _ h)
set_option maxHeartbeats 4000000 in
set_option maxRecDepth 100000 in
theorem qM_meet_J57_ok {σ : QS} {x1 : Int32} {x2 : Int32} {x3 : Int32} {x4 : Int32} {s0 : Int32} {r : Int32} (h : qM_meet_J57 σ x1 x2 x3 x4 s0 = some r) : qx_E (qx_gM l D ci a) 2 mX9_meet (some (.int r), σ) 57 [(0, .ref (a 0)), (1, .int x1), (2, .int x2), (3, .int x3), (4, .int x4)] [.int s0] σ := by
  unfold qM_meet_J57 at h
  refine qx_istore (pc := 57) (lv' := [(5, .int s0), (0, .ref (a 0)), (1, .int x1), (2, .int x2), (3, .int x3), (4, .int x4)]) dX9_meet_57 (Nat.le_of_ble_eq_true rfl) rfl ?_
  refine qx_iload (pc := 59) 0 dX9_meet_59 rfl ?_
  refine qx_if_eq (pc := 61) 120 h dX9_meet_61 (by decide) (fun h => ?_) (fun h => ?_)
  · refine qx_iconst (pc := 120) 0 dX9_meet_120 (by decide) ?_
    exact qx_nret h rfl rfl dX9_meet_121
  · refine qx_aload_n (pc := 64) 1 dX9_meet_64 rfl ?_
    refine qx_iload_n (pc := 65) 2 dX9_meet_65 rfl ?_
    refine qx_iload_n (pc := 66) 3 dX9_meet_66 rfl ?_
    obtain ⟨r1, hr1, h⟩ := qx_bindE h
    refine qx_callVi (pc := 67) 0 r1 σ [.int x1, .int x2] [] rfl rfl rfl qcm_X9_bottom qcv_X9_bottom qwm_X9_65 rfl (Nat.le_of_ble_eq_true rfl) (Nat.le_of_ble_eq_true rfl) (by decide) dX9_meet_67 (qM_bottom_ok hr1) ?_
    refine qx_aload_n (pc := 70) 1 dX9_meet_70 rfl ?_
    refine qx_iload_n (pc := 71) 4 dX9_meet_71 rfl ?_
    refine qx_iload (pc := 72) 5 dX9_meet_72 rfl ?_
    obtain ⟨r2, hr2, h⟩ := qx_bindE h
    refine qx_callVi (pc := 74) 0 r2 σ [.int x3, .int x4] [.int r1] rfl rfl rfl qcm_X9_bottom qcv_X9_bottom qwm_X9_65 rfl (Nat.le_of_ble_eq_true rfl) (Nat.le_of_ble_eq_true rfl) (by decide) dX9_meet_74 (qM_bottom_ok hr2) ?_
    refine qx_aload_n (pc := 77) 1 dX9_meet_77 rfl ?_
    refine qgM0_0 (pc := 78) qwf_X9_7 dX9_meet_78 ?_
    refine qx_bipush (pc := 81) 60 dX9_meet_81 (by decide) ?_
    refine qx_iload_n (pc := 83) 4 dX9_meet_83 rfl ?_
    refine qx_iadd (pc := 84) dX9_meet_84 ?_
    refine qlM1 (pc := 85) h dX9_meet_85 (fun h => ?_)
    refine qx_iadd (pc := 86) dX9_meet_86 ?_
    refine qx_icmp_ge (pc := 87) 120 h dX9_meet_87 (by decide) (fun h => ?_) (fun h => ?_)
    · refine qx_iconst (pc := 120) 0 dX9_meet_120 (by decide) ?_
      exact qx_nret h rfl rfl dX9_meet_121
    · refine qx_aload_n (pc := 90) 1 dX9_meet_90 rfl ?_
      refine qx_iload_n (pc := 91) 4 dX9_meet_91 rfl ?_
      refine qx_iload (pc := 92) 5 dX9_meet_92 rfl ?_
      obtain ⟨r3, hr3, h⟩ := qx_bindE h
      refine qx_callVi (pc := 94) 0 r3 σ [.int x3, .int x4] [] rfl rfl rfl qcm_X9_bottom qcv_X9_bottom qwm_X9_65 rfl (Nat.le_of_ble_eq_true rfl) (Nat.le_of_ble_eq_true rfl) (by decide) dX9_meet_94 (qM_bottom_ok hr3) ?_
      refine qx_aload_n (pc := 97) 1 dX9_meet_97 rfl ?_
      refine qx_iload_n (pc := 98) 2 dX9_meet_98 rfl ?_
      refine qx_iload_n (pc := 99) 3 dX9_meet_99 rfl ?_
      obtain ⟨r4, hr4, h⟩ := qx_bindE h
      refine qx_callVi (pc := 100) 0 r4 σ [.int x1, .int x2] [.int r3] rfl rfl rfl qcm_X9_bottom qcv_X9_bottom qwm_X9_65 rfl (Nat.le_of_ble_eq_true rfl) (Nat.le_of_ble_eq_true rfl) (by decide) dX9_meet_100 (qM_bottom_ok hr4) ?_
      refine qx_aload_n (pc := 103) 1 dX9_meet_103 rfl ?_
      refine qgM0_0 (pc := 104) qwf_X9_7 dX9_meet_104 ?_
      refine qx_bipush (pc := 107) 60 dX9_meet_107 (by decide) ?_
      refine qx_iload_n (pc := 109) 2 dX9_meet_109 rfl ?_
      refine qx_iadd (pc := 110) dX9_meet_110 ?_
      refine qlM1 (pc := 111) h dX9_meet_111 (fun h => ?_)
      refine qx_iadd (pc := 112) dX9_meet_112 ?_
      refine qx_icmp_ge (pc := 113) 120 h dX9_meet_113 (by decide) (fun h => ?_) (fun h => ?_)
      · refine qx_iconst (pc := 120) 0 dX9_meet_120 (by decide) ?_
        exact qx_nret h rfl rfl dX9_meet_121
      · refine qx_iconst (pc := 116) 1 dX9_meet_116 (by decide) ?_
        refine qx_goto (pc := 117) 121 dX9_meet_117 (by decide) ?_
        exact qx_nret h rfl rfl dX9_meet_121
set_option maxHeartbeats 4000000 in
set_option maxRecDepth 100000 in
theorem qM_meet_ok {σ : QS} {x1 : Int32} {x2 : Int32} {x3 : Int32} {x4 : Int32} {r : Int32} (h : qM_meet σ x1 x2 x3 x4 = some r) : qx_E (qx_gM l D ci a) 2 mX9_meet (some (.int r), σ) 0 [(0, .ref (a 0)), (1, .int x1), (2, .int x2), (3, .int x3), (4, .int x4)] [] σ := by
  unfold qM_meet at h
  refine qx_aload_n (pc := 0) 0 dX9_meet_0 rfl ?_
  refine qx_iload_n (pc := 1) 1 dX9_meet_1 rfl ?_
  refine qx_iload_n (pc := 2) 2 dX9_meet_2 rfl ?_
  obtain ⟨r5, hr5, h⟩ := qx_bindE h
  refine qx_callVi (pc := 3) 0 r5 σ [.int x1, .int x2] [] rfl rfl rfl qcm_X9_left qcv_X9_left qwm_X9_61 rfl (Nat.le_of_ble_eq_true rfl) (Nat.le_of_ble_eq_true rfl) (by decide) dX9_meet_3 (qM_left_ok hr5) ?_
  refine qx_aload_n (pc := 6) 0 dX9_meet_6 rfl ?_
  refine qx_iload_n (pc := 7) 3 dX9_meet_7 rfl ?_
  refine qx_iload (pc := 8) 4 dX9_meet_8 rfl ?_
  obtain ⟨r6, hr6, h⟩ := qx_bindE h
  refine qx_callVi (pc := 10) 0 r6 σ [.int x3, .int x4] [.int r5] rfl rfl rfl qcm_X9_left qcv_X9_left qwm_X9_61 rfl (Nat.le_of_ble_eq_true rfl) (Nat.le_of_ble_eq_true rfl) (by decide) dX9_meet_10 (qM_left_ok hr6) ?_
  refine qx_aload_n (pc := 13) 0 dX9_meet_13 rfl ?_
  refine qgM0_0 (pc := 14) qwf_X9_7 dX9_meet_14 ?_
  refine qx_bipush (pc := 17) 40 dX9_meet_17 (by decide) ?_
  refine qx_iload_n (pc := 19) 3 dX9_meet_19 rfl ?_
  refine qx_iadd (pc := 20) dX9_meet_20 ?_
  refine qlM1 (pc := 21) h dX9_meet_21 (fun h => ?_)
  refine qx_iadd (pc := 22) dX9_meet_22 ?_
  refine qx_icmp_ge (pc := 23) 56 h dX9_meet_23 (by decide) (fun h => ?_) (fun h => ?_)
  · refine qx_iconst (pc := 56) 0 dX9_meet_56 (by decide) ?_
    exact (qM_meet_J57_ok h)
  · refine qx_aload_n (pc := 26) 0 dX9_meet_26 rfl ?_
    refine qx_iload_n (pc := 27) 3 dX9_meet_27 rfl ?_
    refine qx_iload (pc := 28) 4 dX9_meet_28 rfl ?_
    obtain ⟨r7, hr7, h⟩ := qx_bindE h
    refine qx_callVi (pc := 30) 0 r7 σ [.int x3, .int x4] [] rfl rfl rfl qcm_X9_left qcv_X9_left qwm_X9_61 rfl (Nat.le_of_ble_eq_true rfl) (Nat.le_of_ble_eq_true rfl) (by decide) dX9_meet_30 (qM_left_ok hr7) ?_
    refine qx_aload_n (pc := 33) 0 dX9_meet_33 rfl ?_
    refine qx_iload_n (pc := 34) 1 dX9_meet_34 rfl ?_
    refine qx_iload_n (pc := 35) 2 dX9_meet_35 rfl ?_
    obtain ⟨r8, hr8, h⟩ := qx_bindE h
    refine qx_callVi (pc := 36) 0 r8 σ [.int x1, .int x2] [.int r7] rfl rfl rfl qcm_X9_left qcv_X9_left qwm_X9_61 rfl (Nat.le_of_ble_eq_true rfl) (Nat.le_of_ble_eq_true rfl) (by decide) dX9_meet_36 (qM_left_ok hr8) ?_
    refine qx_aload_n (pc := 39) 0 dX9_meet_39 rfl ?_
    refine qgM0_0 (pc := 40) qwf_X9_7 dX9_meet_40 ?_
    refine qx_bipush (pc := 43) 40 dX9_meet_43 (by decide) ?_
    refine qx_iload_n (pc := 45) 1 dX9_meet_45 rfl ?_
    refine qx_iadd (pc := 46) dX9_meet_46 ?_
    refine qlM1 (pc := 47) h dX9_meet_47 (fun h => ?_)
    refine qx_iadd (pc := 48) dX9_meet_48 ?_
    refine qx_icmp_ge (pc := 49) 56 h dX9_meet_49 (by decide) (fun h => ?_) (fun h => ?_)
    · refine qx_iconst (pc := 56) 0 dX9_meet_56 (by decide) ?_
      exact (qM_meet_J57_ok h)
    · refine qx_iconst (pc := 52) 1 dX9_meet_52 (by decide) ?_
      refine qx_goto (pc := 53) 57 dX9_meet_53 (by decide) ?_
      exact (qM_meet_J57_ok h)
set_option maxHeartbeats 4000000 in
set_option maxRecDepth 100000 in
theorem qM_clashes_L6_ok {σ : QS} {x1 : Int32} {x2 : Int32} {x3 : Int32} : ∀ (n : Nat) (x4 : Int32) (x5 : Int32) (r : Int32), qM_clashes_L6 σ x1 x2 x3 n x4 x5 = some r → qx_E (qx_gM l D ci a) 3 mX9_clashes (some (.int r), σ) 6 [(0, .ref (a 0)), (1, .int x1), (2, .int x2), (3, .int x3), (4, .int x4), (5, .int x5)] [] σ := by
  intro n
  induction n with
  | zero =>
    intro x4 x5 r h
    exact (qx_none h).elim
  | succ n ih =>
    intro x4 x5 r h
    unfold qM_clashes_L6 at h
    refine qx_iload (pc := 6) 5 dX9_clashes_6 rfl ?_
    refine qx_aload_n (pc := 8) 0 dX9_clashes_8 rfl ?_
    refine qgM0_1 (pc := 9) qwf_X9_48 dX9_clashes_9 ?_
    refine qx_icmp_ge (pc := 12) 78 h dX9_clashes_12 (by decide) (fun h => ?_) (fun h => ?_)
    · refine qx_iload (pc := 78) 4 dX9_clashes_78 rfl ?_
      exact qx_iret h rfl dX9_clashes_80
    · refine qx_iload (pc := 15) 4 dX9_clashes_15 rfl ?_
      refine qx_iload (pc := 17) 5 dX9_clashes_17 rfl ?_
      refine qx_iload_n (pc := 19) 1 dX9_clashes_19 rfl ?_
      refine qx_icmp_eq (pc := 20) 68 h dX9_clashes_20 (by decide) (fun h => ?_) (fun h => ?_)
      · refine qx_iconst (pc := 68) 0 dX9_clashes_68 (by decide) ?_
        refine qx_iadd (pc := 69) dX9_clashes_69 ?_
        refine qx_istore (pc := 70) (lv' := [(4, .int (x4 + 0)), (0, .ref (a 0)), (1, .int x1), (2, .int x2), (3, .int x3), (5, .int x5)]) dX9_clashes_70 (Nat.le_of_ble_eq_true rfl) rfl ?_
        refine qx_iinc (pc := 72) (lv' := [(5, .int (x5 + 1)), (4, .int (x4 + 0)), (0, .ref (a 0)), (1, .int x1), (2, .int x2), (3, .int x3)]) 5 (x5 + 1) dX9_clashes_72 rfl rfl (Nat.le_of_ble_eq_true rfl) rfl ?_
        refine qx_goto (pc := 75) 6 dX9_clashes_75 (by decide) ?_
        exact qx_sub [2, 3, 4, 5, 1, 0] rfl (ih _ _ _ h)
      · refine qx_iload (pc := 23) 5 dX9_clashes_23 rfl ?_
        refine qx_iload_n (pc := 25) 3 dX9_clashes_25 rfl ?_
        refine qx_icmp_eq (pc := 26) 68 h dX9_clashes_26 (by decide) (fun h => ?_) (fun h => ?_)
        · refine qx_iconst (pc := 68) 0 dX9_clashes_68 (by decide) ?_
          refine qx_iadd (pc := 69) dX9_clashes_69 ?_
          refine qx_istore (pc := 70) (lv' := [(4, .int (x4 + 0)), (0, .ref (a 0)), (1, .int x1), (2, .int x2), (3, .int x3), (5, .int x5)]) dX9_clashes_70 (Nat.le_of_ble_eq_true rfl) rfl ?_
          refine qx_iinc (pc := 72) (lv' := [(5, .int (x5 + 1)), (4, .int (x4 + 0)), (0, .ref (a 0)), (1, .int x1), (2, .int x2), (3, .int x3)]) 5 (x5 + 1) dX9_clashes_72 rfl rfl (Nat.le_of_ble_eq_true rfl) rfl ?_
          refine qx_goto (pc := 75) 6 dX9_clashes_75 (by decide) ?_
          exact qx_sub [2, 3, 4, 5, 1, 0] rfl (ih _ _ _ h)
        · refine qx_aload_n (pc := 29) 0 dX9_clashes_29 rfl ?_
          refine qgM0_0 (pc := 30) qwf_X9_7 dX9_clashes_30 ?_
          refine qx_bipush (pc := 33) 120 dX9_clashes_33 (by decide) ?_
          refine qx_iload (pc := 35) 5 dX9_clashes_35 rfl ?_
          refine qx_iadd (pc := 37) dX9_clashes_37 ?_
          refine qlM1 (pc := 38) h dX9_clashes_38 (fun h => ?_)
          refine qx_iconst (pc := 39) (-1) dX9_clashes_39 (by decide) ?_
          refine qx_icmp_eq (pc := 40) 68 h dX9_clashes_40 (by decide) (fun h => ?_) (fun h => ?_)
          · refine qx_iconst (pc := 68) 0 dX9_clashes_68 (by decide) ?_
            refine qx_iadd (pc := 69) dX9_clashes_69 ?_
            refine qx_istore (pc := 70) (lv' := [(4, .int (x4 + 0)), (0, .ref (a 0)), (1, .int x1), (2, .int x2), (3, .int x3), (5, .int x5)]) dX9_clashes_70 (Nat.le_of_ble_eq_true rfl) rfl ?_
            refine qx_iinc (pc := 72) (lv' := [(5, .int (x5 + 1)), (4, .int (x4 + 0)), (0, .ref (a 0)), (1, .int x1), (2, .int x2), (3, .int x3)]) 5 (x5 + 1) dX9_clashes_72 rfl rfl (Nat.le_of_ble_eq_true rfl) rfl ?_
            refine qx_goto (pc := 75) 6 dX9_clashes_75 (by decide) ?_
            exact qx_sub [2, 3, 4, 5, 1, 0] rfl (ih _ _ _ h)
          · refine qx_aload_n (pc := 43) 0 dX9_clashes_43 rfl ?_
            refine qx_iload_n (pc := 44) 1 dX9_clashes_44 rfl ?_
            refine qx_iload_n (pc := 45) 2 dX9_clashes_45 rfl ?_
            refine qx_iload (pc := 46) 5 dX9_clashes_46 rfl ?_
            refine qx_aload_n (pc := 48) 0 dX9_clashes_48 rfl ?_
            refine qgM0_0 (pc := 49) qwf_X9_7 dX9_clashes_49 ?_
            refine qx_bipush (pc := 52) 120 dX9_clashes_52 (by decide) ?_
            refine qx_iload (pc := 54) 5 dX9_clashes_54 rfl ?_
            refine qx_iadd (pc := 56) dX9_clashes_56 ?_
            refine qlM1 (pc := 57) h dX9_clashes_57 (fun h => ?_)
            obtain ⟨r1, hr1, h⟩ := qx_bindE h
            refine qx_callVi (pc := 58) 0 r1 σ [.int x1, .int x2, .int x5, .int (σ.1 1 (120 + x5).toNatClampNeg)] [.int x4] rfl rfl rfl qcm_X9_meet qcv_X9_meet qwm_X9_80 rfl (Nat.le_of_ble_eq_true rfl) (Nat.le_of_ble_eq_true rfl) (by decide) dX9_clashes_58 (qM_meet_ok hr1) ?_
            refine qx_if_eq (pc := 61) 68 h dX9_clashes_61 (by decide) (fun h => ?_) (fun h => ?_)
            · refine qx_iconst (pc := 68) 0 dX9_clashes_68 (by decide) ?_
              refine qx_iadd (pc := 69) dX9_clashes_69 ?_
              refine qx_istore (pc := 70) (lv' := [(4, .int (x4 + 0)), (0, .ref (a 0)), (1, .int x1), (2, .int x2), (3, .int x3), (5, .int x5)]) dX9_clashes_70 (Nat.le_of_ble_eq_true rfl) rfl ?_
              refine qx_iinc (pc := 72) (lv' := [(5, .int (x5 + 1)), (4, .int (x4 + 0)), (0, .ref (a 0)), (1, .int x1), (2, .int x2), (3, .int x3)]) 5 (x5 + 1) dX9_clashes_72 rfl rfl (Nat.le_of_ble_eq_true rfl) rfl ?_
              refine qx_goto (pc := 75) 6 dX9_clashes_75 (by decide) ?_
              exact qx_sub [2, 3, 4, 5, 1, 0] rfl (ih _ _ _ h)
            · refine qx_iconst (pc := 64) 1 dX9_clashes_64 (by decide) ?_
              refine qx_goto (pc := 65) 69 dX9_clashes_65 (by decide) ?_
              refine qx_iadd (pc := 69) dX9_clashes_69 ?_
              refine qx_istore (pc := 70) (lv' := [(4, .int (x4 + 1)), (0, .ref (a 0)), (1, .int x1), (2, .int x2), (3, .int x3), (5, .int x5)]) dX9_clashes_70 (Nat.le_of_ble_eq_true rfl) rfl ?_
              refine qx_iinc (pc := 72) (lv' := [(5, .int (x5 + 1)), (4, .int (x4 + 1)), (0, .ref (a 0)), (1, .int x1), (2, .int x2), (3, .int x3)]) 5 (x5 + 1) dX9_clashes_72 rfl rfl (Nat.le_of_ble_eq_true rfl) rfl ?_
              refine qx_goto (pc := 75) 6 dX9_clashes_75 (by decide) ?_
              exact qx_sub [2, 3, 4, 5, 1, 0] rfl (ih _ _ _ h)
set_option maxHeartbeats 4000000 in
set_option maxRecDepth 100000 in
theorem qM_clashes_ok {σ : QS} {x1 : Int32} {x2 : Int32} {x3 : Int32} {r : Int32} (h : qM_clashes σ x1 x2 x3 = some r) : qx_E (qx_gM l D ci a) 3 mX9_clashes (some (.int r), σ) 0 [(0, .ref (a 0)), (1, .int x1), (2, .int x2), (3, .int x3)] [] σ := by
  unfold qM_clashes at h
  refine qx_iconst (pc := 0) 0 dX9_clashes_0 (by decide) ?_
  refine qx_istore (pc := 1) (lv' := [(4, .int 0), (0, .ref (a 0)), (1, .int x1), (2, .int x2), (3, .int x3)]) dX9_clashes_1 (Nat.le_of_ble_eq_true rfl) rfl ?_
  refine qx_iconst (pc := 3) 0 dX9_clashes_3 (by decide) ?_
  refine qx_istore (pc := 4) (lv' := [(5, .int 0), (4, .int 0), (0, .ref (a 0)), (1, .int x1), (2, .int x2), (3, .int x3)]) dX9_clashes_4 (Nat.le_of_ble_eq_true rfl) rfl ?_
  exact qx_sub [2, 3, 4, 5, 1, 0] rfl (qM_clashes_L6_ok qx_F _ _ _ h)
set_option maxHeartbeats 4000000 in
set_option maxRecDepth 100000 in
theorem qM_clashing_L5_ok {σ : QS} {x1 : Int32} {x2 : Int32} : ∀ (n : Nat) (x3 : Int32) (x4 : Int32) (r : Int32), qM_clashing_L5 σ x1 x2 n x3 x4 = some r → qx_E (qx_gM l D ci a) 3 mX9_clashing (some (.int r), σ) 5 [(0, .ref (a 0)), (1, .int x1), (2, .int x2), (3, .int x3), (4, .int x4)] [] σ := by
  intro n
  induction n with
  | zero =>
    intro x3 x4 r h
    exact (qx_none h).elim
  | succ n ih =>
    intro x3 x4 r h
    unfold qM_clashing_L5 at h
    refine qx_iload (pc := 5) 4 dX9_clashing_5 rfl ?_
    refine qx_aload_n (pc := 7) 0 dX9_clashing_7 rfl ?_
    refine qgM0_1 (pc := 8) qwf_X9_48 dX9_clashing_8 ?_
    refine qx_icmp_ge (pc := 11) 68 h dX9_clashing_11 (by decide) (fun h => ?_) (fun h => ?_)
    · refine qx_iload_n (pc := 68) 3 dX9_clashing_68 rfl ?_
      exact qx_iret h rfl dX9_clashing_69
    · refine qx_iload (pc := 14) 4 dX9_clashing_14 rfl ?_
      refine qx_iload_n (pc := 16) 1 dX9_clashing_16 rfl ?_
      refine qx_icmp_eq (pc := 17) 60 h dX9_clashing_17 (by decide) (fun h => ?_) (fun h => ?_)
      · refine qx_iload_n (pc := 60) 3 dX9_clashing_60 rfl ?_
        refine qx_istore_n (pc := 61) (lv' := [(3, .int x3), (0, .ref (a 0)), (1, .int x1), (2, .int x2), (4, .int x4)]) dX9_clashing_61 (Nat.le_of_ble_eq_true rfl) rfl ?_
        refine qx_iinc (pc := 62) (lv' := [(4, .int (x4 + 1)), (3, .int x3), (0, .ref (a 0)), (1, .int x1), (2, .int x2)]) 4 (x4 + 1) dX9_clashing_62 rfl rfl (Nat.le_of_ble_eq_true rfl) rfl ?_
        refine qx_goto (pc := 65) 5 dX9_clashing_65 (by decide) ?_
        exact qx_sub [2, 3, 4, 1, 0] rfl (ih _ _ _ h)
      · refine qx_aload_n (pc := 20) 0 dX9_clashing_20 rfl ?_
        refine qgM0_0 (pc := 21) qwf_X9_7 dX9_clashing_21 ?_
        refine qx_bipush (pc := 24) 120 dX9_clashing_24 (by decide) ?_
        refine qx_iload (pc := 26) 4 dX9_clashing_26 rfl ?_
        refine qx_iadd (pc := 28) dX9_clashing_28 ?_
        refine qlM1 (pc := 29) h dX9_clashing_29 (fun h => ?_)
        refine qx_iconst (pc := 30) (-1) dX9_clashing_30 (by decide) ?_
        refine qx_icmp_eq (pc := 31) 60 h dX9_clashing_31 (by decide) (fun h => ?_) (fun h => ?_)
        · refine qx_iload_n (pc := 60) 3 dX9_clashing_60 rfl ?_
          refine qx_istore_n (pc := 61) (lv' := [(3, .int x3), (0, .ref (a 0)), (1, .int x1), (2, .int x2), (4, .int x4)]) dX9_clashing_61 (Nat.le_of_ble_eq_true rfl) rfl ?_
          refine qx_iinc (pc := 62) (lv' := [(4, .int (x4 + 1)), (3, .int x3), (0, .ref (a 0)), (1, .int x1), (2, .int x2)]) 4 (x4 + 1) dX9_clashing_62 rfl rfl (Nat.le_of_ble_eq_true rfl) rfl ?_
          refine qx_goto (pc := 65) 5 dX9_clashing_65 (by decide) ?_
          exact qx_sub [2, 3, 4, 1, 0] rfl (ih _ _ _ h)
        · refine qx_aload_n (pc := 34) 0 dX9_clashing_34 rfl ?_
          refine qx_iload_n (pc := 35) 1 dX9_clashing_35 rfl ?_
          refine qx_iload_n (pc := 36) 2 dX9_clashing_36 rfl ?_
          refine qx_iload (pc := 37) 4 dX9_clashing_37 rfl ?_
          refine qx_aload_n (pc := 39) 0 dX9_clashing_39 rfl ?_
          refine qgM0_0 (pc := 40) qwf_X9_7 dX9_clashing_40 ?_
          refine qx_bipush (pc := 43) 120 dX9_clashing_43 (by decide) ?_
          refine qx_iload (pc := 45) 4 dX9_clashing_45 rfl ?_
          refine qx_iadd (pc := 47) dX9_clashing_47 ?_
          refine qlM1 (pc := 48) h dX9_clashing_48 (fun h => ?_)
          obtain ⟨r1, hr1, h⟩ := qx_bindE h
          refine qx_callVi (pc := 49) 0 r1 σ [.int x1, .int x2, .int x4, .int (σ.1 1 (120 + x4).toNatClampNeg)] [] rfl rfl rfl qcm_X9_meet qcv_X9_meet qwm_X9_80 rfl (Nat.le_of_ble_eq_true rfl) (Nat.le_of_ble_eq_true rfl) (by decide) dX9_clashing_49 (qM_meet_ok hr1) ?_
          refine qx_if_eq (pc := 52) 60 h dX9_clashing_52 (by decide) (fun h => ?_) (fun h => ?_)
          · refine qx_iload_n (pc := 60) 3 dX9_clashing_60 rfl ?_
            refine qx_istore_n (pc := 61) (lv' := [(3, .int x3), (0, .ref (a 0)), (1, .int x1), (2, .int x2), (4, .int x4)]) dX9_clashing_61 (Nat.le_of_ble_eq_true rfl) rfl ?_
            refine qx_iinc (pc := 62) (lv' := [(4, .int (x4 + 1)), (3, .int x3), (0, .ref (a 0)), (1, .int x1), (2, .int x2)]) 4 (x4 + 1) dX9_clashing_62 rfl rfl (Nat.le_of_ble_eq_true rfl) rfl ?_
            refine qx_goto (pc := 65) 5 dX9_clashing_65 (by decide) ?_
            exact qx_sub [2, 3, 4, 1, 0] rfl (ih _ _ _ h)
          · refine qx_iload (pc := 55) 4 dX9_clashing_55 rfl ?_
            refine qx_goto (pc := 57) 61 dX9_clashing_57 (by decide) ?_
            refine qx_istore_n (pc := 61) (lv' := [(3, .int x4), (0, .ref (a 0)), (1, .int x1), (2, .int x2), (4, .int x4)]) dX9_clashing_61 (Nat.le_of_ble_eq_true rfl) rfl ?_
            refine qx_iinc (pc := 62) (lv' := [(4, .int (x4 + 1)), (3, .int x4), (0, .ref (a 0)), (1, .int x1), (2, .int x2)]) 4 (x4 + 1) dX9_clashing_62 rfl rfl (Nat.le_of_ble_eq_true rfl) rfl ?_
            refine qx_goto (pc := 65) 5 dX9_clashing_65 (by decide) ?_
            exact qx_sub [2, 3, 4, 1, 0] rfl (ih _ _ _ h)
set_option maxHeartbeats 4000000 in
set_option maxRecDepth 100000 in
theorem qM_clashing_ok {σ : QS} {x1 : Int32} {x2 : Int32} {r : Int32} (h : qM_clashing σ x1 x2 = some r) : qx_E (qx_gM l D ci a) 3 mX9_clashing (some (.int r), σ) 0 [(0, .ref (a 0)), (1, .int x1), (2, .int x2)] [] σ := by
  unfold qM_clashing at h
  refine qx_iconst (pc := 0) (-1) dX9_clashing_0 (by decide) ?_
  refine qx_istore_n (pc := 1) (lv' := [(3, .int (-1)), (0, .ref (a 0)), (1, .int x1), (2, .int x2)]) dX9_clashing_1 (Nat.le_of_ble_eq_true rfl) rfl ?_
  refine qx_iconst (pc := 2) 0 dX9_clashing_2 (by decide) ?_
  refine qx_istore (pc := 3) (lv' := [(4, .int 0), (3, .int (-1)), (0, .ref (a 0)), (1, .int x1), (2, .int x2)]) dX9_clashing_3 (Nat.le_of_ble_eq_true rfl) rfl ?_
  exact qx_sub [2, 3, 4, 1, 0] rfl (qM_clashing_L5_ok qx_F _ _ _ h)
set_option maxHeartbeats 4000000 in
set_option maxRecDepth 100000 in
theorem qM_settles_J54_ok {σ : QS} {x1 : Int32} {s0 : Int32} {k6 : QS → Int32 → Option (QS)} (hk6 : ∀ (σ : QS) (x1 : Int32) (r : QS), k6 σ x1 = some r → qx_E (qx_gM l D ci a) 5 mX9_settles (none, r) 6 [(0, .ref (a 0)), (1, .int x1)] [] σ) {r : QS} (h : qM_settles_J54 σ k6 x1 s0 = some r) : qx_E (qx_gM l D ci a) 5 mX9_settles (none, r) 54 [(0, .ref (a 0)), (1, .int x1)] [.int s0] σ := by
  unfold qM_settles_J54 at h
  refine qx_istore_n (pc := 54) (lv' := [(2, .int s0), (0, .ref (a 0)), (1, .int x1)]) dX9_settles_54 (Nat.le_of_ble_eq_true rfl) rfl ?_
  refine qx_aload_n (pc := 55) 1 dX9_settles_55 rfl ?_
  refine qgM0_0 (pc := 56) qwf_X9_7 dX9_settles_56 ?_
  refine qx_bipush (pc := 59) 120 dX9_settles_59 (by decide) ?_
  refine qx_iload_n (pc := 61) 2 dX9_settles_61 rfl ?_
  refine qx_iadd (pc := 62) dX9_settles_62 ?_
  refine qx_iload_n (pc := 63) 0 dX9_settles_63 rfl ?_
  refine qx_if_eq (pc := 64) 79 h dX9_settles_64 (by decide) (fun h => ?_) (fun h => ?_)
  · refine qx_iconst (pc := 79) (-1) dX9_settles_79 (by decide) ?_
    refine qsM1 (pc := 80) h dX9_settles_80 (fun h => ?_)
    refine qx_iinc (pc := 81) (lv' := [(1, .int (x1 + 1)), (2, .int s0), (0, .ref (a 0))]) 2 (x1 + 1) dX9_settles_81 rfl rfl (Nat.le_of_ble_eq_true rfl) rfl ?_
    refine qx_goto (pc := 84) 6 dX9_settles_84 (by decide) ?_
    exact qx_sub [2, 0] rfl (hk6 _ _ _ h)
  · refine qx_aload_n (pc := 67) 1 dX9_settles_67 rfl ?_
    refine qgM0_0 (pc := 68) qwf_X9_7 dX9_settles_68 ?_
    refine qx_bipush (pc := 71) 120 dX9_settles_71 (by decide) ?_
    refine qx_iload_n (pc := 73) 2 dX9_settles_73 rfl ?_
    refine qx_iadd (pc := 74) dX9_settles_74 ?_
    refine qlM1 (pc := 75) h dX9_settles_75 (fun h => ?_)
    refine qx_goto (pc := 76) 80 dX9_settles_76 (by decide) ?_
    refine qsM1 (pc := 80) h dX9_settles_80 (fun h => ?_)
    refine qx_iinc (pc := 81) (lv' := [(1, .int (x1 + 1)), (2, .int s0), (0, .ref (a 0))]) 2 (x1 + 1) dX9_settles_81 rfl rfl (Nat.le_of_ble_eq_true rfl) rfl ?_
    refine qx_goto (pc := 84) 6 dX9_settles_84 (by decide) ?_
    exact qx_sub [2, 0] rfl (hk6 _ _ _ h)
set_option maxHeartbeats 4000000 in
set_option maxRecDepth 100000 in
theorem qM_settles_L6_ok : ∀ (n : Nat) (σ : QS) (x1 : Int32) (r : QS), qM_settles_L6 n σ x1 = some r → qx_E (qx_gM l D ci a) 5 mX9_settles (none, r) 6 [(0, .ref (a 0)), (1, .int x1)] [] σ := by
  intro n
  induction n with
  | zero =>
    intro σ x1 r h
    exact (qx_none h).elim
  | succ n ih =>
    intro σ x1 r h
    unfold qM_settles_L6 at h
    refine qx_iload_n (pc := 6) 1 dX9_settles_6 rfl ?_
    refine qx_aload_n (pc := 7) 0 dX9_settles_7 rfl ?_
    refine qgM0_1 (pc := 8) qwf_X9_48 dX9_settles_8 ?_
    refine qx_icmp_ge (pc := 11) 87 h dX9_settles_11 (by decide) (fun h => ?_) (fun h => ?_)
    · exact qx_vret h rfl dX9_settles_87
    · refine qx_aload_n (pc := 14) 0 dX9_settles_14 rfl ?_
      refine qgM0_0 (pc := 15) qwf_X9_7 dX9_settles_15 ?_
      refine qx_bipush (pc := 18) 120 dX9_settles_18 (by decide) ?_
      refine qx_iload_n (pc := 20) 1 dX9_settles_20 rfl ?_
      refine qx_iadd (pc := 21) dX9_settles_21 ?_
      refine qlM1 (pc := 22) h dX9_settles_22 (fun h => ?_)
      refine qx_iconst (pc := 23) (-1) dX9_settles_23 (by decide) ?_
      refine qx_icmp_eq (pc := 24) 53 h dX9_settles_24 (by decide) (fun h => ?_) (fun h => ?_)
      · refine qx_iconst (pc := 53) 0 dX9_settles_53 (by decide) ?_
        exact (qM_settles_J54_ok ih h)
      · refine qx_aload_n (pc := 27) 0 dX9_settles_27 rfl ?_
        refine qgM0_6 (pc := 28) qwf_X9_20 dX9_settles_28 ?_
        refine qx_bipush (pc := 31) 8 dX9_settles_31 (by decide) ?_
        refine qx_iload_n (pc := 33) 1 dX9_settles_33 rfl ?_
        refine qx_imul (pc := 34) dX9_settles_34 ?_
        refine qx_aload_n (pc := 35) 0 dX9_settles_35 rfl ?_
        refine qgM0_0 (pc := 36) qwf_X9_7 dX9_settles_36 ?_
        refine qx_bipush (pc := 39) 120 dX9_settles_39 (by decide) ?_
        refine qx_iload_n (pc := 41) 1 dX9_settles_41 rfl ?_
        refine qx_iadd (pc := 42) dX9_settles_42 ?_
        refine qlM1 (pc := 43) h dX9_settles_43 (fun h => ?_)
        refine qx_iadd (pc := 44) dX9_settles_44 ?_
        refine qlM2 (pc := 45) h dX9_settles_45 (fun h => ?_)
        refine qx_if_eq (pc := 46) 53 h dX9_settles_46 (by decide) (fun h => ?_) (fun h => ?_)
        · refine qx_iconst (pc := 53) 0 dX9_settles_53 (by decide) ?_
          exact (qM_settles_J54_ok ih h)
        · refine qx_iconst (pc := 49) 1 dX9_settles_49 (by decide) ?_
          refine qx_goto (pc := 50) 54 dX9_settles_50 (by decide) ?_
          exact (qM_settles_J54_ok ih h)
set_option maxHeartbeats 4000000 in
set_option maxRecDepth 100000 in
theorem qM_settles_ok {σ : QS} {r : QS} (h : qM_settles σ = some r) : qx_E (qx_gM l D ci a) 5 mX9_settles (none, r) 0 [(0, .ref (a 0))] [] σ := by
  unfold qM_settles at h
  refine qx_aload_n (pc := 0) 0 dX9_settles_0 rfl ?_
  obtain ⟨r1, hr1, h⟩ := qx_bindE h
  refine qx_callVv (pc := 1) 0 r1 [] [] rfl rfl rfl qcm_X9_findsAll qcv_X9_findsAll qwm_X9_83 rfl (Nat.le_of_ble_eq_true rfl) (Nat.le_of_ble_eq_true rfl) (by decide) dX9_settles_1 (qM_findsAll_ok hr1) ?_
  refine qx_iconst (pc := 4) 0 dX9_settles_4 (by decide) ?_
  refine qx_istore_n (pc := 5) (lv' := [(1, .int 0), (0, .ref (a 0))]) dX9_settles_5 (Nat.le_of_ble_eq_true rfl) rfl ?_
  exact qx_sub [1, 0] rfl (qM_settles_L6_ok qx_F _ _ _ h)
set_option maxHeartbeats 4000000 in
set_option maxRecDepth 100000 in
theorem qM_shown_L4_ok {σ : QS} : ∀ (n : Nat) (x1 : Int32) (x2 : Int32) (r : Int32), qM_shown_L4 σ n x1 x2 = some r → qx_E (qx_gM l D ci a) 1 mX9_shown (some (.int r), σ) 4 [(0, .ref (a 0)), (1, .int x1), (2, .int x2)] [] σ := by
  intro n
  induction n with
  | zero =>
    intro x1 x2 r h
    exact (qx_none h).elim
  | succ n ih =>
    intro x1 x2 r h
    unfold qM_shown_L4 at h
    refine qx_iload_n (pc := 4) 2 dX9_shown_4 rfl ?_
    refine qx_aload_n (pc := 5) 0 dX9_shown_5 rfl ?_
    refine qgM0_1 (pc := 6) qwf_X9_48 dX9_shown_6 ?_
    refine qx_icmp_ge (pc := 9) 39 h dX9_shown_9 (by decide) (fun h => ?_) (fun h => ?_)
    · refine qx_iload_n (pc := 39) 1 dX9_shown_39 rfl ?_
      exact qx_iret h rfl dX9_shown_40
    · refine qx_iload_n (pc := 12) 1 dX9_shown_12 rfl ?_
      refine qx_aload_n (pc := 13) 0 dX9_shown_13 rfl ?_
      refine qgM0_0 (pc := 14) qwf_X9_7 dX9_shown_14 ?_
      refine qx_bipush (pc := 17) 120 dX9_shown_17 (by decide) ?_
      refine qx_iload_n (pc := 19) 2 dX9_shown_19 rfl ?_
      refine qx_iadd (pc := 20) dX9_shown_20 ?_
      refine qlM1 (pc := 21) h dX9_shown_21 (fun h => ?_)
      refine qx_iconst (pc := 22) (-1) dX9_shown_22 (by decide) ?_
      refine qx_icmp_eq (pc := 23) 30 h dX9_shown_23 (by decide) (fun h => ?_) (fun h => ?_)
      · refine qx_iconst (pc := 30) 0 dX9_shown_30 (by decide) ?_
        refine qx_iadd (pc := 31) dX9_shown_31 ?_
        refine qx_istore_n (pc := 32) (lv' := [(1, .int (x1 + 0)), (0, .ref (a 0)), (2, .int x2)]) dX9_shown_32 (Nat.le_of_ble_eq_true rfl) rfl ?_
        refine qx_iinc (pc := 33) (lv' := [(2, .int (x2 + 1)), (1, .int (x1 + 0)), (0, .ref (a 0))]) 2 (x2 + 1) dX9_shown_33 rfl rfl (Nat.le_of_ble_eq_true rfl) rfl ?_
        refine qx_goto (pc := 36) 4 dX9_shown_36 (by decide) ?_
        exact qx_sub [2, 1, 0] rfl (ih _ _ _ h)
      · refine qx_iconst (pc := 26) 1 dX9_shown_26 (by decide) ?_
        refine qx_goto (pc := 27) 31 dX9_shown_27 (by decide) ?_
        refine qx_iadd (pc := 31) dX9_shown_31 ?_
        refine qx_istore_n (pc := 32) (lv' := [(1, .int (x1 + 1)), (0, .ref (a 0)), (2, .int x2)]) dX9_shown_32 (Nat.le_of_ble_eq_true rfl) rfl ?_
        refine qx_iinc (pc := 33) (lv' := [(2, .int (x2 + 1)), (1, .int (x1 + 1)), (0, .ref (a 0))]) 2 (x2 + 1) dX9_shown_33 rfl rfl (Nat.le_of_ble_eq_true rfl) rfl ?_
        refine qx_goto (pc := 36) 4 dX9_shown_36 (by decide) ?_
        exact qx_sub [2, 1, 0] rfl (ih _ _ _ h)
set_option maxHeartbeats 4000000 in
set_option maxRecDepth 100000 in
theorem qM_shown_ok {σ : QS} {r : Int32} (h : qM_shown σ = some r) : qx_E (qx_gM l D ci a) 1 mX9_shown (some (.int r), σ) 0 [(0, .ref (a 0))] [] σ := by
  unfold qM_shown at h
  refine qx_iconst (pc := 0) 0 dX9_shown_0 (by decide) ?_
  refine qx_istore_n (pc := 1) (lv' := [(1, .int 0), (0, .ref (a 0))]) dX9_shown_1 (Nat.le_of_ble_eq_true rfl) rfl ?_
  refine qx_iconst (pc := 2) 0 dX9_shown_2 (by decide) ?_
  refine qx_istore_n (pc := 3) (lv' := [(2, .int 0), (1, .int 0), (0, .ref (a 0))]) dX9_shown_3 (Nat.le_of_ble_eq_true rfl) rfl ?_
  exact qx_sub [2, 1, 0] rfl (qM_shown_L4_ok qx_F _ _ _ h)
set_option maxHeartbeats 4000000 in
set_option maxRecDepth 100000 in
theorem qM_orders_L11_ok {x2 : Int32} {k5 : QS → Int32 → Int32 → Option (QS)} (hk5 : ∀ (σ : QS) (x1 : Int32) (x2 : Int32) (r : QS), k5 σ x1 x2 = some r → qx_E (qx_gM l D ci a) 1 mX9_orders (none, r) 5 [(0, .ref (a 0)), (1, .int x1), (2, .int x2)] [] σ) : ∀ (n : Nat) (σ : QS) (x1 : Int32) (x3 : Int32) (r : QS), qM_orders_L11 x2 k5 n σ x1 x3 = some r → qx_E (qx_gM l D ci a) 1 mX9_orders (none, r) 11 [(0, .ref (a 0)), (1, .int x1), (2, .int x2), (3, .int x3)] [] σ := by
  intro n
  induction n with
  | zero =>
    intro σ x1 x3 r h
    exact (qx_none h).elim
  | succ n ih =>
    intro σ x1 x3 r h
    unfold qM_orders_L11 at h
    refine qx_iload_n (pc := 11) 3 dX9_orders_11 rfl ?_
    refine qx_aload_n (pc := 12) 0 dX9_orders_12 rfl ?_
    refine qgM0_1 (pc := 13) qwf_X9_48 dX9_orders_13 ?_
    refine qx_icmp_ge (pc := 16) 48 h dX9_orders_16 (by decide) (fun h => ?_) (fun h => ?_)
    · refine qx_iinc (pc := 48) (lv' := [(2, .int (x2 + (-1))), (0, .ref (a 0)), (1, .int x1), (3, .int x3)]) 2 (x2 + (-1)) dX9_orders_48 rfl rfl (Nat.le_of_ble_eq_true rfl) rfl ?_
      refine qx_goto (pc := 51) 5 dX9_orders_51 (by decide) ?_
      exact qx_sub [1, 2, 0] rfl (hk5 _ _ _ _ h)
    · refine qx_aload_n (pc := 19) 0 dX9_orders_19 rfl ?_
      refine qgM0_0 (pc := 20) qwf_X9_7 dX9_orders_20 ?_
      refine qx_bipush (pc := 23) 80 dX9_orders_23 (by decide) ?_
      refine qx_iload_n (pc := 25) 3 dX9_orders_25 rfl ?_
      refine qx_iadd (pc := 26) dX9_orders_26 ?_
      refine qlM1 (pc := 27) h dX9_orders_27 (fun h => ?_)
      refine qx_iload_n (pc := 28) 2 dX9_orders_28 rfl ?_
      refine qx_icmp_ne (pc := 29) 42 h dX9_orders_29 (by decide) (fun h => ?_) (fun h => ?_)
      · refine qx_iinc (pc := 42) (lv' := [(3, .int (x3 + 1)), (0, .ref (a 0)), (1, .int x1), (2, .int x2)]) 3 (x3 + 1) dX9_orders_42 rfl rfl (Nat.le_of_ble_eq_true rfl) rfl ?_
        refine qx_goto (pc := 45) 11 dX9_orders_45 (by decide) ?_
        exact qx_sub [1, 2, 3, 0] rfl (ih _ _ _ _ h)
      · refine qx_aload_n (pc := 32) 0 dX9_orders_32 rfl ?_
        refine qgM0_7 (pc := 33) qwf_X9_24 dX9_orders_33 ?_
        refine qx_iload_n (pc := 36) 1 dX9_orders_36 rfl ?_
        refine qx_iload_n (pc := 37) 3 dX9_orders_37 rfl ?_
        refine qsM3 (pc := 38) h dX9_orders_38 (fun h => ?_)
        refine qx_iinc (pc := 39) (lv' := [(1, .int (x1 + 1)), (0, .ref (a 0)), (2, .int x2), (3, .int x3)]) 1 (x1 + 1) dX9_orders_39 rfl rfl (Nat.le_of_ble_eq_true rfl) rfl ?_
        refine qx_iinc (pc := 42) (lv' := [(3, .int (x3 + 1)), (1, .int (x1 + 1)), (0, .ref (a 0)), (2, .int x2)]) 3 (x3 + 1) dX9_orders_42 rfl rfl (Nat.le_of_ble_eq_true rfl) rfl ?_
        refine qx_goto (pc := 45) 11 dX9_orders_45 (by decide) ?_
        exact qx_sub [2, 1, 3, 0] rfl (ih _ _ _ _ h)
set_option maxHeartbeats 4000000 in
set_option maxRecDepth 100000 in
theorem qM_orders_L5_ok : ∀ (n : Nat) (σ : QS) (x1 : Int32) (x2 : Int32) (r : QS), qM_orders_L5 n σ x1 x2 = some r → qx_E (qx_gM l D ci a) 1 mX9_orders (none, r) 5 [(0, .ref (a 0)), (1, .int x1), (2, .int x2)] [] σ := by
  intro n
  induction n with
  | zero =>
    intro σ x1 x2 r h
    exact (qx_none h).elim
  | succ n ih =>
    intro σ x1 x2 r h
    unfold qM_orders_L5 at h
    refine qx_iload_n (pc := 5) 2 dX9_orders_5 rfl ?_
    refine qx_if_le (pc := 6) 54 h dX9_orders_6 (by decide) (fun h => ?_) (fun h => ?_)
    · exact qx_vret h rfl dX9_orders_54
    · refine qx_iconst (pc := 9) 0 dX9_orders_9 (by decide) ?_
      refine qx_istore_n (pc := 10) (lv' := [(3, .int 0), (0, .ref (a 0)), (1, .int x1), (2, .int x2)]) dX9_orders_10 (Nat.le_of_ble_eq_true rfl) rfl ?_
      exact qx_sub [1, 2, 3, 0] rfl (qM_orders_L11_ok ih qx_F _ _ _ _ h)
set_option maxHeartbeats 4000000 in
set_option maxRecDepth 100000 in
theorem qM_orders_ok {σ : QS} {r : QS} (h : qM_orders σ = some r) : qx_E (qx_gM l D ci a) 1 mX9_orders (none, r) 0 [(0, .ref (a 0))] [] σ := by
  unfold qM_orders at h
  refine qx_iconst (pc := 0) 0 dX9_orders_0 (by decide) ?_
  refine qx_istore_n (pc := 1) (lv' := [(1, .int 0), (0, .ref (a 0))]) dX9_orders_1 (Nat.le_of_ble_eq_true rfl) rfl ?_
  refine qx_bipush (pc := 2) 9 dX9_orders_2 (by decide) ?_
  refine qx_istore_n (pc := 4) (lv' := [(2, .int 9), (1, .int 0), (0, .ref (a 0))]) dX9_orders_4 (Nat.le_of_ble_eq_true rfl) rfl ?_
  exact qx_sub [2, 1, 0] rfl (qM_orders_L5_ok qx_F _ _ _ _ h)
set_option maxHeartbeats 4000000 in
set_option maxRecDepth 100000 in
theorem qM_isProperty_ok {σ : QS} {x0 : Int32} {x1 : Int32} {r : Int32} (h : qM_isProperty σ x0 x1 = some r) : qx_E (qx_gM l D ci a) 2 mX9_isProperty (some (.int r), σ) 0 [(0, .int x0), (1, .int x1)] [] σ := by
  unfold qM_isProperty at h
  refine qx_iload_n (pc := 0) 0 dX9_isProperty_0 rfl ?_
  rcases qx_ite h with ⟨hc2, h⟩ | ⟨hc2, h⟩
  · refine qx_tsIn (pc := 1) 32 2 hc2 dX9_isProperty_1 (by decide) (by decide) rfl (by decide) ?_
    refine qx_iload_n (pc := 32) 1 dX9_isProperty_32 rfl ?_
    refine qx_i2l (pc := 33) dX9_isProperty_33 ?_
    refine qx_lconst (pc := 34) 1 dX9_isProperty_34 (by decide) ?_
    refine qx_ldc2 (pc := 35) 20 dX9_isProperty_35 qwc_X9_86 ?_
    obtain ⟨r1, hr1, h⟩ := qx_bindE h
    refine qx_callSi (pc := 38) r1 σ [.long (x1.toInt64), .long 1, .long 20] [] rfl qcm_X9_in qcs_X9_in qwm_X9_51 rfl (Nat.le_of_ble_eq_true rfl) (Nat.le_of_ble_eq_true rfl) (by decide) dX9_isProperty_38 (qM_in_ok hr1) ?_
    exact qx_nret h rfl rfl dX9_isProperty_41
  rcases qx_ite h with ⟨hc3, h⟩ | ⟨hc3, h⟩
  · refine qx_tsIn (pc := 1) 42 3 hc3 dX9_isProperty_1 (by decide) (by decide) rfl (by decide) ?_
    refine qx_iload_n (pc := 42) 1 dX9_isProperty_42 rfl ?_
    refine qx_i2l (pc := 43) dX9_isProperty_43 ?_
    refine qx_lconst (pc := 44) 1 dX9_isProperty_44 (by decide) ?_
    refine qx_ldc2 (pc := 45) 6 dX9_isProperty_45 qwc_X9_88 ?_
    obtain ⟨r2, hr2, h⟩ := qx_bindE h
    refine qx_callSi (pc := 48) r2 σ [.long (x1.toInt64), .long 1, .long 6] [] rfl qcm_X9_in qcs_X9_in qwm_X9_51 rfl (Nat.le_of_ble_eq_true rfl) (Nat.le_of_ble_eq_true rfl) (by decide) dX9_isProperty_48 (qM_in_ok hr2) ?_
    exact qx_nret h rfl rfl dX9_isProperty_51
  rcases qx_ite h with ⟨hc4, h⟩ | ⟨hc4, h⟩
  · refine qx_tsIn (pc := 1) 52 4 hc4 dX9_isProperty_1 (by decide) (by decide) rfl (by decide) ?_
    refine qx_iload_n (pc := 52) 1 dX9_isProperty_52 rfl ?_
    refine qx_i2l (pc := 53) dX9_isProperty_53 ?_
    refine qx_lconst (pc := 54) 1 dX9_isProperty_54 (by decide) ?_
    refine qx_ldc2 (pc := 55) 9 dX9_isProperty_55 qwc_X9_90 ?_
    obtain ⟨r3, hr3, h⟩ := qx_bindE h
    refine qx_callSi (pc := 58) r3 σ [.long (x1.toInt64), .long 1, .long 9] [] rfl qcm_X9_in qcs_X9_in qwm_X9_51 rfl (Nat.le_of_ble_eq_true rfl) (Nat.le_of_ble_eq_true rfl) (by decide) dX9_isProperty_58 (qM_in_ok hr3) ?_
    exact qx_nret h rfl rfl dX9_isProperty_61
  rcases qx_ite h with ⟨hc5, h⟩ | ⟨hc5, h⟩
  · refine qx_tsIn (pc := 1) 62 5 hc5 dX9_isProperty_1 (by decide) (by decide) rfl (by decide) ?_
    refine qx_iload_n (pc := 62) 1 dX9_isProperty_62 rfl ?_
    refine qx_i2l (pc := 63) dX9_isProperty_63 ?_
    refine qx_lconst (pc := 64) 1 dX9_isProperty_64 (by decide) ?_
    refine qx_ldc2 (pc := 65) 255 dX9_isProperty_65 qwc_X9_92 ?_
    obtain ⟨r4, hr4, h⟩ := qx_bindE h
    refine qx_callSi (pc := 68) r4 σ [.long (x1.toInt64), .long 1, .long 255] [] rfl qcm_X9_in qcs_X9_in qwm_X9_51 rfl (Nat.le_of_ble_eq_true rfl) (Nat.le_of_ble_eq_true rfl) (by decide) dX9_isProperty_68 (qM_in_ok hr4) ?_
    exact qx_nret h rfl rfl dX9_isProperty_71
  have ht2 := lv_neT (a := 2) hc2 rfl
  have ht3 := lv_neT (a := 3) hc3 rfl
  have ht4 := lv_neT (a := 4) hc4 rfl
  have ht5 := lv_neT (a := 5) hc5 rfl
  refine qx_tsOut (pc := 1) 72 dX9_isProperty_1 (by omega) (by decide) ?_
  refine qx_iconst (pc := 72) 0 dX9_isProperty_72 (by decide) ?_
  exact qx_nret h rfl rfl dX9_isProperty_73
end
