section
variable {l : Launch} {D : va_G} {ci : Nat → ClassId} {a z : Nat → Nat}
theorem dX3_clashingPairs_0 : decode cX3_clashingPairs 0 = .ok (.iconst 0, 1) := by decide +kernel
theorem dX3_clashingPairs_1 : decode cX3_clashingPairs 1 = .ok (.istore_n 1, 1) := by decide +kernel
theorem dX3_clashingPairs_2 : decode cX3_clashingPairs 2 = .ok (.iconst 0, 1) := by decide +kernel
theorem dX3_clashingPairs_3 : decode cX3_clashingPairs 3 = .ok (.istore_n 2, 1) := by decide +kernel
theorem dX3_clashingPairs_4 : decode cX3_clashingPairs 4 = .ok (.iload_n 2, 1) := by decide +kernel
theorem dX3_clashingPairs_5 : decode cX3_clashingPairs 5 = .ok (.aload_n 0, 1) := by decide +kernel
theorem dX3_clashingPairs_6 : decode cX3_clashingPairs 6 = .ok (.getfield 9, 3) := by decide +kernel
theorem dX3_clashingPairs_9 : decode cX3_clashingPairs 9 = .ok (.getfield 36, 3) := by decide +kernel
theorem dX3_clashingPairs_12 : decode cX3_clashingPairs 12 = .ok (.if_icmp .ge 42, 3) := by decide +kernel
theorem dX3_clashingPairs_15 : decode cX3_clashingPairs 15 = .ok (.iconst 0, 1) := by decide +kernel
theorem dX3_clashingPairs_16 : decode cX3_clashingPairs 16 = .ok (.istore_n 3, 1) := by decide +kernel
theorem dX3_clashingPairs_17 : decode cX3_clashingPairs 17 = .ok (.iload_n 3, 1) := by decide +kernel
theorem dX3_clashingPairs_18 : decode cX3_clashingPairs 18 = .ok (.bipush 8, 2) := by decide +kernel
theorem dX3_clashingPairs_20 : decode cX3_clashingPairs 20 = .ok (.if_icmp .ge 28, 3) := by decide +kernel
theorem dX3_clashingPairs_23 : decode cX3_clashingPairs 23 = .ok (.aload_n 0, 1) := by decide +kernel
theorem dX3_clashingPairs_24 : decode cX3_clashingPairs 24 = .ok (.iload_n 2, 1) := by decide +kernel
theorem dX3_clashingPairs_25 : decode cX3_clashingPairs 25 = .ok (.iload_n 3, 1) := by decide +kernel
theorem dX3_clashingPairs_26 : decode cX3_clashingPairs 26 = .ok (.invokevirtual 75, 3) := by decide +kernel
theorem dX3_clashingPairs_29 : decode cX3_clashingPairs 29 = .ok (.ifCond .eq 13, 3) := by decide +kernel
theorem dX3_clashingPairs_32 : decode cX3_clashingPairs 32 = .ok (.iload_n 1, 1) := by decide +kernel
theorem dX3_clashingPairs_33 : decode cX3_clashingPairs 33 = .ok (.aload_n 0, 1) := by decide +kernel
theorem dX3_clashingPairs_34 : decode cX3_clashingPairs 34 = .ok (.iload_n 2, 1) := by decide +kernel
theorem dX3_clashingPairs_35 : decode cX3_clashingPairs 35 = .ok (.iload_n 3, 1) := by decide +kernel
theorem dX3_clashingPairs_36 : decode cX3_clashingPairs 36 = .ok (.iload_n 2, 1) := by decide +kernel
theorem dX3_clashingPairs_37 : decode cX3_clashingPairs 37 = .ok (.invokevirtual 82, 3) := by decide +kernel
theorem dX3_clashingPairs_40 : decode cX3_clashingPairs 40 = .ok (.iadd, 1) := by decide +kernel
theorem dX3_clashingPairs_41 : decode cX3_clashingPairs 41 = .ok (.istore_n 1, 1) := by decide +kernel
theorem dX3_clashingPairs_42 : decode cX3_clashingPairs 42 = .ok (.iinc 3 1, 3) := by decide +kernel
theorem dX3_clashingPairs_45 : decode cX3_clashingPairs 45 = .ok (.goto (-28), 3) := by decide +kernel
theorem dX3_clashingPairs_48 : decode cX3_clashingPairs 48 = .ok (.iinc 2 1, 3) := by decide +kernel
theorem dX3_clashingPairs_51 : decode cX3_clashingPairs 51 = .ok (.goto (-47), 3) := by decide +kernel
theorem dX3_clashingPairs_54 : decode cX3_clashingPairs 54 = .ok (.iload_n 1, 1) := by decide +kernel
theorem dX3_clashingPairs_55 : decode cX3_clashingPairs 55 = .ok (.ireturn, 1) := by decide +kernel
theorem dX4_allows_0 : decode cX4_allows 0 = .ok (.iload_n 0, 1) := by decide +kernel
theorem dX4_allows_1 : decode cX4_allows 1 = .ok (.ifCond .lt 31, 3) := by decide +kernel
theorem dX4_allows_4 : decode cX4_allows 4 = .ok (.iload_n 0, 1) := by decide +kernel
theorem dX4_allows_5 : decode cX4_allows 5 = .ok (.bipush 6, 2) := by decide +kernel
theorem dX4_allows_7 : decode cX4_allows 7 = .ok (.if_icmp .ge 25, 3) := by decide +kernel
theorem dX4_allows_10 : decode cX4_allows 10 = .ok (.iload_n 1, 1) := by decide +kernel
theorem dX4_allows_11 : decode cX4_allows 11 = .ok (.getstatic 22, 3) := by decide +kernel
theorem dX4_allows_14 : decode cX4_allows 14 = .ok (.iload_n 0, 1) := by decide +kernel
theorem dX4_allows_15 : decode cX4_allows 15 = .ok (.iaload, 1) := by decide +kernel
theorem dX4_allows_16 : decode cX4_allows 16 = .ok (.if_icmp .lt 16, 3) := by decide +kernel
theorem dX4_allows_19 : decode cX4_allows 19 = .ok (.iload_n 1, 1) := by decide +kernel
theorem dX4_allows_20 : decode cX4_allows 20 = .ok (.getstatic 25, 3) := by decide +kernel
theorem dX4_allows_23 : decode cX4_allows 23 = .ok (.iload_n 0, 1) := by decide +kernel
theorem dX4_allows_24 : decode cX4_allows 24 = .ok (.iaload, 1) := by decide +kernel
theorem dX4_allows_25 : decode cX4_allows 25 = .ok (.if_icmp .gt 7, 3) := by decide +kernel
theorem dX4_allows_28 : decode cX4_allows 28 = .ok (.iconst 1, 1) := by decide +kernel
theorem dX4_allows_29 : decode cX4_allows 29 = .ok (.goto 4, 3) := by decide +kernel
theorem dX4_allows_32 : decode cX4_allows 32 = .ok (.iconst 0, 1) := by decide +kernel
theorem dX4_allows_33 : decode cX4_allows 33 = .ok (.ireturn, 1) := by decide +kernel
theorem dX4_has_0 : decode cX4_has 0 = .ok (.iload_n 1, 1) := by decide +kernel
theorem dX4_has_1 : decode cX4_has 1 = .ok (.ifCond .lt 15, 3) := by decide +kernel
theorem dX4_has_4 : decode cX4_has 4 = .ok (.iload_n 1, 1) := by decide +kernel
theorem dX4_has_5 : decode cX4_has 5 = .ok (.aload_n 0, 1) := by decide +kernel
theorem dX4_has_6 : decode cX4_has 6 = .ok (.getfield 9, 3) := by decide +kernel
theorem dX4_has_9 : decode cX4_has 9 = .ok (.if_icmp .ge 7, 3) := by decide +kernel
theorem dX4_has_12 : decode cX4_has 12 = .ok (.iconst 1, 1) := by decide +kernel
theorem dX4_has_13 : decode cX4_has 13 = .ok (.goto 4, 3) := by decide +kernel
theorem dX4_has_16 : decode cX4_has 16 = .ok (.iconst 0, 1) := by decide +kernel
theorem dX4_has_17 : decode cX4_has 17 = .ok (.ireturn, 1) := by decide +kernel
theorem dX4_put_0 : decode cX4_put 0 = .ok (.aload_n 0, 1) := by decide +kernel
theorem dX4_put_1 : decode cX4_put 1 = .ok (.getfield 15, 3) := by decide +kernel
theorem dX4_put_4 : decode cX4_put 4 = .ok (.iload_n 1, 1) := by decide +kernel
theorem dX4_put_5 : decode cX4_put 5 = .ok (.bipush 6, 2) := by decide +kernel
theorem dX4_put_7 : decode cX4_put 7 = .ok (.imul, 1) := by decide +kernel
theorem dX4_put_8 : decode cX4_put 8 = .ok (.iload_n 2, 1) := by decide +kernel
theorem dX4_put_9 : decode cX4_put 9 = .ok (.iadd, 1) := by decide +kernel
theorem dX4_put_10 : decode cX4_put 10 = .ok (.iload_n 3, 1) := by decide +kernel
theorem dX4_put_11 : decode cX4_put 11 = .ok (.iastore, 1) := by decide +kernel
theorem dX4_put_12 : decode cX4_put 12 = .ok (.return_, 1) := by decide +kernel
theorem dX4_append_0 : decode cX4_append 0 = .ok (.aload_n 0, 1) := by decide +kernel
theorem dX4_append_1 : decode cX4_append 1 = .ok (.getfield 9, 3) := by decide +kernel
theorem dX4_append_4 : decode cX4_append 4 = .ok (.istore_n 3, 1) := by decide +kernel
theorem dX4_append_5 : decode cX4_append 5 = .ok (.aload_n 0, 1) := by decide +kernel
theorem dX4_append_6 : decode cX4_append 6 = .ok (.dup, 1) := by decide +kernel
theorem dX4_append_7 : decode cX4_append 7 = .ok (.getfield 9, 3) := by decide +kernel
theorem dX4_append_10 : decode cX4_append 10 = .ok (.iconst 1, 1) := by decide +kernel
theorem dX4_append_11 : decode cX4_append 11 = .ok (.iadd, 1) := by decide +kernel
theorem dX4_append_12 : decode cX4_append 12 = .ok (.putfield 9, 3) := by decide +kernel
theorem dX4_append_15 : decode cX4_append 15 = .ok (.aload_n 0, 1) := by decide +kernel
theorem dX4_append_16 : decode cX4_append 16 = .ok (.iload_n 3, 1) := by decide +kernel
theorem dX4_append_17 : decode cX4_append 17 = .ok (.iconst 0, 1) := by decide +kernel
theorem dX4_append_18 : decode cX4_append 18 = .ok (.iload_n 1, 1) := by decide +kernel
theorem dX4_append_19 : decode cX4_append 19 = .ok (.invokevirtual 28, 3) := by decide +kernel
theorem dX4_append_22 : decode cX4_append 22 = .ok (.aload_n 0, 1) := by decide +kernel
theorem dX4_append_23 : decode cX4_append 23 = .ok (.iload_n 3, 1) := by decide +kernel
theorem dX4_append_24 : decode cX4_append 24 = .ok (.iconst 1, 1) := by decide +kernel
theorem dX4_append_25 : decode cX4_append 25 = .ok (.iload_n 2, 1) := by decide +kernel
theorem dX4_append_26 : decode cX4_append 26 = .ok (.invokevirtual 28, 3) := by decide +kernel
theorem dX4_append_29 : decode cX4_append 29 = .ok (.iload_n 3, 1) := by decide +kernel
theorem dX4_append_30 : decode cX4_append 30 = .ok (.ireturn, 1) := by decide +kernel
theorem dX4_closeGap_0 : decode cX4_closeGap 0 = .ok (.iload_n 1, 1) := by decide +kernel
theorem dX4_closeGap_1 : decode cX4_closeGap 1 = .ok (.iconst 1, 1) := by decide +kernel
theorem dX4_closeGap_2 : decode cX4_closeGap 2 = .ok (.iadd, 1) := by decide +kernel
theorem dX4_closeGap_3 : decode cX4_closeGap 3 = .ok (.bipush 6, 2) := by decide +kernel
theorem dX4_closeGap_5 : decode cX4_closeGap 5 = .ok (.imul, 1) := by decide +kernel
theorem dX4_closeGap_6 : decode cX4_closeGap 6 = .ok (.istore_n 2, 1) := by decide +kernel
theorem dX4_closeGap_7 : decode cX4_closeGap 7 = .ok (.iload_n 2, 1) := by decide +kernel
theorem dX4_closeGap_8 : decode cX4_closeGap 8 = .ok (.aload_n 0, 1) := by decide +kernel
theorem dX4_closeGap_9 : decode cX4_closeGap 9 = .ok (.getfield 9, 3) := by decide +kernel
theorem dX4_closeGap_12 : decode cX4_closeGap 12 = .ok (.bipush 6, 2) := by decide +kernel
theorem dX4_closeGap_14 : decode cX4_closeGap 14 = .ok (.imul, 1) := by decide +kernel
theorem dX4_closeGap_15 : decode cX4_closeGap 15 = .ok (.if_icmp .ge 24, 3) := by decide +kernel
theorem dX4_closeGap_18 : decode cX4_closeGap 18 = .ok (.aload_n 0, 1) := by decide +kernel
theorem dX4_closeGap_19 : decode cX4_closeGap 19 = .ok (.getfield 15, 3) := by decide +kernel
theorem dX4_closeGap_22 : decode cX4_closeGap 22 = .ok (.iload_n 2, 1) := by decide +kernel
theorem dX4_closeGap_23 : decode cX4_closeGap 23 = .ok (.bipush 6, 2) := by decide +kernel
theorem dX4_closeGap_25 : decode cX4_closeGap 25 = .ok (.isub, 1) := by decide +kernel
theorem dX4_closeGap_26 : decode cX4_closeGap 26 = .ok (.aload_n 0, 1) := by decide +kernel
theorem dX4_closeGap_27 : decode cX4_closeGap 27 = .ok (.getfield 15, 3) := by decide +kernel
theorem dX4_closeGap_30 : decode cX4_closeGap 30 = .ok (.iload_n 2, 1) := by decide +kernel
theorem dX4_closeGap_31 : decode cX4_closeGap 31 = .ok (.iaload, 1) := by decide +kernel
theorem dX4_closeGap_32 : decode cX4_closeGap 32 = .ok (.iastore, 1) := by decide +kernel
theorem dX4_closeGap_33 : decode cX4_closeGap 33 = .ok (.iinc 2 1, 3) := by decide +kernel
theorem dX4_closeGap_36 : decode cX4_closeGap 36 = .ok (.goto (-29), 3) := by decide +kernel
theorem dX4_closeGap_39 : decode cX4_closeGap 39 = .ok (.aload_n 0, 1) := by decide +kernel
theorem dX4_closeGap_40 : decode cX4_closeGap 40 = .ok (.dup, 1) := by decide +kernel
theorem dX4_closeGap_41 : decode cX4_closeGap 41 = .ok (.getfield 9, 3) := by decide +kernel
theorem dX4_closeGap_44 : decode cX4_closeGap 44 = .ok (.iconst 1, 1) := by decide +kernel
theorem dX4_closeGap_45 : decode cX4_closeGap 45 = .ok (.isub, 1) := by decide +kernel
theorem dX4_closeGap_46 : decode cX4_closeGap 46 = .ok (.putfield 9, 3) := by decide +kernel
theorem dX4_closeGap_49 : decode cX4_closeGap 49 = .ok (.return_, 1) := by decide +kernel
theorem dX4_isAt_0 : decode cX4_isAt 0 = .ok (.aload_n 0, 1) := by decide +kernel
theorem dX4_isAt_1 : decode cX4_isAt 1 = .ok (.iload_n 1, 1) := by decide +kernel
theorem dX4_isAt_2 : decode cX4_isAt 2 = .ok (.iload_n 2, 1) := by decide +kernel
theorem dX4_isAt_3 : decode cX4_isAt 3 = .ok (.iconst 1, 1) := by decide +kernel
theorem dX4_isAt_4 : decode cX4_isAt 4 = .ok (.iconst 1, 1) := by decide +kernel
theorem dX4_isAt_5 : decode cX4_isAt 5 = .ok (.invokevirtual 32, 3) := by decide +kernel
theorem dX4_isAt_8 : decode cX4_isAt 8 = .ok (.ireturn, 1) := by decide +kernel
theorem dX4_putInOrder_0 : decode cX4_putInOrder 0 = .ok (.iconst 0, 1) := by decide +kernel
theorem dX4_putInOrder_1 : decode cX4_putInOrder 1 = .ok (.istore_n 1, 1) := by decide +kernel
theorem dX4_putInOrder_2 : decode cX4_putInOrder 2 = .ok (.getstatic 25, 3) := by decide +kernel
theorem dX4_putInOrder_5 : decode cX4_putInOrder 5 = .ok (.iconst 4, 1) := by decide +kernel
theorem dX4_putInOrder_6 : decode cX4_putInOrder 6 = .ok (.iaload, 1) := by decide +kernel
theorem dX4_putInOrder_7 : decode cX4_putInOrder 7 = .ok (.istore_n 2, 1) := by decide +kernel
theorem dX4_putInOrder_8 : decode cX4_putInOrder 8 = .ok (.iload_n 2, 1) := by decide +kernel
theorem dX4_putInOrder_9 : decode cX4_putInOrder 9 = .ok (.getstatic 22, 3) := by decide +kernel
theorem dX4_putInOrder_12 : decode cX4_putInOrder 12 = .ok (.iconst 4, 1) := by decide +kernel
theorem dX4_putInOrder_13 : decode cX4_putInOrder 13 = .ok (.iaload, 1) := by decide +kernel
theorem dX4_putInOrder_14 : decode cX4_putInOrder 14 = .ok (.if_icmp .lt 51, 3) := by decide +kernel
theorem dX4_putInOrder_17 : decode cX4_putInOrder 17 = .ok (.iconst 0, 1) := by decide +kernel
theorem dX4_putInOrder_18 : decode cX4_putInOrder 18 = .ok (.istore_n 3, 1) := by decide +kernel
theorem dX4_putInOrder_19 : decode cX4_putInOrder 19 = .ok (.iload_n 3, 1) := by decide +kernel
theorem dX4_putInOrder_20 : decode cX4_putInOrder 20 = .ok (.aload_n 0, 1) := by decide +kernel
theorem dX4_putInOrder_21 : decode cX4_putInOrder 21 = .ok (.getfield 9, 3) := by decide +kernel
theorem dX4_putInOrder_24 : decode cX4_putInOrder 24 = .ok (.if_icmp .ge 35, 3) := by decide +kernel
theorem dX4_putInOrder_27 : decode cX4_putInOrder 27 = .ok (.aload_n 0, 1) := by decide +kernel
theorem dX4_putInOrder_28 : decode cX4_putInOrder 28 = .ok (.iload_n 3, 1) := by decide +kernel
theorem dX4_putInOrder_29 : decode cX4_putInOrder 29 = .ok (.iconst 4, 1) := by decide +kernel
theorem dX4_putInOrder_30 : decode cX4_putInOrder 30 = .ok (.invokevirtual 36, 3) := by decide +kernel
theorem dX4_putInOrder_33 : decode cX4_putInOrder 33 = .ok (.iload_n 2, 1) := by decide +kernel
theorem dX4_putInOrder_34 : decode cX4_putInOrder 34 = .ok (.if_icmp .ne 19, 3) := by decide +kernel
theorem dX4_putInOrder_37 : decode cX4_putInOrder 37 = .ok (.iload_n 1, 1) := by decide +kernel
theorem dX4_putInOrder_38 : decode cX4_putInOrder 38 = .ok (.bipush 20, 2) := by decide +kernel
theorem dX4_putInOrder_40 : decode cX4_putInOrder 40 = .ok (.if_icmp .ge 13, 3) := by decide +kernel
theorem dX4_putInOrder_43 : decode cX4_putInOrder 43 = .ok (.aload_n 0, 1) := by decide +kernel
theorem dX4_putInOrder_44 : decode cX4_putInOrder 44 = .ok (.getfield 19, 3) := by decide +kernel
theorem dX4_putInOrder_47 : decode cX4_putInOrder 47 = .ok (.iload_n 1, 1) := by decide +kernel
theorem dX4_putInOrder_48 : decode cX4_putInOrder 48 = .ok (.iload_n 3, 1) := by decide +kernel
theorem dX4_putInOrder_49 : decode cX4_putInOrder 49 = .ok (.iastore, 1) := by decide +kernel
theorem dX4_putInOrder_50 : decode cX4_putInOrder 50 = .ok (.iinc 1 1, 3) := by decide +kernel
theorem dX4_putInOrder_53 : decode cX4_putInOrder 53 = .ok (.iinc 3 1, 3) := by decide +kernel
theorem dX4_putInOrder_56 : decode cX4_putInOrder 56 = .ok (.goto (-37), 3) := by decide +kernel
theorem dX4_putInOrder_59 : decode cX4_putInOrder 59 = .ok (.iinc 2 (-1), 3) := by decide +kernel
theorem dX4_putInOrder_62 : decode cX4_putInOrder 62 = .ok (.goto (-54), 3) := by decide +kernel
theorem dX4_putInOrder_65 : decode cX4_putInOrder 65 = .ok (.return_, 1) := by decide +kernel
theorem dX5_priorityOf_0 : decode cX5_priorityOf 0 = .ok (.aload_n 0, 1) := by decide +kernel
theorem dX5_priorityOf_1 : decode cX5_priorityOf 1 = .ok (.getfield 9, 3) := by decide +kernel
theorem dX5_priorityOf_4 : decode cX5_priorityOf 4 = .ok (.aload_n 0, 1) := by decide +kernel
theorem dX5_priorityOf_5 : decode cX5_priorityOf 5 = .ok (.getfield 19, 3) := by decide +kernel
theorem dX5_priorityOf_8 : decode cX5_priorityOf 8 = .ok (.iload_n 1, 1) := by decide +kernel
theorem dX5_priorityOf_9 : decode cX5_priorityOf 9 = .ok (.iaload, 1) := by decide +kernel
theorem dX5_priorityOf_10 : decode cX5_priorityOf 10 = .ok (.iconst 4, 1) := by decide +kernel
theorem dX5_priorityOf_11 : decode cX5_priorityOf 11 = .ok (.invokevirtual 80, 3) := by decide +kernel
theorem dX5_priorityOf_14 : decode cX5_priorityOf 14 = .ok (.ireturn, 1) := by decide +kernel
theorem dX5_sumInReach_0 : decode cX5_sumInReach 0 = .ok (.iconst 0, 1) := by decide +kernel
theorem dX5_sumInReach_1 : decode cX5_sumInReach 1 = .ok (.istore 4, 2) := by decide +kernel
theorem dX5_sumInReach_3 : decode cX5_sumInReach 3 = .ok (.iload_n 1, 1) := by decide +kernel
theorem dX5_sumInReach_4 : decode cX5_sumInReach 4 = .ok (.istore 5, 2) := by decide +kernel
theorem dX5_sumInReach_6 : decode cX5_sumInReach 6 = .ok (.iload 5, 2) := by decide +kernel
theorem dX5_sumInReach_8 : decode cX5_sumInReach 8 = .ok (.aload_n 0, 1) := by decide +kernel
theorem dX5_sumInReach_9 : decode cX5_sumInReach 9 = .ok (.getfield 27, 3) := by decide +kernel
theorem dX5_sumInReach_12 : decode cX5_sumInReach 12 = .ok (.if_icmp .ge 36, 3) := by decide +kernel
theorem dX5_sumInReach_15 : decode cX5_sumInReach 15 = .ok (.lload_n 2, 1) := by decide +kernel
theorem dX5_sumInReach_16 : decode cX5_sumInReach 16 = .ok (.iload 5, 2) := by decide +kernel
theorem dX5_sumInReach_18 : decode cX5_sumInReach 18 = .ok (.bipush 8, 2) := by decide +kernel
theorem dX5_sumInReach_20 : decode cX5_sumInReach 20 = .ok (.imul, 1) := by decide +kernel
theorem dX5_sumInReach_21 : decode cX5_sumInReach 21 = .ok (.lushr, 1) := by decide +kernel
theorem dX5_sumInReach_22 : decode cX5_sumInReach 22 = .ok (.ldc2_w 78, 3) := by decide +kernel
theorem dX5_sumInReach_25 : decode cX5_sumInReach 25 = .ok (.land, 1) := by decide +kernel
theorem dX5_sumInReach_26 : decode cX5_sumInReach 26 = .ok (.lconst 0, 1) := by decide +kernel
theorem dX5_sumInReach_27 : decode cX5_sumInReach 27 = .ok (.lcmp, 1) := by decide +kernel
theorem dX5_sumInReach_28 : decode cX5_sumInReach 28 = .ok (.ifCond .eq 14, 3) := by decide +kernel
theorem dX5_sumInReach_31 : decode cX5_sumInReach 31 = .ok (.iload 4, 2) := by decide +kernel
theorem dX5_sumInReach_33 : decode cX5_sumInReach 33 = .ok (.aload_n 0, 1) := by decide +kernel
theorem dX5_sumInReach_34 : decode cX5_sumInReach 34 = .ok (.iload 5, 2) := by decide +kernel
theorem dX5_sumInReach_36 : decode cX5_sumInReach 36 = .ok (.invokevirtual 73, 3) := by decide +kernel
theorem dX5_sumInReach_39 : decode cX5_sumInReach 39 = .ok (.iadd, 1) := by decide +kernel
theorem dX5_sumInReach_40 : decode cX5_sumInReach 40 = .ok (.istore 4, 2) := by decide +kernel
theorem dX5_sumInReach_42 : decode cX5_sumInReach 42 = .ok (.iinc 5 1, 3) := by decide +kernel
theorem dX5_sumInReach_45 : decode cX5_sumInReach 45 = .ok (.goto (-39), 3) := by decide +kernel
theorem dX5_sumInReach_48 : decode cX5_sumInReach 48 = .ok (.iload 4, 2) := by decide +kernel
theorem dX5_sumInReach_50 : decode cX5_sumInReach 50 = .ok (.ireturn, 1) := by decide +kernel
theorem dX5_bestFrom_0 : decode cX5_bestFrom 0 = .ok (.iload 5, 2) := by decide +kernel
theorem dX5_bestFrom_2 : decode cX5_bestFrom 2 = .ok (.iload 4, 2) := by decide +kernel
theorem dX5_bestFrom_4 : decode cX5_bestFrom 4 = .ok (.invokestatic 63, 3) := by decide +kernel
theorem dX5_bestFrom_7 : decode cX5_bestFrom 7 = .ok (.istore 6, 2) := by decide +kernel
theorem dX5_bestFrom_9 : decode cX5_bestFrom 9 = .ok (.iload_n 1, 1) := by decide +kernel
theorem dX5_bestFrom_10 : decode cX5_bestFrom 10 = .ok (.aload_n 0, 1) := by decide +kernel
theorem dX5_bestFrom_11 : decode cX5_bestFrom 11 = .ok (.getfield 27, 3) := by decide +kernel
theorem dX5_bestFrom_14 : decode cX5_bestFrom 14 = .ok (.if_icmp .ge 17, 3) := by decide +kernel
theorem dX5_bestFrom_17 : decode cX5_bestFrom 17 = .ok (.iload 4, 2) := by decide +kernel
theorem dX5_bestFrom_19 : decode cX5_bestFrom 19 = .ok (.aload_n 0, 1) := by decide +kernel
theorem dX5_bestFrom_20 : decode cX5_bestFrom 20 = .ok (.iload_n 1, 1) := by decide +kernel
theorem dX5_bestFrom_21 : decode cX5_bestFrom 21 = .ok (.lload_n 2, 1) := by decide +kernel
theorem dX5_bestFrom_22 : decode cX5_bestFrom 22 = .ok (.invokevirtual 69, 3) := by decide +kernel
theorem dX5_bestFrom_25 : decode cX5_bestFrom 25 = .ok (.iadd, 1) := by decide +kernel
theorem dX5_bestFrom_26 : decode cX5_bestFrom 26 = .ok (.iload 6, 2) := by decide +kernel
theorem dX5_bestFrom_28 : decode cX5_bestFrom 28 = .ok (.if_icmp .gt 6, 3) := by decide +kernel
theorem dX5_bestFrom_31 : decode cX5_bestFrom 31 = .ok (.iload 6, 2) := by decide +kernel
theorem dX5_bestFrom_33 : decode cX5_bestFrom 33 = .ok (.ireturn, 1) := by decide +kernel
theorem dX5_bestFrom_34 : decode cX5_bestFrom 34 = .ok (.iload 4, 2) := by decide +kernel
theorem dX5_bestFrom_36 : decode cX5_bestFrom 36 = .ok (.aload_n 0, 1) := by decide +kernel
theorem dX5_bestFrom_37 : decode cX5_bestFrom 37 = .ok (.iload_n 1, 1) := by decide +kernel
theorem dX5_bestFrom_38 : decode cX5_bestFrom 38 = .ok (.invokevirtual 73, 3) := by decide +kernel
theorem dX5_bestFrom_41 : decode cX5_bestFrom 41 = .ok (.iadd, 1) := by decide +kernel
theorem dX5_bestFrom_42 : decode cX5_bestFrom 42 = .ok (.istore 7, 2) := by decide +kernel
theorem dX5_bestFrom_44 : decode cX5_bestFrom 44 = .ok (.iconst 0, 1) := by decide +kernel
theorem dX5_bestFrom_45 : decode cX5_bestFrom 45 = .ok (.istore 8, 2) := by decide +kernel
theorem dX5_bestFrom_47 : decode cX5_bestFrom 47 = .ok (.iload 8, 2) := by decide +kernel
theorem dX5_bestFrom_49 : decode cX5_bestFrom 49 = .ok (.bipush 8, 2) := by decide +kernel
theorem dX5_bestFrom_51 : decode cX5_bestFrom 51 = .ok (.if_icmp .ge 55, 3) := by decide +kernel
theorem dX5_bestFrom_54 : decode cX5_bestFrom 54 = .ok (.iload_n 1, 1) := by decide +kernel
theorem dX5_bestFrom_55 : decode cX5_bestFrom 55 = .ok (.bipush 8, 2) := by decide +kernel
theorem dX5_bestFrom_57 : decode cX5_bestFrom 57 = .ok (.imul, 1) := by decide +kernel
theorem dX5_bestFrom_58 : decode cX5_bestFrom 58 = .ok (.iload 8, 2) := by decide +kernel
theorem dX5_bestFrom_60 : decode cX5_bestFrom 60 = .ok (.iadd, 1) := by decide +kernel
theorem dX5_bestFrom_61 : decode cX5_bestFrom 61 = .ok (.istore 9, 2) := by decide +kernel
theorem dX5_bestFrom_63 : decode cX5_bestFrom 63 = .ok (.lload_n 2, 1) := by decide +kernel
theorem dX5_bestFrom_64 : decode cX5_bestFrom 64 = .ok (.iload 9, 2) := by decide +kernel
theorem dX5_bestFrom_66 : decode cX5_bestFrom 66 = .ok (.lushr, 1) := by decide +kernel
theorem dX5_bestFrom_67 : decode cX5_bestFrom 67 = .ok (.lconst 1, 1) := by decide +kernel
theorem dX5_bestFrom_68 : decode cX5_bestFrom 68 = .ok (.land, 1) := by decide +kernel
theorem dX5_bestFrom_69 : decode cX5_bestFrom 69 = .ok (.lconst 1, 1) := by decide +kernel
theorem dX5_bestFrom_70 : decode cX5_bestFrom 70 = .ok (.lcmp, 1) := by decide +kernel
theorem dX5_bestFrom_71 : decode cX5_bestFrom 71 = .ok (.ifCond .ne 29, 3) := by decide +kernel
theorem dX5_bestFrom_74 : decode cX5_bestFrom 74 = .ok (.aload_n 0, 1) := by decide +kernel
theorem dX5_bestFrom_75 : decode cX5_bestFrom 75 = .ok (.iload_n 1, 1) := by decide +kernel
theorem dX5_bestFrom_76 : decode cX5_bestFrom 76 = .ok (.iconst 1, 1) := by decide +kernel
theorem dX5_bestFrom_77 : decode cX5_bestFrom 77 = .ok (.iadd, 1) := by decide +kernel
theorem dX5_bestFrom_78 : decode cX5_bestFrom 78 = .ok (.lload_n 2, 1) := by decide +kernel
theorem dX5_bestFrom_79 : decode cX5_bestFrom 79 = .ok (.aload_n 0, 1) := by decide +kernel
theorem dX5_bestFrom_80 : decode cX5_bestFrom 80 = .ok (.getfield 23, 3) := by decide +kernel
theorem dX5_bestFrom_83 : decode cX5_bestFrom 83 = .ok (.iload 9, 2) := by decide +kernel
theorem dX5_bestFrom_85 : decode cX5_bestFrom 85 = .ok (.laload, 1) := by decide +kernel
theorem dX5_bestFrom_86 : decode cX5_bestFrom 86 = .ok (.ldc2_w 76, 3) := by decide +kernel
theorem dX5_bestFrom_89 : decode cX5_bestFrom 89 = .ok (.lxor, 1) := by decide +kernel
theorem dX5_bestFrom_90 : decode cX5_bestFrom 90 = .ok (.land, 1) := by decide +kernel
theorem dX5_bestFrom_91 : decode cX5_bestFrom 91 = .ok (.iload 7, 2) := by decide +kernel
theorem dX5_bestFrom_93 : decode cX5_bestFrom 93 = .ok (.iload 6, 2) := by decide +kernel
theorem dX5_bestFrom_95 : decode cX5_bestFrom 95 = .ok (.invokestatic 45, 3) := by decide +kernel
theorem dX5_bestFrom_98 : decode cX5_bestFrom 98 = .ok (.istore 6, 2) := by decide +kernel
theorem dX5_bestFrom_100 : decode cX5_bestFrom 100 = .ok (.iinc 8 1, 3) := by decide +kernel
theorem dX5_bestFrom_103 : decode cX5_bestFrom 103 = .ok (.goto (-56), 3) := by decide +kernel
theorem dX5_bestFrom_106 : decode cX5_bestFrom 106 = .ok (.aload_n 0, 1) := by decide +kernel
theorem dX5_bestFrom_107 : decode cX5_bestFrom 107 = .ok (.iload_n 1, 1) := by decide +kernel
theorem dX5_bestFrom_108 : decode cX5_bestFrom 108 = .ok (.iconst 1, 1) := by decide +kernel
theorem dX5_bestFrom_109 : decode cX5_bestFrom 109 = .ok (.iadd, 1) := by decide +kernel
theorem dX5_bestFrom_110 : decode cX5_bestFrom 110 = .ok (.lload_n 2, 1) := by decide +kernel
theorem dX5_bestFrom_111 : decode cX5_bestFrom 111 = .ok (.iload 4, 2) := by decide +kernel
theorem dX5_bestFrom_113 : decode cX5_bestFrom 113 = .ok (.iload 6, 2) := by decide +kernel
theorem dX5_bestFrom_115 : decode cX5_bestFrom 115 = .ok (.invokestatic 45, 3) := by decide +kernel
theorem dX5_bestFrom_118 : decode cX5_bestFrom 118 = .ok (.ireturn, 1) := by decide +kernel
theorem dX5_gatherCandidates_0 : decode cX5_gatherCandidates 0 = .ok (.aload_n 0, 1) := by decide +kernel
theorem dX5_gatherCandidates_1 : decode cX5_gatherCandidates 1 = .ok (.iconst 0, 1) := by decide +kernel
theorem dX5_gatherCandidates_2 : decode cX5_gatherCandidates 2 = .ok (.putfield 27, 3) := by decide +kernel
theorem dX5_gatherCandidates_5 : decode cX5_gatherCandidates 5 = .ok (.iconst 0, 1) := by decide +kernel
theorem dX5_gatherCandidates_6 : decode cX5_gatherCandidates 6 = .ok (.istore_n 1, 1) := by decide +kernel
theorem dX5_gatherCandidates_7 : decode cX5_gatherCandidates 7 = .ok (.iload_n 1, 1) := by decide +kernel
theorem dX5_gatherCandidates_8 : decode cX5_gatherCandidates 8 = .ok (.aload_n 0, 1) := by decide +kernel
theorem dX5_gatherCandidates_9 : decode cX5_gatherCandidates 9 = .ok (.getfield 9, 3) := by decide +kernel
theorem dX5_gatherCandidates_12 : decode cX5_gatherCandidates 12 = .ok (.getfield 49, 3) := by decide +kernel
theorem dX5_gatherCandidates_15 : decode cX5_gatherCandidates 15 = .ok (.if_icmp .ge 60, 3) := by decide +kernel
theorem dX5_gatherCandidates_18 : decode cX5_gatherCandidates 18 = .ok (.aload_n 0, 1) := by decide +kernel
theorem dX5_gatherCandidates_19 : decode cX5_gatherCandidates 19 = .ok (.getfield 9, 3) := by decide +kernel
theorem dX5_gatherCandidates_22 : decode cX5_gatherCandidates 22 = .ok (.iload_n 1, 1) := by decide +kernel
theorem dX5_gatherCandidates_23 : decode cX5_gatherCandidates 23 = .ok (.invokevirtual 52, 3) := by decide +kernel
theorem dX5_gatherCandidates_26 : decode cX5_gatherCandidates 26 = .ok (.istore_n 2, 1) := by decide +kernel
theorem dX5_gatherCandidates_27 : decode cX5_gatherCandidates 27 = .ok (.aload_n 0, 1) := by decide +kernel
theorem dX5_gatherCandidates_28 : decode cX5_gatherCandidates 28 = .ok (.getfield 15, 3) := by decide +kernel
theorem dX5_gatherCandidates_31 : decode cX5_gatherCandidates 31 = .ok (.iload_n 2, 1) := by decide +kernel
theorem dX5_gatherCandidates_32 : decode cX5_gatherCandidates 32 = .ok (.invokevirtual 56, 3) := by decide +kernel
theorem dX5_gatherCandidates_35 : decode cX5_gatherCandidates 35 = .ok (.ifCond .le 34, 3) := by decide +kernel
theorem dX5_gatherCandidates_38 : decode cX5_gatherCandidates 38 = .ok (.aload_n 0, 1) := by decide +kernel
theorem dX5_gatherCandidates_39 : decode cX5_gatherCandidates 39 = .ok (.getfield 27, 3) := by decide +kernel
theorem dX5_gatherCandidates_42 : decode cX5_gatherCandidates 42 = .ok (.bipush 6, 2) := by decide +kernel
theorem dX5_gatherCandidates_44 : decode cX5_gatherCandidates 44 = .ok (.if_icmp .lt 5, 3) := by decide +kernel
theorem dX5_gatherCandidates_47 : decode cX5_gatherCandidates 47 = .ok (.iconst 0, 1) := by decide +kernel
theorem dX5_gatherCandidates_48 : decode cX5_gatherCandidates 48 = .ok (.ireturn, 1) := by decide +kernel
theorem dX5_gatherCandidates_49 : decode cX5_gatherCandidates 49 = .ok (.aload_n 0, 1) := by decide +kernel
theorem dX5_gatherCandidates_50 : decode cX5_gatherCandidates 50 = .ok (.getfield 19, 3) := by decide +kernel
theorem dX5_gatherCandidates_53 : decode cX5_gatherCandidates 53 = .ok (.aload_n 0, 1) := by decide +kernel
theorem dX5_gatherCandidates_54 : decode cX5_gatherCandidates 54 = .ok (.getfield 27, 3) := by decide +kernel
theorem dX5_gatherCandidates_57 : decode cX5_gatherCandidates 57 = .ok (.iload_n 2, 1) := by decide +kernel
theorem dX5_gatherCandidates_58 : decode cX5_gatherCandidates 58 = .ok (.iastore, 1) := by decide +kernel
theorem dX5_gatherCandidates_59 : decode cX5_gatherCandidates 59 = .ok (.aload_n 0, 1) := by decide +kernel
theorem dX5_gatherCandidates_60 : decode cX5_gatherCandidates 60 = .ok (.dup, 1) := by decide +kernel
theorem dX5_gatherCandidates_61 : decode cX5_gatherCandidates 61 = .ok (.getfield 27, 3) := by decide +kernel
theorem dX5_gatherCandidates_64 : decode cX5_gatherCandidates 64 = .ok (.iconst 1, 1) := by decide +kernel
theorem dX5_gatherCandidates_65 : decode cX5_gatherCandidates 65 = .ok (.iadd, 1) := by decide +kernel
theorem dX5_gatherCandidates_66 : decode cX5_gatherCandidates 66 = .ok (.putfield 27, 3) := by decide +kernel
theorem dX5_gatherCandidates_69 : decode cX5_gatherCandidates 69 = .ok (.iinc 1 1, 3) := by decide +kernel
theorem dX5_gatherCandidates_72 : decode cX5_gatherCandidates 72 = .ok (.goto (-65), 3) := by decide +kernel
theorem dX5_gatherCandidates_75 : decode cX5_gatherCandidates 75 = .ok (.iconst 1, 1) := by decide +kernel
theorem dX5_gatherCandidates_76 : decode cX5_gatherCandidates 76 = .ok (.ireturn, 1) := by decide +kernel
theorem dX5_maskOfClashes_0 : decode cX5_maskOfClashes 0 = .ok (.lconst 0, 1) := by decide +kernel
theorem dX5_maskOfClashes_1 : decode cX5_maskOfClashes 1 = .ok (.lstore_n 3, 1) := by decide +kernel
theorem dX5_maskOfClashes_2 : decode cX5_maskOfClashes 2 = .ok (.iconst 0, 1) := by decide +kernel
theorem dX5_maskOfClashes_3 : decode cX5_maskOfClashes 3 = .ok (.istore 5, 2) := by decide +kernel
theorem dX5_maskOfClashes_5 : decode cX5_maskOfClashes 5 = .ok (.iload 5, 2) := by decide +kernel
theorem dX5_maskOfClashes_7 : decode cX5_maskOfClashes 7 = .ok (.aload_n 0, 1) := by decide +kernel
theorem dX5_maskOfClashes_8 : decode cX5_maskOfClashes 8 = .ok (.getfield 27, 3) := by decide +kernel
theorem dX5_maskOfClashes_11 : decode cX5_maskOfClashes 11 = .ok (.if_icmp .ge 59, 3) := by decide +kernel
theorem dX5_maskOfClashes_14 : decode cX5_maskOfClashes 14 = .ok (.iconst 0, 1) := by decide +kernel
theorem dX5_maskOfClashes_15 : decode cX5_maskOfClashes 15 = .ok (.istore 6, 2) := by decide +kernel
theorem dX5_maskOfClashes_17 : decode cX5_maskOfClashes 17 = .ok (.iload 6, 2) := by decide +kernel
theorem dX5_maskOfClashes_19 : decode cX5_maskOfClashes 19 = .ok (.bipush 8, 2) := by decide +kernel
theorem dX5_maskOfClashes_21 : decode cX5_maskOfClashes 21 = .ok (.if_icmp .ge 43, 3) := by decide +kernel
theorem dX5_maskOfClashes_24 : decode cX5_maskOfClashes 24 = .ok (.aload_n 0, 1) := by decide +kernel
theorem dX5_maskOfClashes_25 : decode cX5_maskOfClashes 25 = .ok (.getfield 15, 3) := by decide +kernel
theorem dX5_maskOfClashes_28 : decode cX5_maskOfClashes 28 = .ok (.iload_n 1, 1) := by decide +kernel
theorem dX5_maskOfClashes_29 : decode cX5_maskOfClashes 29 = .ok (.iload_n 2, 1) := by decide +kernel
theorem dX5_maskOfClashes_30 : decode cX5_maskOfClashes 30 = .ok (.aload_n 0, 1) := by decide +kernel
theorem dX5_maskOfClashes_31 : decode cX5_maskOfClashes 31 = .ok (.getfield 19, 3) := by decide +kernel
theorem dX5_maskOfClashes_34 : decode cX5_maskOfClashes 34 = .ok (.iload 5, 2) := by decide +kernel
theorem dX5_maskOfClashes_36 : decode cX5_maskOfClashes 36 = .ok (.iaload, 1) := by decide +kernel
theorem dX5_maskOfClashes_37 : decode cX5_maskOfClashes 37 = .ok (.iload 6, 2) := by decide +kernel
theorem dX5_maskOfClashes_39 : decode cX5_maskOfClashes 39 = .ok (.invokevirtual 59, 3) := by decide +kernel
theorem dX5_maskOfClashes_42 : decode cX5_maskOfClashes 42 = .ok (.ifCond .eq 16, 3) := by decide +kernel
theorem dX5_maskOfClashes_45 : decode cX5_maskOfClashes 45 = .ok (.lload_n 3, 1) := by decide +kernel
theorem dX5_maskOfClashes_46 : decode cX5_maskOfClashes 46 = .ok (.lconst 1, 1) := by decide +kernel
theorem dX5_maskOfClashes_47 : decode cX5_maskOfClashes 47 = .ok (.iload 5, 2) := by decide +kernel
theorem dX5_maskOfClashes_49 : decode cX5_maskOfClashes 49 = .ok (.bipush 8, 2) := by decide +kernel
theorem dX5_maskOfClashes_51 : decode cX5_maskOfClashes 51 = .ok (.imul, 1) := by decide +kernel
theorem dX5_maskOfClashes_52 : decode cX5_maskOfClashes 52 = .ok (.iload 6, 2) := by decide +kernel
theorem dX5_maskOfClashes_54 : decode cX5_maskOfClashes 54 = .ok (.iadd, 1) := by decide +kernel
theorem dX5_maskOfClashes_55 : decode cX5_maskOfClashes 55 = .ok (.lshl, 1) := by decide +kernel
theorem dX5_maskOfClashes_56 : decode cX5_maskOfClashes 56 = .ok (.lor, 1) := by decide +kernel
theorem dX5_maskOfClashes_57 : decode cX5_maskOfClashes 57 = .ok (.lstore_n 3, 1) := by decide +kernel
theorem dX5_maskOfClashes_58 : decode cX5_maskOfClashes 58 = .ok (.iinc 6 1, 3) := by decide +kernel
theorem dX5_maskOfClashes_61 : decode cX5_maskOfClashes 61 = .ok (.goto (-44), 3) := by decide +kernel
theorem dX5_maskOfClashes_64 : decode cX5_maskOfClashes 64 = .ok (.iinc 5 1, 3) := by decide +kernel
theorem dX5_maskOfClashes_67 : decode cX5_maskOfClashes 67 = .ok (.goto (-62), 3) := by decide +kernel
theorem dX5_maskOfClashes_70 : decode cX5_maskOfClashes 70 = .ok (.lload_n 3, 1) := by decide +kernel
theorem dX5_maskOfClashes_71 : decode cX5_maskOfClashes 71 = .ok (.lreturn, 1) := by decide +kernel
theorem dX5_greatestSum_0 : decode cX5_greatestSum 0 = .ok (.aload_n 0, 1) := by decide +kernel
theorem dX5_greatestSum_1 : decode cX5_greatestSum 1 = .ok (.invokevirtual 31, 3) := by decide +kernel
theorem dX5_greatestSum_4 : decode cX5_greatestSum 4 = .ok (.ifCond .ne 6, 3) := by decide +kernel
theorem dX5_greatestSum_7 : decode cX5_greatestSum 7 = .ok (.bipush (-3), 2) := by decide +kernel
theorem dX5_greatestSum_9 : decode cX5_greatestSum 9 = .ok (.ireturn, 1) := by decide +kernel
theorem dX5_greatestSum_10 : decode cX5_greatestSum 10 = .ok (.lconst 0, 1) := by decide +kernel
theorem dX5_greatestSum_11 : decode cX5_greatestSum 11 = .ok (.lstore_n 1, 1) := by decide +kernel
theorem dX5_greatestSum_12 : decode cX5_greatestSum 12 = .ok (.iconst 0, 1) := by decide +kernel
theorem dX5_greatestSum_13 : decode cX5_greatestSum 13 = .ok (.istore_n 3, 1) := by decide +kernel
theorem dX5_greatestSum_14 : decode cX5_greatestSum 14 = .ok (.iload_n 3, 1) := by decide +kernel
theorem dX5_greatestSum_15 : decode cX5_greatestSum 15 = .ok (.aload_n 0, 1) := by decide +kernel
theorem dX5_greatestSum_16 : decode cX5_greatestSum 16 = .ok (.getfield 27, 3) := by decide +kernel
theorem dX5_greatestSum_19 : decode cX5_greatestSum 19 = .ok (.if_icmp .ge 78, 3) := by decide +kernel
theorem dX5_greatestSum_22 : decode cX5_greatestSum 22 = .ok (.iconst 0, 1) := by decide +kernel
theorem dX5_greatestSum_23 : decode cX5_greatestSum 23 = .ok (.istore 4, 2) := by decide +kernel
theorem dX5_greatestSum_25 : decode cX5_greatestSum 25 = .ok (.iload 4, 2) := by decide +kernel
theorem dX5_greatestSum_27 : decode cX5_greatestSum 27 = .ok (.bipush 8, 2) := by decide +kernel
theorem dX5_greatestSum_29 : decode cX5_greatestSum 29 = .ok (.if_icmp .ge 62, 3) := by decide +kernel
theorem dX5_greatestSum_32 : decode cX5_greatestSum 32 = .ok (.iload_n 3, 1) := by decide +kernel
theorem dX5_greatestSum_33 : decode cX5_greatestSum 33 = .ok (.bipush 8, 2) := by decide +kernel
theorem dX5_greatestSum_35 : decode cX5_greatestSum 35 = .ok (.imul, 1) := by decide +kernel
theorem dX5_greatestSum_36 : decode cX5_greatestSum 36 = .ok (.iload 4, 2) := by decide +kernel
theorem dX5_greatestSum_38 : decode cX5_greatestSum 38 = .ok (.iadd, 1) := by decide +kernel
theorem dX5_greatestSum_39 : decode cX5_greatestSum 39 = .ok (.istore 5, 2) := by decide +kernel
theorem dX5_greatestSum_41 : decode cX5_greatestSum 41 = .ok (.aload_n 0, 1) := by decide +kernel
theorem dX5_greatestSum_42 : decode cX5_greatestSum 42 = .ok (.getfield 15, 3) := by decide +kernel
theorem dX5_greatestSum_45 : decode cX5_greatestSum 45 = .ok (.aload_n 0, 1) := by decide +kernel
theorem dX5_greatestSum_46 : decode cX5_greatestSum 46 = .ok (.getfield 19, 3) := by decide +kernel
theorem dX5_greatestSum_49 : decode cX5_greatestSum 49 = .ok (.iload_n 3, 1) := by decide +kernel
theorem dX5_greatestSum_50 : decode cX5_greatestSum 50 = .ok (.iaload, 1) := by decide +kernel
theorem dX5_greatestSum_51 : decode cX5_greatestSum 51 = .ok (.iload 4, 2) := by decide +kernel
theorem dX5_greatestSum_53 : decode cX5_greatestSum 53 = .ok (.invokevirtual 35, 3) := by decide +kernel
theorem dX5_greatestSum_56 : decode cX5_greatestSum 56 = .ok (.ifCond .eq 10, 3) := by decide +kernel
theorem dX5_greatestSum_59 : decode cX5_greatestSum 59 = .ok (.lload_n 1, 1) := by decide +kernel
theorem dX5_greatestSum_60 : decode cX5_greatestSum 60 = .ok (.lconst 1, 1) := by decide +kernel
theorem dX5_greatestSum_61 : decode cX5_greatestSum 61 = .ok (.iload 5, 2) := by decide +kernel
theorem dX5_greatestSum_63 : decode cX5_greatestSum 63 = .ok (.lshl, 1) := by decide +kernel
theorem dX5_greatestSum_64 : decode cX5_greatestSum 64 = .ok (.lor, 1) := by decide +kernel
theorem dX5_greatestSum_65 : decode cX5_greatestSum 65 = .ok (.lstore_n 1, 1) := by decide +kernel
theorem dX5_greatestSum_66 : decode cX5_greatestSum 66 = .ok (.aload_n 0, 1) := by decide +kernel
theorem dX5_greatestSum_67 : decode cX5_greatestSum 67 = .ok (.getfield 23, 3) := by decide +kernel
theorem dX5_greatestSum_70 : decode cX5_greatestSum 70 = .ok (.iload 5, 2) := by decide +kernel
theorem dX5_greatestSum_72 : decode cX5_greatestSum 72 = .ok (.aload_n 0, 1) := by decide +kernel
theorem dX5_greatestSum_73 : decode cX5_greatestSum 73 = .ok (.aload_n 0, 1) := by decide +kernel
theorem dX5_greatestSum_74 : decode cX5_greatestSum 74 = .ok (.getfield 19, 3) := by decide +kernel
theorem dX5_greatestSum_77 : decode cX5_greatestSum 77 = .ok (.iload_n 3, 1) := by decide +kernel
theorem dX5_greatestSum_78 : decode cX5_greatestSum 78 = .ok (.iaload, 1) := by decide +kernel
theorem dX5_greatestSum_79 : decode cX5_greatestSum 79 = .ok (.iload 4, 2) := by decide +kernel
theorem dX5_greatestSum_81 : decode cX5_greatestSum 81 = .ok (.invokevirtual 41, 3) := by decide +kernel
theorem dX5_greatestSum_84 : decode cX5_greatestSum 84 = .ok (.lastore, 1) := by decide +kernel
theorem dX5_greatestSum_85 : decode cX5_greatestSum 85 = .ok (.iinc 4 1, 3) := by decide +kernel
theorem dX5_greatestSum_88 : decode cX5_greatestSum 88 = .ok (.goto (-63), 3) := by decide +kernel
theorem dX5_greatestSum_91 : decode cX5_greatestSum 91 = .ok (.iinc 3 1, 3) := by decide +kernel
theorem dX5_greatestSum_94 : decode cX5_greatestSum 94 = .ok (.goto (-80), 3) := by decide +kernel
theorem dX5_greatestSum_97 : decode cX5_greatestSum 97 = .ok (.aload_n 0, 1) := by decide +kernel
theorem dX5_greatestSum_98 : decode cX5_greatestSum 98 = .ok (.iconst 0, 1) := by decide +kernel
theorem dX5_greatestSum_99 : decode cX5_greatestSum 99 = .ok (.lload_n 1, 1) := by decide +kernel
theorem dX5_greatestSum_100 : decode cX5_greatestSum 100 = .ok (.iconst 0, 1) := by decide +kernel
theorem dX5_greatestSum_101 : decode cX5_greatestSum 101 = .ok (.iconst 0, 1) := by decide +kernel
theorem dX5_greatestSum_102 : decode cX5_greatestSum 102 = .ok (.invokestatic 45, 3) := by decide +kernel
theorem dX5_greatestSum_105 : decode cX5_greatestSum 105 = .ok (.ireturn, 1) := by decide +kernel
theorem dX6_append_0 : decode cX6_append 0 = .ok (.aload_n 0, 1) := by decide +kernel
theorem dX6_append_1 : decode cX6_append 1 = .ok (.getfield 15, 3) := by decide +kernel
theorem dX6_append_4 : decode cX6_append 4 = .ok (.aload_n 0, 1) := by decide +kernel
theorem dX6_append_5 : decode cX6_append 5 = .ok (.getfield 9, 3) := by decide +kernel
theorem dX6_append_8 : decode cX6_append 8 = .ok (.iload_n 1, 1) := by decide +kernel
theorem dX6_append_9 : decode cX6_append 9 = .ok (.i2b, 1) := by decide +kernel
theorem dX6_append_10 : decode cX6_append 10 = .ok (.bastore, 1) := by decide +kernel
theorem dX6_append_11 : decode cX6_append 11 = .ok (.aload_n 0, 1) := by decide +kernel
theorem dX6_append_12 : decode cX6_append 12 = .ok (.dup, 1) := by decide +kernel
theorem dX6_append_13 : decode cX6_append 13 = .ok (.getfield 9, 3) := by decide +kernel
theorem dX6_append_16 : decode cX6_append 16 = .ok (.iconst 1, 1) := by decide +kernel
theorem dX6_append_17 : decode cX6_append 17 = .ok (.iadd, 1) := by decide +kernel
theorem dX6_append_18 : decode cX6_append 18 = .ok (.putfield 9, 3) := by decide +kernel
theorem dX6_append_21 : decode cX6_append 21 = .ok (.return_, 1) := by decide +kernel
theorem dX7_allows_0 : decode cX7_allows 0 = .ok (.iload 4, 2) := by decide +kernel
theorem dX7_allows_2 : decode cX7_allows 2 = .ok (.bipush 10, 2) := by decide +kernel
theorem dX7_allows_4 : decode cX7_allows 4 = .ok (.if_icmp .lt 64, 3) := by decide +kernel
theorem dX7_allows_7 : decode cX7_allows 7 = .ok (.iload 4, 2) := by decide +kernel
theorem dX7_allows_9 : decode cX7_allows 9 = .ok (.bipush 100, 2) := by decide +kernel
theorem dX7_allows_11 : decode cX7_allows 11 = .ok (.if_icmp .gt 57, 3) := by decide +kernel
theorem dX7_allows_14 : decode cX7_allows 14 = .ok (.iload 5, 2) := by decide +kernel
theorem dX7_allows_16 : decode cX7_allows 16 = .ok (.bipush 10, 2) := by decide +kernel
theorem dX7_allows_18 : decode cX7_allows 18 = .ok (.if_icmp .lt 50, 3) := by decide +kernel
theorem dX7_allows_21 : decode cX7_allows 21 = .ok (.iload 5, 2) := by decide +kernel
theorem dX7_allows_23 : decode cX7_allows 23 = .ok (.bipush 100, 2) := by decide +kernel
theorem dX7_allows_25 : decode cX7_allows 25 = .ok (.if_icmp .gt 43, 3) := by decide +kernel
theorem dX7_allows_28 : decode cX7_allows 28 = .ok (.lload_n 0, 1) := by decide +kernel
theorem dX7_allows_29 : decode cX7_allows 29 = .ok (.lconst 0, 1) := by decide +kernel
theorem dX7_allows_30 : decode cX7_allows 30 = .ok (.lcmp, 1) := by decide +kernel
theorem dX7_allows_31 : decode cX7_allows 31 = .ok (.ifCond .lt 37, 3) := by decide +kernel
theorem dX7_allows_34 : decode cX7_allows 34 = .ok (.lload_n 0, 1) := by decide +kernel
theorem dX7_allows_35 : decode cX7_allows 35 = .ok (.sipush 200, 3) := by decide +kernel
theorem dX7_allows_38 : decode cX7_allows 38 = .ok (.iload 4, 2) := by decide +kernel
theorem dX7_allows_40 : decode cX7_allows 40 = .ok (.isub, 1) := by decide +kernel
theorem dX7_allows_41 : decode cX7_allows 41 = .ok (.i2l, 1) := by decide +kernel
theorem dX7_allows_42 : decode cX7_allows 42 = .ok (.lcmp, 1) := by decide +kernel
theorem dX7_allows_43 : decode cX7_allows 43 = .ok (.ifCond .gt 25, 3) := by decide +kernel
theorem dX7_allows_46 : decode cX7_allows 46 = .ok (.lload_n 2, 1) := by decide +kernel
theorem dX7_allows_47 : decode cX7_allows 47 = .ok (.lconst 0, 1) := by decide +kernel
theorem dX7_allows_48 : decode cX7_allows 48 = .ok (.lcmp, 1) := by decide +kernel
theorem dX7_allows_49 : decode cX7_allows 49 = .ok (.ifCond .lt 19, 3) := by decide +kernel
theorem dX7_allows_52 : decode cX7_allows 52 = .ok (.lload_n 2, 1) := by decide +kernel
theorem dX7_allows_53 : decode cX7_allows 53 = .ok (.sipush 200, 3) := by decide +kernel
theorem dX7_allows_56 : decode cX7_allows 56 = .ok (.iload 5, 2) := by decide +kernel
theorem dX7_allows_58 : decode cX7_allows 58 = .ok (.isub, 1) := by decide +kernel
theorem dX7_allows_59 : decode cX7_allows 59 = .ok (.i2l, 1) := by decide +kernel
theorem dX7_allows_60 : decode cX7_allows 60 = .ok (.lcmp, 1) := by decide +kernel
theorem dX7_allows_61 : decode cX7_allows 61 = .ok (.ifCond .gt 7, 3) := by decide +kernel
theorem dX7_allows_64 : decode cX7_allows 64 = .ok (.iconst 1, 1) := by decide +kernel
theorem dX7_allows_65 : decode cX7_allows 65 = .ok (.goto 4, 3) := by decide +kernel
theorem dX7_allows_68 : decode cX7_allows 68 = .ok (.iconst 0, 1) := by decide +kernel
theorem dX7_allows_69 : decode cX7_allows 69 = .ok (.ireturn, 1) := by decide +kernel
theorem dX7_put_0 : decode cX7_put 0 = .ok (.aload_n 0, 1) := by decide +kernel
theorem dX7_put_1 : decode cX7_put 1 = .ok (.iload_n 1, 1) := by decide +kernel
theorem dX7_put_2 : decode cX7_put 2 = .ok (.putfield 9, 3) := by decide +kernel
theorem dX7_put_5 : decode cX7_put 5 = .ok (.aload_n 0, 1) := by decide +kernel
theorem dX7_put_6 : decode cX7_put 6 = .ok (.iload_n 2, 1) := by decide +kernel
theorem dX7_put_7 : decode cX7_put 7 = .ok (.putfield 15, 3) := by decide +kernel
theorem dX7_put_10 : decode cX7_put 10 = .ok (.aload_n 0, 1) := by decide +kernel
theorem dX7_put_11 : decode cX7_put 11 = .ok (.iload_n 3, 1) := by decide +kernel
theorem dX7_put_12 : decode cX7_put 12 = .ok (.putfield 18, 3) := by decide +kernel
theorem dX7_put_15 : decode cX7_put 15 = .ok (.aload_n 0, 1) := by decide +kernel
theorem dX7_put_16 : decode cX7_put 16 = .ok (.iload 4, 2) := by decide +kernel
theorem dX7_put_18 : decode cX7_put 18 = .ok (.putfield 21, 3) := by decide +kernel
theorem dX7_put_21 : decode cX7_put 21 = .ok (.return_, 1) := by decide +kernel
theorem dX8_renew_0 : decode cX8_renew 0 = .ok (.aload_n 0, 1) := by decide +kernel
theorem dX8_renew_1 : decode cX8_renew 1 = .ok (.getfield 12, 3) := by decide +kernel
theorem dX8_renew_4 : decode cX8_renew 4 = .ok (.invokevirtual 146, 3) := by decide +kernel
theorem dX8_renew_7 : decode cX8_renew 7 = .ok (.aload_n 0, 1) := by decide +kernel
theorem dX8_renew_8 : decode cX8_renew 8 = .ok (.getfield 28, 3) := by decide +kernel
theorem dX8_renew_11 : decode cX8_renew 11 = .ok (.invokevirtual 149, 3) := by decide +kernel
theorem dX8_renew_14 : decode cX8_renew 14 = .ok (.aload_n 0, 1) := by decide +kernel
theorem dX8_renew_15 : decode cX8_renew 15 = .ok (.getfield 37, 3) := by decide +kernel
theorem dX8_renew_18 : decode cX8_renew 18 = .ok (.invokevirtual 152, 3) := by decide +kernel
theorem dX8_renew_21 : decode cX8_renew 21 = .ok (.ireturn, 1) := by decide +kernel
set_option maxHeartbeats 4000000 in
set_option maxRecDepth 100000 in
theorem qPl_clashingPairs_L17_ok {σ : QS} {x2 : Int32} {k4 : Int32 → Int32 → Option (Int32)} (hk4 : ∀ (x1 : Int32) (x2 : Int32) (r : Int32), k4 x1 x2 = some r → qx_E (qx_gC l D ci a z) 3 mX3_clashingPairs (some (.int r), σ) 4 [(0, .ref (a 5)), (1, .int x1), (2, .int x2)] [] σ) : ∀ (n : Nat) (x1 : Int32) (x3 : Int32) (r : Int32), qPl_clashingPairs_L17 σ x2 k4 n x1 x3 = some r → qx_E (qx_gC l D ci a z) 3 mX3_clashingPairs (some (.int r), σ) 17 [(0, .ref (a 5)), (1, .int x1), (2, .int x2), (3, .int x3)] [] σ := by
  intro n
  induction n with
  | zero =>
    intro x1 x3 r h
    exact (qx_none h).elim
  | succ n ih =>
    intro x1 x3 r h
    unfold qPl_clashingPairs_L17 at h
    refine qx_iload_n (pc := 17) 3 dX3_clashingPairs_17 rfl ?_
    refine qx_bipush (pc := 18) 8 dX3_clashingPairs_18 (by decide) ?_
    refine qx_icmp_ge (pc := 20) 48 h dX3_clashingPairs_20 (by decide) (fun h => ?_) (fun h => ?_)
    · refine qx_iinc (pc := 48) (lv' := [(2, .int (x2 + 1)), (0, .ref (a 5)), (1, .int x1), (3, .int x3)]) 2 (x2 + 1) dX3_clashingPairs_48 rfl rfl (Nat.le_of_ble_eq_true rfl) rfl ?_
      refine qx_goto (pc := 51) 4 dX3_clashingPairs_51 (by decide) ?_
      exact qx_sub [1, 2, 0] rfl (hk4 _ _ _ h)
    · refine qx_aload_n (pc := 23) 0 dX3_clashingPairs_23 rfl ?_
      refine qx_iload_n (pc := 24) 2 dX3_clashingPairs_24 rfl ?_
      refine qx_iload_n (pc := 25) 3 dX3_clashingPairs_25 rfl ?_
      obtain ⟨r1, hr1, h⟩ := qx_bindE h
      refine qx_callVi (pc := 26) 5 r1 σ [.int x2, .int x3] [] rfl rfl rfl qcm_X3_isPlace qcv_X3_isPlace qwm_X3_75 rfl (Nat.le_of_ble_eq_true rfl) (Nat.le_of_ble_eq_true rfl) (by decide) dX3_clashingPairs_26 (qPl_isPlace_ok hr1) ?_
      refine qx_if_eq (pc := 29) 42 h dX3_clashingPairs_29 (by decide) (fun h => ?_) (fun h => ?_)
      · refine qx_iinc (pc := 42) (lv' := [(3, .int (x3 + 1)), (0, .ref (a 5)), (1, .int x1), (2, .int x2)]) 3 (x3 + 1) dX3_clashingPairs_42 rfl rfl (Nat.le_of_ble_eq_true rfl) rfl ?_
        refine qx_goto (pc := 45) 17 dX3_clashingPairs_45 (by decide) ?_
        exact qx_sub [1, 2, 3, 0] rfl (ih _ _ _ h)
      · refine qx_iload_n (pc := 32) 1 dX3_clashingPairs_32 rfl ?_
        refine qx_aload_n (pc := 33) 0 dX3_clashingPairs_33 rfl ?_
        refine qx_iload_n (pc := 34) 2 dX3_clashingPairs_34 rfl ?_
        refine qx_iload_n (pc := 35) 3 dX3_clashingPairs_35 rfl ?_
        refine qx_iload_n (pc := 36) 2 dX3_clashingPairs_36 rfl ?_
        obtain ⟨r2, hr2, h⟩ := qx_bindE h
        refine qx_callVi (pc := 37) 5 r2 σ [.int x2, .int x3, .int x2] [.int x1] rfl rfl rfl qcm_X3_clashesBefore qcv_X3_clashesBefore qwm_X3_82 rfl (Nat.le_of_ble_eq_true rfl) (Nat.le_of_ble_eq_true rfl) (by decide) dX3_clashingPairs_37 (qPl_clashesBefore_ok hr2) ?_
        refine qx_iadd (pc := 40) dX3_clashingPairs_40 ?_
        refine qx_istore_n (pc := 41) (lv' := [(1, .int (x1 + r2)), (0, .ref (a 5)), (2, .int x2), (3, .int x3)]) dX3_clashingPairs_41 (Nat.le_of_ble_eq_true rfl) rfl ?_
        refine qx_iinc (pc := 42) (lv' := [(3, .int (x3 + 1)), (1, .int (x1 + r2)), (0, .ref (a 5)), (2, .int x2)]) 3 (x3 + 1) dX3_clashingPairs_42 rfl rfl (Nat.le_of_ble_eq_true rfl) rfl ?_
        refine qx_goto (pc := 45) 17 dX3_clashingPairs_45 (by decide) ?_
        exact qx_sub [2, 1, 3, 0] rfl (ih _ _ _ h)
set_option maxHeartbeats 4000000 in
set_option maxRecDepth 100000 in
theorem qPl_clashingPairs_L4_ok {σ : QS} : ∀ (n : Nat) (x1 : Int32) (x2 : Int32) (r : Int32), qPl_clashingPairs_L4 σ n x1 x2 = some r → qx_E (qx_gC l D ci a z) 3 mX3_clashingPairs (some (.int r), σ) 4 [(0, .ref (a 5)), (1, .int x1), (2, .int x2)] [] σ := by
  intro n
  induction n with
  | zero =>
    intro x1 x2 r h
    exact (qx_none h).elim
  | succ n ih =>
    intro x1 x2 r h
    unfold qPl_clashingPairs_L4 at h
    refine qx_iload_n (pc := 4) 2 dX3_clashingPairs_4 rfl ?_
    refine qx_aload_n (pc := 5) 0 dX3_clashingPairs_5 rfl ?_
    refine qgC5_0 (pc := 6) qwf_X3_9 dX3_clashingPairs_6 ?_
    refine qgC1_0 (pc := 9) qwf_X3_36 dX3_clashingPairs_9 ?_
    refine qx_icmp_ge (pc := 12) 54 h dX3_clashingPairs_12 (by decide) (fun h => ?_) (fun h => ?_)
    · refine qx_iload_n (pc := 54) 1 dX3_clashingPairs_54 rfl ?_
      exact qx_iret h rfl dX3_clashingPairs_55
    · refine qx_iconst (pc := 15) 0 dX3_clashingPairs_15 (by decide) ?_
      refine qx_istore_n (pc := 16) (lv' := [(3, .int 0), (0, .ref (a 5)), (1, .int x1), (2, .int x2)]) dX3_clashingPairs_16 (Nat.le_of_ble_eq_true rfl) rfl ?_
      exact qx_sub [1, 2, 3, 0] rfl (qPl_clashingPairs_L17_ok ih qx_F _ _ _ h)
set_option maxHeartbeats 4000000 in
set_option maxRecDepth 100000 in
theorem qPl_clashingPairs_ok {σ : QS} {r : Int32} (h : qPl_clashingPairs σ = some r) : qx_E (qx_gC l D ci a z) 3 mX3_clashingPairs (some (.int r), σ) 0 [(0, .ref (a 5))] [] σ := by
  unfold qPl_clashingPairs at h
  refine qx_iconst (pc := 0) 0 dX3_clashingPairs_0 (by decide) ?_
  refine qx_istore_n (pc := 1) (lv' := [(1, .int 0), (0, .ref (a 5))]) dX3_clashingPairs_1 (Nat.le_of_ble_eq_true rfl) rfl ?_
  refine qx_iconst (pc := 2) 0 dX3_clashingPairs_2 (by decide) ?_
  refine qx_istore_n (pc := 3) (lv' := [(2, .int 0), (1, .int 0), (0, .ref (a 5))]) dX3_clashingPairs_3 (Nat.le_of_ble_eq_true rfl) rfl ?_
  exact qx_sub [2, 1, 0] rfl (qPl_clashingPairs_L4_ok qx_F _ _ _ h)
set_option maxHeartbeats 4000000 in
set_option maxRecDepth 100000 in
theorem qPt_allows_ok {σ : QS} {x0 : Int32} {x1 : Int32} {r : Int32} (h : qPt_allows σ x0 x1 = some r) : qx_E (qx_gC l D ci a z) 1 mX4_allows (some (.int r), σ) 0 [(0, .int x0), (1, .int x1)] [] σ := by
  unfold qPt_allows at h
  refine qx_iload_n (pc := 0) 0 dX4_allows_0 rfl ?_
  refine qx_if_lt (pc := 1) 32 h dX4_allows_1 (by decide) (fun h => ?_) (fun h => ?_)
  · refine qx_iconst (pc := 32) 0 dX4_allows_32 (by decide) ?_
    exact qx_nret h rfl rfl dX4_allows_33
  · refine qx_iload_n (pc := 4) 0 dX4_allows_4 rfl ?_
    refine qx_bipush (pc := 5) 6 dX4_allows_5 (by decide) ?_
    refine qx_icmp_ge (pc := 7) 32 h dX4_allows_7 (by decide) (fun h => ?_) (fun h => ?_)
    · refine qx_iconst (pc := 32) 0 dX4_allows_32 (by decide) ?_
      exact qx_nret h rfl rfl dX4_allows_33
    · refine qx_iload_n (pc := 10) 1 dX4_allows_10 rfl ?_
      refine qt0_get (pc := 11) qwf_X4_22 dX4_allows_11 ?_
      refine qx_iload_n (pc := 14) 0 dX4_allows_14 rfl ?_
      refine qt0_ald (pc := 15) h dX4_allows_15 (fun h => ?_)
      refine qx_icmp_lt (pc := 16) 32 h dX4_allows_16 (by decide) (fun h => ?_) (fun h => ?_)
      · refine qx_iconst (pc := 32) 0 dX4_allows_32 (by decide) ?_
        exact qx_nret h rfl rfl dX4_allows_33
      · refine qx_iload_n (pc := 19) 1 dX4_allows_19 rfl ?_
        refine qt1_get (pc := 20) qwf_X4_25 dX4_allows_20 ?_
        refine qx_iload_n (pc := 23) 0 dX4_allows_23 rfl ?_
        refine qt1_ald (pc := 24) h dX4_allows_24 (fun h => ?_)
        refine qx_icmp_gt (pc := 25) 32 h dX4_allows_25 (by decide) (fun h => ?_) (fun h => ?_)
        · refine qx_iconst (pc := 32) 0 dX4_allows_32 (by decide) ?_
          exact qx_nret h rfl rfl dX4_allows_33
        · refine qx_iconst (pc := 28) 1 dX4_allows_28 (by decide) ?_
          refine qx_goto (pc := 29) 33 dX4_allows_29 (by decide) ?_
          exact qx_nret h rfl rfl dX4_allows_33
set_option maxHeartbeats 4000000 in
set_option maxRecDepth 100000 in
theorem qPt_has_ok {σ : QS} {x1 : Int32} {r : Int32} (h : qPt_has σ x1 = some r) : qx_E (qx_gC l D ci a z) 1 mX4_has (some (.int r), σ) 0 [(0, .ref (a 1)), (1, .int x1)] [] σ := by
  unfold qPt_has at h
  refine qx_iload_n (pc := 0) 1 dX4_has_0 rfl ?_
  refine qx_if_lt (pc := 1) 16 h dX4_has_1 (by decide) (fun h => ?_) (fun h => ?_)
  · refine qx_iconst (pc := 16) 0 dX4_has_16 (by decide) ?_
    exact qx_nret h rfl rfl dX4_has_17
  · refine qx_iload_n (pc := 4) 1 dX4_has_4 rfl ?_
    refine qx_aload_n (pc := 5) 0 dX4_has_5 rfl ?_
    refine qgC1_0 (pc := 6) qwf_X4_9 dX4_has_6 ?_
    refine qx_icmp_ge (pc := 9) 16 h dX4_has_9 (by decide) (fun h => ?_) (fun h => ?_)
    · refine qx_iconst (pc := 16) 0 dX4_has_16 (by decide) ?_
      exact qx_nret h rfl rfl dX4_has_17
    · refine qx_iconst (pc := 12) 1 dX4_has_12 (by decide) ?_
      refine qx_goto (pc := 13) 17 dX4_has_13 (by decide) ?_
      exact qx_nret h rfl rfl dX4_has_17
set_option maxHeartbeats 4000000 in
set_option maxRecDepth 100000 in
theorem qPt_put_ok {σ : QS} {x1 : Int32} {x2 : Int32} {x3 : Int32} {r : QS} (h : qPt_put σ x1 x2 x3 = some r) : qx_E (qx_gC l D ci a z) 1 mX4_put (none, r) 0 [(0, .ref (a 1)), (1, .int x1), (2, .int x2), (3, .int x3)] [] σ := by
  unfold qPt_put at h
  refine qx_aload_n (pc := 0) 0 dX4_put_0 rfl ?_
  refine qgC1_1 (pc := 1) qwf_X4_15 dX4_put_1 ?_
  refine qx_iload_n (pc := 4) 1 dX4_put_4 rfl ?_
  refine qx_bipush (pc := 5) 6 dX4_put_5 (by decide) ?_
  refine qx_imul (pc := 7) dX4_put_7 ?_
  refine qx_iload_n (pc := 8) 2 dX4_put_8 rfl ?_
  refine qx_iadd (pc := 9) dX4_put_9 ?_
  refine qx_iload_n (pc := 10) 3 dX4_put_10 rfl ?_
  refine qsC2 (pc := 11) h dX4_put_11 (fun h => ?_)
  exact qx_vret h rfl dX4_put_12
set_option maxHeartbeats 4000000 in
set_option maxRecDepth 100000 in
theorem qPt_append_ok {σ : QS} {x1 : Int32} {x2 : Int32} {r : Int32 × QS} (h : qPt_append σ x1 x2 = some r) : qx_E (qx_gC l D ci a z) 2 mX4_append (some (.int r.1), r.2) 0 [(0, .ref (a 1)), (1, .int x1), (2, .int x2)] [] σ := by
  unfold qPt_append at h
  refine qx_aload_n (pc := 0) 0 dX4_append_0 rfl ?_
  refine qgC1_0 (pc := 1) qwf_X4_9 dX4_append_1 ?_
  refine qx_istore_n (pc := 4) (lv' := [(3, .int (σ.1 1 0)), (0, .ref (a 1)), (1, .int x1), (2, .int x2)]) dX4_append_4 (Nat.le_of_ble_eq_true rfl) rfl ?_
  refine qx_aload_n (pc := 5) 1 dX4_append_5 rfl ?_
  refine qx_dup (pc := 6) dX4_append_6 rfl ?_
  refine qgC1_0 (pc := 7) qwf_X4_9 dX4_append_7 ?_
  refine qx_iconst (pc := 10) 1 dX4_append_10 (by decide) ?_
  refine qx_iadd (pc := 11) dX4_append_11 ?_
  refine qpC1_0 (pc := 12) qwf_X4_9 dX4_append_12 ?_
  refine qx_aload_n (pc := 15) 1 dX4_append_15 rfl ?_
  refine qx_iload_n (pc := 16) 0 dX4_append_16 rfl ?_
  refine qx_iconst (pc := 17) 0 dX4_append_17 (by decide) ?_
  refine qx_iload_n (pc := 18) 2 dX4_append_18 rfl ?_
  obtain ⟨r1, hr1, h⟩ := qx_bindE h
  refine qx_callVv (pc := 19) 1 r1 [.int (σ.1 1 0), .int 0, .int x1] [] rfl rfl rfl qcm_X4_put qcv_X4_put qwm_X4_28 rfl (Nat.le_of_ble_eq_true rfl) (Nat.le_of_ble_eq_true rfl) (by decide) dX4_append_19 (qPt_put_ok hr1) ?_
  refine qx_aload_n (pc := 22) 1 dX4_append_22 rfl ?_
  refine qx_iload_n (pc := 23) 0 dX4_append_23 rfl ?_
  refine qx_iconst (pc := 24) 1 dX4_append_24 (by decide) ?_
  refine qx_iload_n (pc := 25) 3 dX4_append_25 rfl ?_
  obtain ⟨r2, hr2, h⟩ := qx_bindE h
  refine qx_callVv (pc := 26) 1 r2 [.int (σ.1 1 0), .int 1, .int x2] [] rfl rfl rfl qcm_X4_put qcv_X4_put qwm_X4_28 rfl (Nat.le_of_ble_eq_true rfl) (Nat.le_of_ble_eq_true rfl) (by decide) dX4_append_26 (qPt_put_ok hr2) ?_
  refine qx_iload_n (pc := 29) 0 dX4_append_29 rfl ?_
  exact qx_iretS h rfl dX4_append_30
set_option maxHeartbeats 4000000 in
set_option maxRecDepth 100000 in
theorem qPt_closeGap_L7_ok : ∀ (n : Nat) (σ : QS) (x2 : Int32) (r : QS), qPt_closeGap_L7 n σ x2 = some r → qx_E (qx_gC l D ci a z) 1 mX4_closeGap (none, r) 7 [(0, .ref (a 1)), (2, .int x2)] [] σ := by
  intro n
  induction n with
  | zero =>
    intro σ x2 r h
    exact (qx_none h).elim
  | succ n ih =>
    intro σ x2 r h
    unfold qPt_closeGap_L7 at h
    refine qx_iload_n (pc := 7) 1 dX4_closeGap_7 rfl ?_
    refine qx_aload_n (pc := 8) 0 dX4_closeGap_8 rfl ?_
    refine qgC1_0 (pc := 9) qwf_X4_9 dX4_closeGap_9 ?_
    refine qx_bipush (pc := 12) 6 dX4_closeGap_12 (by decide) ?_
    refine qx_imul (pc := 14) dX4_closeGap_14 ?_
    refine qx_icmp_ge (pc := 15) 39 h dX4_closeGap_15 (by decide) (fun h => ?_) (fun h => ?_)
    · refine qx_aload_n (pc := 39) 0 dX4_closeGap_39 rfl ?_
      refine qx_dup (pc := 40) dX4_closeGap_40 rfl ?_
      refine qgC1_0 (pc := 41) qwf_X4_9 dX4_closeGap_41 ?_
      refine qx_iconst (pc := 44) 1 dX4_closeGap_44 (by decide) ?_
      refine qx_isub (pc := 45) dX4_closeGap_45 ?_
      refine qpC1_0 (pc := 46) qwf_X4_9 dX4_closeGap_46 ?_
      exact qx_vret h rfl dX4_closeGap_49
    · refine qx_aload_n (pc := 18) 0 dX4_closeGap_18 rfl ?_
      refine qgC1_1 (pc := 19) qwf_X4_15 dX4_closeGap_19 ?_
      refine qx_iload_n (pc := 22) 1 dX4_closeGap_22 rfl ?_
      refine qx_bipush (pc := 23) 6 dX4_closeGap_23 (by decide) ?_
      refine qx_isub (pc := 25) dX4_closeGap_25 ?_
      refine qx_aload_n (pc := 26) 0 dX4_closeGap_26 rfl ?_
      refine qgC1_1 (pc := 27) qwf_X4_15 dX4_closeGap_27 ?_
      refine qx_iload_n (pc := 30) 1 dX4_closeGap_30 rfl ?_
      refine qlC2 (pc := 31) h dX4_closeGap_31 (fun h => ?_)
      refine qsC2 (pc := 32) h dX4_closeGap_32 (fun h => ?_)
      refine qx_iinc (pc := 33) (lv' := [(2, .int (x2 + 1)), (0, .ref (a 1))]) 1 (x2 + 1) dX4_closeGap_33 rfl rfl (Nat.le_of_ble_eq_true rfl) rfl ?_
      refine qx_goto (pc := 36) 7 dX4_closeGap_36 (by decide) ?_
      exact qx_sub [1, 0] rfl (ih _ _ _ h)
set_option maxHeartbeats 4000000 in
set_option maxRecDepth 100000 in
theorem qPt_closeGap_ok {σ : QS} {x1 : Int32} {r : QS} (h : qPt_closeGap σ x1 = some r) : qx_E (qx_gC l D ci a z) 1 mX4_closeGap (none, r) 0 [(0, .ref (a 1)), (1, .int x1)] [] σ := by
  unfold qPt_closeGap at h
  refine qx_iload_n (pc := 0) 1 dX4_closeGap_0 rfl ?_
  refine qx_iconst (pc := 1) 1 dX4_closeGap_1 (by decide) ?_
  refine qx_iadd (pc := 2) dX4_closeGap_2 ?_
  refine qx_bipush (pc := 3) 6 dX4_closeGap_3 (by decide) ?_
  refine qx_imul (pc := 5) dX4_closeGap_5 ?_
  refine qx_istore_n (pc := 6) (lv' := [(2, .int ((x1 + 1) * 6)), (0, .ref (a 1)), (1, .int x1)]) dX4_closeGap_6 (Nat.le_of_ble_eq_true rfl) rfl ?_
  exact qx_sub [1, 0] rfl (qPt_closeGap_L7_ok qx_F _ _ _ h)
set_option maxHeartbeats 4000000 in
set_option maxRecDepth 100000 in
theorem qPt_isAt_ok {σ : QS} {x1 : Int32} {x2 : Int32} {r : Int32} (h : qPt_isAt σ x1 x2 = some r) : qx_E (qx_gC l D ci a z) 3 mX4_isAt (some (.int r), σ) 0 [(0, .ref (a 1)), (1, .int x1), (2, .int x2)] [] σ := by
  unfold qPt_isAt at h
  refine qx_aload_n (pc := 0) 0 dX4_isAt_0 rfl ?_
  refine qx_iload_n (pc := 1) 1 dX4_isAt_1 rfl ?_
  refine qx_iload_n (pc := 2) 2 dX4_isAt_2 rfl ?_
  refine qx_iconst (pc := 3) 1 dX4_isAt_3 (by decide) ?_
  refine qx_iconst (pc := 4) 1 dX4_isAt_4 (by decide) ?_
  obtain ⟨r1, hr1, h⟩ := qx_bindE h
  refine qx_callVi (pc := 5) 1 r1 σ [.int x1, .int x2, .int 1, .int 1] [] rfl rfl rfl qcm_X4_isIn qcv_X4_isIn qwm_X4_32 rfl (Nat.le_of_ble_eq_true rfl) (Nat.le_of_ble_eq_true rfl) (by decide) dX4_isAt_5 (qPt_isIn_ok hr1) ?_
  exact qx_nret h rfl rfl dX4_isAt_8
set_option maxHeartbeats 4000000 in
set_option maxRecDepth 100000 in
theorem qPt_putInOrder_L19_ok {x2 : Int32} {k8 : QS → Int32 → Int32 → Option (QS)} (hk8 : ∀ (σ : QS) (x1 : Int32) (x2 : Int32) (r : QS), k8 σ x1 x2 = some r → qx_E (qx_gC l D ci a z) 2 mX4_putInOrder (none, r) 8 [(0, .ref (a 1)), (1, .int x1), (2, .int x2)] [] σ) : ∀ (n : Nat) (σ : QS) (x1 : Int32) (x3 : Int32) (r : QS), qPt_putInOrder_L19 x2 k8 n σ x1 x3 = some r → qx_E (qx_gC l D ci a z) 2 mX4_putInOrder (none, r) 19 [(0, .ref (a 1)), (1, .int x1), (2, .int x2), (3, .int x3)] [] σ := by
  intro n
  induction n with
  | zero =>
    intro σ x1 x3 r h
    exact (qx_none h).elim
  | succ n ih =>
    intro σ x1 x3 r h
    unfold qPt_putInOrder_L19 at h
    refine qx_iload_n (pc := 19) 3 dX4_putInOrder_19 rfl ?_
    refine qx_aload_n (pc := 20) 0 dX4_putInOrder_20 rfl ?_
    refine qgC1_0 (pc := 21) qwf_X4_9 dX4_putInOrder_21 ?_
    refine qx_icmp_ge (pc := 24) 59 h dX4_putInOrder_24 (by decide) (fun h => ?_) (fun h => ?_)
    · refine qx_iinc (pc := 59) (lv' := [(2, .int (x2 + (-1))), (0, .ref (a 1)), (1, .int x1), (3, .int x3)]) 2 (x2 + (-1)) dX4_putInOrder_59 rfl rfl (Nat.le_of_ble_eq_true rfl) rfl ?_
      refine qx_goto (pc := 62) 8 dX4_putInOrder_62 (by decide) ?_
      exact qx_sub [1, 2, 0] rfl (hk8 _ _ _ _ h)
    · refine qx_aload_n (pc := 27) 0 dX4_putInOrder_27 rfl ?_
      refine qx_iload_n (pc := 28) 3 dX4_putInOrder_28 rfl ?_
      refine qx_iconst (pc := 29) 4 dX4_putInOrder_29 (by decide) ?_
      obtain ⟨r1, hr1, h⟩ := qx_bindE h
      refine qx_callVi (pc := 30) 1 r1 σ [.int x3, .int 4] [] rfl rfl rfl qcm_X4_get qcv_X4_get qwm_X4_36 rfl (Nat.le_of_ble_eq_true rfl) (Nat.le_of_ble_eq_true rfl) (by decide) dX4_putInOrder_30 (qPt_get_ok hr1) ?_
      refine qx_iload_n (pc := 33) 2 dX4_putInOrder_33 rfl ?_
      refine qx_icmp_ne (pc := 34) 53 h dX4_putInOrder_34 (by decide) (fun h => ?_) (fun h => ?_)
      · refine qx_iinc (pc := 53) (lv' := [(3, .int (x3 + 1)), (0, .ref (a 1)), (1, .int x1), (2, .int x2)]) 3 (x3 + 1) dX4_putInOrder_53 rfl rfl (Nat.le_of_ble_eq_true rfl) rfl ?_
        refine qx_goto (pc := 56) 19 dX4_putInOrder_56 (by decide) ?_
        exact qx_sub [1, 2, 3, 0] rfl (ih _ _ _ _ h)
      · refine qx_iload_n (pc := 37) 1 dX4_putInOrder_37 rfl ?_
        refine qx_bipush (pc := 38) 20 dX4_putInOrder_38 (by decide) ?_
        refine qx_icmp_ge (pc := 40) 53 h dX4_putInOrder_40 (by decide) (fun h => ?_) (fun h => ?_)
        · refine qx_iinc (pc := 53) (lv' := [(3, .int (x3 + 1)), (0, .ref (a 1)), (1, .int x1), (2, .int x2)]) 3 (x3 + 1) dX4_putInOrder_53 rfl rfl (Nat.le_of_ble_eq_true rfl) rfl ?_
          refine qx_goto (pc := 56) 19 dX4_putInOrder_56 (by decide) ?_
          exact qx_sub [1, 2, 3, 0] rfl (ih _ _ _ _ h)
        · refine qx_aload_n (pc := 43) 0 dX4_putInOrder_43 rfl ?_
          refine qgC1_2 (pc := 44) qwf_X4_19 dX4_putInOrder_44 ?_
          refine qx_iload_n (pc := 47) 1 dX4_putInOrder_47 rfl ?_
          refine qx_iload_n (pc := 48) 3 dX4_putInOrder_48 rfl ?_
          refine qsC3 (pc := 49) h dX4_putInOrder_49 (fun h => ?_)
          refine qx_iinc (pc := 50) (lv' := [(1, .int (x1 + 1)), (0, .ref (a 1)), (2, .int x2), (3, .int x3)]) 1 (x1 + 1) dX4_putInOrder_50 rfl rfl (Nat.le_of_ble_eq_true rfl) rfl ?_
          refine qx_iinc (pc := 53) (lv' := [(3, .int (x3 + 1)), (1, .int (x1 + 1)), (0, .ref (a 1)), (2, .int x2)]) 3 (x3 + 1) dX4_putInOrder_53 rfl rfl (Nat.le_of_ble_eq_true rfl) rfl ?_
          refine qx_goto (pc := 56) 19 dX4_putInOrder_56 (by decide) ?_
          exact qx_sub [2, 1, 3, 0] rfl (ih _ _ _ _ h)
set_option maxHeartbeats 4000000 in
set_option maxRecDepth 100000 in
theorem qPt_putInOrder_L8_ok : ∀ (n : Nat) (σ : QS) (x1 : Int32) (x2 : Int32) (r : QS), qPt_putInOrder_L8 n σ x1 x2 = some r → qx_E (qx_gC l D ci a z) 2 mX4_putInOrder (none, r) 8 [(0, .ref (a 1)), (1, .int x1), (2, .int x2)] [] σ := by
  intro n
  induction n with
  | zero =>
    intro σ x1 x2 r h
    exact (qx_none h).elim
  | succ n ih =>
    intro σ x1 x2 r h
    unfold qPt_putInOrder_L8 at h
    refine qx_iload_n (pc := 8) 2 dX4_putInOrder_8 rfl ?_
    refine qt0_get (pc := 9) qwf_X4_22 dX4_putInOrder_9 ?_
    refine qx_iconst (pc := 12) 4 dX4_putInOrder_12 (by decide) ?_
    refine qt0_ald (pc := 13) h dX4_putInOrder_13 (fun h => ?_)
    refine qx_icmp_lt (pc := 14) 65 h dX4_putInOrder_14 (by decide) (fun h => ?_) (fun h => ?_)
    · exact qx_vret h rfl dX4_putInOrder_65
    · refine qx_iconst (pc := 17) 0 dX4_putInOrder_17 (by decide) ?_
      refine qx_istore_n (pc := 18) (lv' := [(3, .int 0), (0, .ref (a 1)), (1, .int x1), (2, .int x2)]) dX4_putInOrder_18 (Nat.le_of_ble_eq_true rfl) rfl ?_
      exact qx_sub [1, 2, 3, 0] rfl (qPt_putInOrder_L19_ok ih qx_F _ _ _ _ h)
set_option maxHeartbeats 4000000 in
set_option maxRecDepth 100000 in
theorem qPt_putInOrder_ok {σ : QS} {r : QS} (h : qPt_putInOrder σ = some r) : qx_E (qx_gC l D ci a z) 2 mX4_putInOrder (none, r) 0 [(0, .ref (a 1))] [] σ := by
  unfold qPt_putInOrder at h
  refine qx_iconst (pc := 0) 0 dX4_putInOrder_0 (by decide) ?_
  refine qx_istore_n (pc := 1) (lv' := [(1, .int 0), (0, .ref (a 1))]) dX4_putInOrder_1 (Nat.le_of_ble_eq_true rfl) rfl ?_
  refine qt1_get (pc := 2) qwf_X4_25 dX4_putInOrder_2 ?_
  refine qx_iconst (pc := 5) 4 dX4_putInOrder_5 (by decide) ?_
  refine qt1_ald (pc := 6) h dX4_putInOrder_6 (fun h => ?_)
  refine qx_istore_n (pc := 7) (lv' := [(2, .int (qx_tab 1 (4 : Int32).toNatClampNeg)), (1, .int 0), (0, .ref (a 1))]) dX4_putInOrder_7 (Nat.le_of_ble_eq_true rfl) rfl ?_
  exact qx_sub [2, 1, 0] rfl (qPt_putInOrder_L8_ok qx_F _ _ _ _ h)
set_option maxHeartbeats 4000000 in
set_option maxRecDepth 100000 in
theorem qSe_priorityOf_ok {σ : QS} {x1 : Int32} {r : Int32} (h : qSe_priorityOf σ x1 = some r) : qx_E (qx_gC l D ci a z) 2 mX5_priorityOf (some (.int r), σ) 0 [(0, .ref (a 13)), (1, .int x1)] [] σ := by
  unfold qSe_priorityOf at h
  refine qx_aload_n (pc := 0) 0 dX5_priorityOf_0 rfl ?_
  refine qgC13_0 (pc := 1) qwf_X5_9 dX5_priorityOf_1 ?_
  refine qx_aload_n (pc := 4) 0 dX5_priorityOf_4 rfl ?_
  refine qgC13_2 (pc := 5) qwf_X5_19 dX5_priorityOf_5 ?_
  refine qx_iload_n (pc := 8) 1 dX5_priorityOf_8 rfl ?_
  refine qlC14 (pc := 9) h dX5_priorityOf_9 (fun h => ?_)
  refine qx_iconst (pc := 10) 4 dX5_priorityOf_10 (by decide) ?_
  obtain ⟨r1, hr1, h⟩ := qx_bindE h
  refine qx_callVi (pc := 11) 1 r1 σ [.int (σ.1 14 x1.toNatClampNeg), .int 4] [] rfl rfl rfl qcm_X4_get qcv_X4_get qwm_X5_80 rfl (Nat.le_of_ble_eq_true rfl) (Nat.le_of_ble_eq_true rfl) (by decide) dX5_priorityOf_11 (qPt_get_ok hr1) ?_
  exact qx_iret h rfl dX5_priorityOf_14
set_option maxHeartbeats 4000000 in
set_option maxRecDepth 100000 in
theorem qSe_sumInReach_L6_ok {σ : QS} {x2 : Int64} : ∀ (n : Nat) (x4 : Int32) (x5 : Int32) (r : Int32), qSe_sumInReach_L6 σ x2 n x4 x5 = some r → qx_E (qx_gC l D ci a z) 3 mX5_sumInReach (some (.int r), σ) 6 [(0, .ref (a 13)), (2, .long x2), (4, .int x4), (5, .int x5)] [] σ := by
  intro n
  induction n with
  | zero =>
    intro x4 x5 r h
    exact (qx_none h).elim
  | succ n ih =>
    intro x4 x5 r h
    unfold qSe_sumInReach_L6 at h
    refine qx_iload (pc := 6) 3 dX5_sumInReach_6 rfl ?_
    refine qx_aload_n (pc := 8) 0 dX5_sumInReach_8 rfl ?_
    refine qgC13_4 (pc := 9) qwf_X5_27 dX5_sumInReach_9 ?_
    refine qx_icmp_ge (pc := 12) 48 h dX5_sumInReach_12 (by decide) (fun h => ?_) (fun h => ?_)
    · refine qx_iload (pc := 48) 2 dX5_sumInReach_48 rfl ?_
      exact qx_iret h rfl dX5_sumInReach_50
    · refine qx_lload_n (pc := 15) 1 dX5_sumInReach_15 rfl ?_
      refine qx_iload (pc := 16) 3 dX5_sumInReach_16 rfl ?_
      refine qx_bipush (pc := 18) 8 dX5_sumInReach_18 (by decide) ?_
      refine qx_imul (pc := 20) dX5_sumInReach_20 ?_
      refine qx_lushr (pc := 21) dX5_sumInReach_21 ?_
      refine qx_ldc2 (pc := 22) 255 dX5_sumInReach_22 qwc_X5_78 ?_
      refine qx_land (pc := 25) dX5_sumInReach_25 ?_
      refine qx_lconst (pc := 26) 0 dX5_sumInReach_26 (by decide) ?_
      refine qx_lcmp_eq (pc := 27) 42 h dX5_sumInReach_27 dX5_sumInReach_28 (by decide) (fun h => ?_) (fun h => ?_)
      · refine qx_iinc (pc := 42) (lv' := [(5, .int (x5 + 1)), (0, .ref (a 13)), (2, .long x2), (4, .int x4)]) 3 (x5 + 1) dX5_sumInReach_42 rfl rfl (Nat.le_of_ble_eq_true rfl) rfl ?_
        refine qx_goto (pc := 45) 6 dX5_sumInReach_45 (by decide) ?_
        exact qx_sub [1, 2, 3, 0] rfl (ih _ _ _ h)
      · refine qx_iload (pc := 31) 2 dX5_sumInReach_31 rfl ?_
        refine qx_aload_n (pc := 33) 0 dX5_sumInReach_33 rfl ?_
        refine qx_iload (pc := 34) 3 dX5_sumInReach_34 rfl ?_
        obtain ⟨r1, hr1, h⟩ := qx_bindE h
        refine qx_callVi (pc := 36) 13 r1 σ [.int x5] [.int x4] rfl rfl rfl qcm_X5_priorityOf qcv_X5_priorityOf qwm_X5_73 rfl (Nat.le_of_ble_eq_true rfl) (Nat.le_of_ble_eq_true rfl) (by decide) dX5_sumInReach_36 (qSe_priorityOf_ok hr1) ?_
        refine qx_iadd (pc := 39) dX5_sumInReach_39 ?_
        refine qx_istore (pc := 40) (lv' := [(4, .int (x4 + r1)), (0, .ref (a 13)), (2, .long x2), (5, .int x5)]) dX5_sumInReach_40 (Nat.le_of_ble_eq_true rfl) rfl ?_
        refine qx_iinc (pc := 42) (lv' := [(5, .int (x5 + 1)), (4, .int (x4 + r1)), (0, .ref (a 13)), (2, .long x2)]) 3 (x5 + 1) dX5_sumInReach_42 rfl rfl (Nat.le_of_ble_eq_true rfl) rfl ?_
        refine qx_goto (pc := 45) 6 dX5_sumInReach_45 (by decide) ?_
        exact qx_sub [2, 3, 1, 0] rfl (ih _ _ _ h)
set_option maxHeartbeats 4000000 in
set_option maxRecDepth 100000 in
theorem qSe_sumInReach_ok {σ : QS} {x1 : Int32} {x2 : Int64} {r : Int32} (h : qSe_sumInReach σ x1 x2 = some r) : qx_E (qx_gC l D ci a z) 3 mX5_sumInReach (some (.int r), σ) 0 [(0, .ref (a 13)), (1, .int x1), (2, .long x2)] [] σ := by
  unfold qSe_sumInReach at h
  refine qx_iconst (pc := 0) 0 dX5_sumInReach_0 (by decide) ?_
  refine qx_istore (pc := 1) (lv' := [(4, .int 0), (0, .ref (a 13)), (1, .int x1), (2, .long x2)]) dX5_sumInReach_1 (Nat.le_of_ble_eq_true rfl) rfl ?_
  refine qx_iload_n (pc := 3) 2 dX5_sumInReach_3 rfl ?_
  refine qx_istore (pc := 4) (lv' := [(5, .int x1), (4, .int 0), (0, .ref (a 13)), (1, .int x1), (2, .long x2)]) dX5_sumInReach_4 (Nat.le_of_ble_eq_true rfl) rfl ?_
  exact qx_sub [2, 4, 1, 0] rfl (qSe_sumInReach_L6_ok qx_F _ _ _ h)
set_option maxHeartbeats 4000000 in
set_option maxRecDepth 100000 in
theorem qSe_bestFrom_L47_ok {σ : QS} {d d1 : Nat} {rc : Int32 → Int64 → Int32 → Int32 → Option (Int32)} (hrc : ∀ (x1 : Int32) (x2 : Int64) (x4 : Int32) (x5 : Int32) (r : Int32), rc x1 x2 x4 x5 = some r → qx_E (qx_gC l D ci a z) d1 mX5_bestFrom (some (.int r), σ) 0 [(0, .ref (a 13)), (1, .int x1), (2, .long x2), (4, .int x4), (5, .int x5)] [] σ) (hdd : d1 < d ∧ 4 ≤ d) {x1 : Int32} {x2 : Int64} {x4 : Int32} {x7 : Int32} : ∀ (n : Nat) (x6 : Int32) (x8 : Int32) (r : Int32), qSe_bestFrom_L47 σ rc x1 x2 x4 x7 n x6 x8 = some r → qx_E (qx_gC l D ci a z) d mX5_bestFrom (some (.int r), σ) 47 [(0, .ref (a 13)), (1, .int x1), (2, .long x2), (4, .int x4), (6, .int x6), (7, .int x7), (8, .int x8)] [] σ := by
  intro n
  induction n with
  | zero =>
    intro x6 x8 r h
    exact (qx_none h).elim
  | succ n ih =>
    intro x6 x8 r h
    unfold qSe_bestFrom_L47 at h
    refine qx_iload (pc := 47) 6 dX5_bestFrom_47 rfl ?_
    refine qx_bipush (pc := 49) 8 dX5_bestFrom_49 (by decide) ?_
    refine qx_icmp_ge (pc := 51) 106 h dX5_bestFrom_51 (by decide) (fun h => ?_) (fun h => ?_)
    · refine qx_aload_n (pc := 106) 0 dX5_bestFrom_106 rfl ?_
      refine qx_iload_n (pc := 107) 1 dX5_bestFrom_107 rfl ?_
      refine qx_iconst (pc := 108) 1 dX5_bestFrom_108 (by decide) ?_
      refine qx_iadd (pc := 109) dX5_bestFrom_109 ?_
      refine qx_lload_n (pc := 110) 2 dX5_bestFrom_110 rfl ?_
      refine qx_iload (pc := 111) 3 dX5_bestFrom_111 rfl ?_
      refine qx_iload (pc := 113) 4 dX5_bestFrom_113 rfl ?_
      obtain ⟨r1, hr1, h⟩ := qx_bindE h
      refine qx_callSi (pc := 115) r1 σ [.ref (a 13), .int (x1 + 1), .long x2, .int x4, .int x6] [] rfl qcm_X5_bestFrom qcs_X5_bestFrom qwm_X5_45 rfl (Nat.le_of_ble_eq_true rfl) (Nat.le_of_ble_eq_true rfl) hdd.1 dX5_bestFrom_115 (hrc _ _ _ _ _ hr1) ?_
      exact qx_iret h rfl dX5_bestFrom_118
    · refine qx_iload_n (pc := 54) 1 dX5_bestFrom_54 rfl ?_
      refine qx_bipush (pc := 55) 8 dX5_bestFrom_55 (by decide) ?_
      refine qx_imul (pc := 57) dX5_bestFrom_57 ?_
      refine qx_iload (pc := 58) 6 dX5_bestFrom_58 rfl ?_
      refine qx_iadd (pc := 60) dX5_bestFrom_60 ?_
      refine qx_istore (pc := 61) (lv' := [(9, .int ((x1 * 8) + x8)), (0, .ref (a 13)), (1, .int x1), (2, .long x2), (4, .int x4), (6, .int x6), (7, .int x7), (8, .int x8)]) dX5_bestFrom_61 (Nat.le_of_ble_eq_true rfl) rfl ?_
      refine qx_lload_n (pc := 63) 3 dX5_bestFrom_63 rfl ?_
      refine qx_iload (pc := 64) 0 dX5_bestFrom_64 rfl ?_
      refine qx_lushr (pc := 66) dX5_bestFrom_66 ?_
      refine qx_lconst (pc := 67) 1 dX5_bestFrom_67 (by decide) ?_
      refine qx_land (pc := 68) dX5_bestFrom_68 ?_
      refine qx_lconst (pc := 69) 1 dX5_bestFrom_69 (by decide) ?_
      refine qx_lcmp_ne (pc := 70) 100 h dX5_bestFrom_70 dX5_bestFrom_71 (by decide) (fun h => ?_) (fun h => ?_)
      · refine qx_iinc (pc := 100) (lv' := [(8, .int (x8 + 1)), (9, .int ((x1 * 8) + x8)), (0, .ref (a 13)), (1, .int x1), (2, .long x2), (4, .int x4), (6, .int x6), (7, .int x7)]) 7 (x8 + 1) dX5_bestFrom_100 rfl rfl (Nat.le_of_ble_eq_true rfl) rfl ?_
        refine qx_goto (pc := 103) 47 dX5_bestFrom_103 (by decide) ?_
        exact qx_sub [2, 3, 4, 5, 6, 7, 0] rfl (ih _ _ _ h)
      · refine qx_aload_n (pc := 74) 1 dX5_bestFrom_74 rfl ?_
        refine qx_iload_n (pc := 75) 2 dX5_bestFrom_75 rfl ?_
        refine qx_iconst (pc := 76) 1 dX5_bestFrom_76 (by decide) ?_
        refine qx_iadd (pc := 77) dX5_bestFrom_77 ?_
        refine qx_lload_n (pc := 78) 3 dX5_bestFrom_78 rfl ?_
        refine qx_aload_n (pc := 79) 1 dX5_bestFrom_79 rfl ?_
        refine qgC13_3 (pc := 80) qwf_X5_23 dX5_bestFrom_80 ?_
        refine qx_iload (pc := 83) 0 dX5_bestFrom_83 rfl ?_
        refine qlC15 (pc := 85) h dX5_bestFrom_85 (fun h => ?_)
        refine qx_ldc2 (pc := 86) (-1) dX5_bestFrom_86 qwc_X5_76 ?_
        refine qx_lxor (pc := 89) dX5_bestFrom_89 ?_
        refine qx_land (pc := 90) dX5_bestFrom_90 ?_
        refine qx_iload (pc := 91) 6 dX5_bestFrom_91 rfl ?_
        refine qx_iload (pc := 93) 5 dX5_bestFrom_93 rfl ?_
        obtain ⟨r2, hr2, h⟩ := qx_bindE h
        refine qx_callSi (pc := 95) r2 σ [.ref (a 13), .int (x1 + 1), .long (x2 &&& ((σ.2 15 ((x1 * 8) + x8).toNatClampNeg) ^^^ (-1))), .int x7, .int x6] [] rfl qcm_X5_bestFrom qcs_X5_bestFrom qwm_X5_45 rfl (Nat.le_of_ble_eq_true rfl) (Nat.le_of_ble_eq_true rfl) hdd.1 dX5_bestFrom_95 (hrc _ _ _ _ _ hr2) ?_
        refine qx_istore (pc := 98) (lv' := [(6, .int r2), (9, .int ((x1 * 8) + x8)), (0, .ref (a 13)), (1, .int x1), (2, .long x2), (4, .int x4), (7, .int x7), (8, .int x8)]) dX5_bestFrom_98 (Nat.le_of_ble_eq_true rfl) rfl ?_
        refine qx_iinc (pc := 100) (lv' := [(8, .int (x8 + 1)), (6, .int r2), (9, .int ((x1 * 8) + x8)), (0, .ref (a 13)), (1, .int x1), (2, .long x2), (4, .int x4), (7, .int x7)]) 7 (x8 + 1) dX5_bestFrom_100 rfl rfl (Nat.le_of_ble_eq_true rfl) rfl ?_
        refine qx_goto (pc := 103) 47 dX5_bestFrom_103 (by decide) ?_
        exact qx_sub [3, 4, 5, 6, 1, 7, 0] rfl (ih _ _ _ h)
set_option maxHeartbeats 4000000 in
set_option maxRecDepth 100000 in
theorem qSe_bestFrom_B_ok {σ : QS} {d d1 : Nat} {rc : Int32 → Int64 → Int32 → Int32 → Option (Int32)} (hrc : ∀ (x1 : Int32) (x2 : Int64) (x4 : Int32) (x5 : Int32) (r : Int32), rc x1 x2 x4 x5 = some r → qx_E (qx_gC l D ci a z) d1 mX5_bestFrom (some (.int r), σ) 0 [(0, .ref (a 13)), (1, .int x1), (2, .long x2), (4, .int x4), (5, .int x5)] [] σ) (hdd : d1 < d ∧ 4 ≤ d) {x1 : Int32} {x2 : Int64} {x4 : Int32} {x5 : Int32} {r : Int32} (h : qSe_bestFrom_B σ rc x1 x2 x4 x5 = some r) : qx_E (qx_gC l D ci a z) d mX5_bestFrom (some (.int r), σ) 0 [(0, .ref (a 13)), (1, .int x1), (2, .long x2), (4, .int x4), (5, .int x5)] [] σ := by
  unfold qSe_bestFrom_B at h
  refine qx_iload (pc := 0) 4 dX5_bestFrom_0 rfl ?_
  refine qx_iload (pc := 2) 3 dX5_bestFrom_2 rfl ?_
  refine qx_mmax (pc := 4) qwm_X5_63 (by omega) (Nat.le_of_ble_eq_true rfl) dX5_bestFrom_4 ?_
  refine qx_istore (pc := 7) (lv' := [(6, .int (if x5 < x4 then x4 else x5)), (0, .ref (a 13)), (1, .int x1), (2, .long x2), (4, .int x4), (5, .int x5)]) dX5_bestFrom_7 (Nat.le_of_ble_eq_true rfl) rfl ?_
  refine qx_iload_n (pc := 9) 2 dX5_bestFrom_9 rfl ?_
  refine qx_aload_n (pc := 10) 1 dX5_bestFrom_10 rfl ?_
  refine qgC13_4 (pc := 11) qwf_X5_27 dX5_bestFrom_11 ?_
  refine qx_icmp_ge (pc := 14) 31 h dX5_bestFrom_14 (by decide) (fun h => ?_) (fun h => ?_)
  · refine qx_iload (pc := 31) 0 dX5_bestFrom_31 rfl ?_
    exact qx_iret h rfl dX5_bestFrom_33
  · refine qx_iload (pc := 17) 4 dX5_bestFrom_17 rfl ?_
    refine qx_aload_n (pc := 19) 1 dX5_bestFrom_19 rfl ?_
    refine qx_iload_n (pc := 20) 2 dX5_bestFrom_20 rfl ?_
    refine qx_lload_n (pc := 21) 3 dX5_bestFrom_21 rfl ?_
    obtain ⟨r3, hr3, h⟩ := qx_bindE h
    refine qx_callVi (pc := 22) 13 r3 σ [.int x1, .long x2] [.int x4] rfl rfl rfl qcm_X5_sumInReach qcv_X5_sumInReach qwm_X5_69 rfl (Nat.le_of_ble_eq_true rfl) (Nat.le_of_ble_eq_true rfl) (by omega) dX5_bestFrom_22 (qSe_sumInReach_ok hr3) ?_
    refine qx_iadd (pc := 25) dX5_bestFrom_25 ?_
    refine qx_iload (pc := 26) 0 dX5_bestFrom_26 rfl ?_
    refine qx_icmp_gt (pc := 28) 34 h dX5_bestFrom_28 (by decide) (fun h => ?_) (fun h => ?_)
    · refine qx_iload (pc := 34) 4 dX5_bestFrom_34 rfl ?_
      refine qx_aload_n (pc := 36) 1 dX5_bestFrom_36 rfl ?_
      refine qx_iload_n (pc := 37) 2 dX5_bestFrom_37 rfl ?_
      obtain ⟨r4, hr4, h⟩ := qx_bindE h
      refine qx_callVi (pc := 38) 13 r4 σ [.int x1] [.int x4] rfl rfl rfl qcm_X5_priorityOf qcv_X5_priorityOf qwm_X5_73 rfl (Nat.le_of_ble_eq_true rfl) (Nat.le_of_ble_eq_true rfl) (by omega) dX5_bestFrom_38 (qSe_priorityOf_ok hr4) ?_
      refine qx_iadd (pc := 41) dX5_bestFrom_41 ?_
      refine qx_istore (pc := 42) (lv' := [(7, .int (x4 + r4)), (6, .int (if x5 < x4 then x4 else x5)), (0, .ref (a 13)), (1, .int x1), (2, .long x2), (4, .int x4), (5, .int x5)]) dX5_bestFrom_42 (Nat.le_of_ble_eq_true rfl) rfl ?_
      refine qx_iconst (pc := 44) 0 dX5_bestFrom_44 (by decide) ?_
      refine qx_istore (pc := 45) (lv' := [(8, .int 0), (7, .int (x4 + r4)), (6, .int (if x5 < x4 then x4 else x5)), (0, .ref (a 13)), (1, .int x1), (2, .long x2), (4, .int x4), (5, .int x5)]) dX5_bestFrom_45 (Nat.le_of_ble_eq_true rfl) rfl ?_
      exact qx_sub [3, 4, 5, 6, 2, 1, 0] rfl (qSe_bestFrom_L47_ok hrc hdd qx_F _ _ _ h)
    · refine qx_iload (pc := 31) 0 dX5_bestFrom_31 rfl ?_
      exact qx_iret h rfl dX5_bestFrom_33
theorem qSe_bestFrom_ok {σ : QS} : ∀ (n : Nat) (x1 : Int32) (x2 : Int64) (x4 : Int32) (x5 : Int32) {r : Int32}, qSe_bestFrom n σ x1 x2 x4 x5 = some r → qx_E (qx_gC l D ci a z) (4 + n) mX5_bestFrom (some (.int r), σ) 0 [(0, .ref (a 13)), (1, .int x1), (2, .long x2), (4, .int x4), (5, .int x5)] [] σ := by
  intro n
  induction n with
  | zero =>
    intro x1 x2 x4 x5 r h
    exact (qx_none h).elim
  | succ n ih =>
    intro x1 x2 x4 x5 r h
    exact qSe_bestFrom_B_ok (d1 := 4 + n) (fun x1 x2 x4 x5 r h => ih _ _ _ _ h) ⟨by omega, by omega⟩ h
set_option maxHeartbeats 4000000 in
set_option maxRecDepth 100000 in
theorem qSe_gatherCandidates_L7_ok : ∀ (n : Nat) (σ : QS) (x1 : Int32) (r : Int32 × QS), qSe_gatherCandidates_L7 n σ x1 = some r → qx_E (qx_gC l D ci a z) 3 mX5_gatherCandidates (some (.int r.1), r.2) 7 [(0, .ref (a 13)), (1, .int x1)] [] σ := by
  intro n
  induction n with
  | zero =>
    intro σ x1 r h
    exact (qx_none h).elim
  | succ n ih =>
    intro σ x1 r h
    unfold qSe_gatherCandidates_L7 at h
    refine qx_iload_n (pc := 7) 1 dX5_gatherCandidates_7 rfl ?_
    refine qx_aload_n (pc := 8) 0 dX5_gatherCandidates_8 rfl ?_
    refine qgC13_0 (pc := 9) qwf_X5_9 dX5_gatherCandidates_9 ?_
    refine qgC1_0 (pc := 12) qwf_X5_49 dX5_gatherCandidates_12 ?_
    refine qx_icmp_ge (pc := 15) 75 h dX5_gatherCandidates_15 (by decide) (fun h => ?_) (fun h => ?_)
    · refine qx_iconst (pc := 75) 1 dX5_gatherCandidates_75 (by decide) ?_
      exact qx_nretS h rfl rfl dX5_gatherCandidates_76
    · refine qx_aload_n (pc := 18) 0 dX5_gatherCandidates_18 rfl ?_
      refine qgC13_0 (pc := 19) qwf_X5_9 dX5_gatherCandidates_19 ?_
      refine qx_iload_n (pc := 22) 1 dX5_gatherCandidates_22 rfl ?_
      obtain ⟨r1, hr1, h⟩ := qx_bindE h
      refine qx_callVi (pc := 23) 1 r1 σ [.int x1] [] rfl rfl rfl qcm_X4_inOrder qcv_X4_inOrder qwm_X5_52 rfl (Nat.le_of_ble_eq_true rfl) (Nat.le_of_ble_eq_true rfl) (by decide) dX5_gatherCandidates_23 (qPt_inOrder_ok hr1) ?_
      refine qx_istore_n (pc := 26) (lv' := [(2, .int r1), (0, .ref (a 13)), (1, .int x1)]) dX5_gatherCandidates_26 (Nat.le_of_ble_eq_true rfl) rfl ?_
      refine qx_aload_n (pc := 27) 1 dX5_gatherCandidates_27 rfl ?_
      refine qgC13_1 (pc := 28) qwf_X5_15 dX5_gatherCandidates_28 ?_
      refine qx_iload_n (pc := 31) 0 dX5_gatherCandidates_31 rfl ?_
      obtain ⟨r2, hr2, h⟩ := qx_bindE h
      refine qx_callVi (pc := 32) 5 r2 σ [.int r1] [] rfl rfl rfl qcm_X3_manyOf qcv_X3_manyOf qwm_X5_56 rfl (Nat.le_of_ble_eq_true rfl) (Nat.le_of_ble_eq_true rfl) (by decide) dX5_gatherCandidates_32 (qPl_manyOf_ok hr2) ?_
      refine qx_if_le (pc := 35) 69 h dX5_gatherCandidates_35 (by decide) (fun h => ?_) (fun h => ?_)
      · refine qx_iinc (pc := 69) (lv' := [(1, .int (x1 + 1)), (2, .int r1), (0, .ref (a 13))]) 2 (x1 + 1) dX5_gatherCandidates_69 rfl rfl (Nat.le_of_ble_eq_true rfl) rfl ?_
        refine qx_goto (pc := 72) 7 dX5_gatherCandidates_72 (by decide) ?_
        exact qx_sub [2, 0] rfl (ih _ _ _ h)
      · refine qx_aload_n (pc := 38) 1 dX5_gatherCandidates_38 rfl ?_
        refine qgC13_4 (pc := 39) qwf_X5_27 dX5_gatherCandidates_39 ?_
        refine qx_bipush (pc := 42) 6 dX5_gatherCandidates_42 (by decide) ?_
        refine qx_icmp_lt (pc := 44) 49 h dX5_gatherCandidates_44 (by decide) (fun h => ?_) (fun h => ?_)
        · refine qx_aload_n (pc := 49) 1 dX5_gatherCandidates_49 rfl ?_
          refine qgC13_2 (pc := 50) qwf_X5_19 dX5_gatherCandidates_50 ?_
          refine qx_aload_n (pc := 53) 1 dX5_gatherCandidates_53 rfl ?_
          refine qgC13_4 (pc := 54) qwf_X5_27 dX5_gatherCandidates_54 ?_
          refine qx_iload_n (pc := 57) 0 dX5_gatherCandidates_57 rfl ?_
          refine qsC14 (pc := 58) h dX5_gatherCandidates_58 (fun h => ?_)
          refine qx_aload_n (pc := 59) 1 dX5_gatherCandidates_59 rfl ?_
          refine qx_dup (pc := 60) dX5_gatherCandidates_60 rfl ?_
          refine qgC13_4 (pc := 61) qwf_X5_27 dX5_gatherCandidates_61 ?_
          refine qx_iconst (pc := 64) 1 dX5_gatherCandidates_64 (by decide) ?_
          refine qx_iadd (pc := 65) dX5_gatherCandidates_65 ?_
          refine qpC13_4 (pc := 66) qwf_X5_27 dX5_gatherCandidates_66 ?_
          refine qx_iinc (pc := 69) (lv' := [(1, .int (x1 + 1)), (2, .int r1), (0, .ref (a 13))]) 2 (x1 + 1) dX5_gatherCandidates_69 rfl rfl (Nat.le_of_ble_eq_true rfl) rfl ?_
          refine qx_goto (pc := 72) 7 dX5_gatherCandidates_72 (by decide) ?_
          exact qx_sub [2, 0] rfl (ih _ _ _ h)
        · refine qx_iconst (pc := 47) 0 dX5_gatherCandidates_47 (by decide) ?_
          exact qx_nretS h rfl rfl dX5_gatherCandidates_48
set_option maxHeartbeats 4000000 in
set_option maxRecDepth 100000 in
theorem qSe_gatherCandidates_ok {σ : QS} {r : Int32 × QS} (h : qSe_gatherCandidates σ = some r) : qx_E (qx_gC l D ci a z) 3 mX5_gatherCandidates (some (.int r.1), r.2) 0 [(0, .ref (a 13))] [] σ := by
  unfold qSe_gatherCandidates at h
  refine qx_aload_n (pc := 0) 0 dX5_gatherCandidates_0 rfl ?_
  refine qx_iconst (pc := 1) 0 dX5_gatherCandidates_1 (by decide) ?_
  refine qpC13_4 (pc := 2) qwf_X5_27 dX5_gatherCandidates_2 ?_
  refine qx_iconst (pc := 5) 0 dX5_gatherCandidates_5 (by decide) ?_
  refine qx_istore_n (pc := 6) (lv' := [(1, .int 0), (0, .ref (a 13))]) dX5_gatherCandidates_6 (Nat.le_of_ble_eq_true rfl) rfl ?_
  exact qx_sub [1, 0] rfl (qSe_gatherCandidates_L7_ok qx_F _ _ _ h)
set_option maxHeartbeats 4000000 in
set_option maxRecDepth 100000 in
theorem qSe_maskOfClashes_L17_ok {σ : QS} {x1 : Int32} {x2 : Int32} {x5 : Int32} {k5 : Int64 → Int32 → Option (Int64)} (hk5 : ∀ (x3 : Int64) (x5 : Int32) (r : Int64), k5 x3 x5 = some r → qx_E (qx_gC l D ci a z) 2 mX5_maskOfClashes (some (.long r), σ) 5 [(0, .ref (a 13)), (1, .int x1), (2, .int x2), (3, .long x3), (5, .int x5)] [] σ) : ∀ (n : Nat) (x3 : Int64) (x6 : Int32) (r : Int64), qSe_maskOfClashes_L17 σ x1 x2 x5 k5 n x3 x6 = some r → qx_E (qx_gC l D ci a z) 2 mX5_maskOfClashes (some (.long r), σ) 17 [(0, .ref (a 13)), (1, .int x1), (2, .int x2), (3, .long x3), (5, .int x5), (6, .int x6)] [] σ := by
  intro n
  induction n with
  | zero =>
    intro x3 x6 r h
    exact (qx_none h).elim
  | succ n ih =>
    intro x3 x6 r h
    unfold qSe_maskOfClashes_L17 at h
    refine qx_iload (pc := 17) 5 dX5_maskOfClashes_17 rfl ?_
    refine qx_bipush (pc := 19) 8 dX5_maskOfClashes_19 (by decide) ?_
    refine qx_icmp_ge (pc := 21) 64 h dX5_maskOfClashes_21 (by decide) (fun h => ?_) (fun h => ?_)
    · refine qx_iinc (pc := 64) (lv' := [(5, .int (x5 + 1)), (0, .ref (a 13)), (1, .int x1), (2, .int x2), (3, .long x3), (6, .int x6)]) 4 (x5 + 1) dX5_maskOfClashes_64 rfl rfl (Nat.le_of_ble_eq_true rfl) rfl ?_
      refine qx_goto (pc := 67) 5 dX5_maskOfClashes_67 (by decide) ?_
      exact qx_sub [1, 2, 3, 4, 0] rfl (hk5 _ _ _ h)
    · refine qx_aload_n (pc := 24) 0 dX5_maskOfClashes_24 rfl ?_
      refine qgC13_1 (pc := 25) qwf_X5_15 dX5_maskOfClashes_25 ?_
      refine qx_iload_n (pc := 28) 1 dX5_maskOfClashes_28 rfl ?_
      refine qx_iload_n (pc := 29) 2 dX5_maskOfClashes_29 rfl ?_
      refine qx_aload_n (pc := 30) 0 dX5_maskOfClashes_30 rfl ?_
      refine qgC13_2 (pc := 31) qwf_X5_19 dX5_maskOfClashes_31 ?_
      refine qx_iload (pc := 34) 4 dX5_maskOfClashes_34 rfl ?_
      refine qlC14 (pc := 36) h dX5_maskOfClashes_36 (fun h => ?_)
      refine qx_iload (pc := 37) 5 dX5_maskOfClashes_37 rfl ?_
      obtain ⟨r1, hr1, h⟩ := qx_bindE h
      refine qx_callVi (pc := 39) 5 r1 σ [.int x1, .int x2, .int (σ.1 14 x5.toNatClampNeg), .int x6] [] rfl rfl rfl qcm_X3_doClash qcv_X3_doClash qwm_X5_59 rfl (Nat.le_of_ble_eq_true rfl) (Nat.le_of_ble_eq_true rfl) (by decide) dX5_maskOfClashes_39 (qPl_doClash_ok hr1) ?_
      refine qx_if_eq (pc := 42) 58 h dX5_maskOfClashes_42 (by decide) (fun h => ?_) (fun h => ?_)
      · refine qx_iinc (pc := 58) (lv' := [(6, .int (x6 + 1)), (0, .ref (a 13)), (1, .int x1), (2, .int x2), (3, .long x3), (5, .int x5)]) 5 (x6 + 1) dX5_maskOfClashes_58 rfl rfl (Nat.le_of_ble_eq_true rfl) rfl ?_
        refine qx_goto (pc := 61) 17 dX5_maskOfClashes_61 (by decide) ?_
        exact qx_sub [1, 2, 3, 4, 5, 0] rfl (ih _ _ _ h)
      · refine qx_lload_n (pc := 45) 3 dX5_maskOfClashes_45 rfl ?_
        refine qx_lconst (pc := 46) 1 dX5_maskOfClashes_46 (by decide) ?_
        refine qx_iload (pc := 47) 4 dX5_maskOfClashes_47 rfl ?_
        refine qx_bipush (pc := 49) 8 dX5_maskOfClashes_49 (by decide) ?_
        refine qx_imul (pc := 51) dX5_maskOfClashes_51 ?_
        refine qx_iload (pc := 52) 5 dX5_maskOfClashes_52 rfl ?_
        refine qx_iadd (pc := 54) dX5_maskOfClashes_54 ?_
        refine qx_lshl (pc := 55) dX5_maskOfClashes_55 ?_
        refine qx_lor (pc := 56) dX5_maskOfClashes_56 ?_
        refine qx_lstore_n (pc := 57) (lv' := [(3, .long (x3 ||| (1 <<< (((x5 * 8) + x6).toInt64 &&& 63)))), (0, .ref (a 13)), (1, .int x1), (2, .int x2), (5, .int x5), (6, .int x6)]) dX5_maskOfClashes_57 (Nat.le_of_ble_eq_true rfl) rfl ?_
        refine qx_iinc (pc := 58) (lv' := [(6, .int (x6 + 1)), (3, .long (x3 ||| (1 <<< (((x5 * 8) + x6).toInt64 &&& 63)))), (0, .ref (a 13)), (1, .int x1), (2, .int x2), (5, .int x5)]) 5 (x6 + 1) dX5_maskOfClashes_58 rfl rfl (Nat.le_of_ble_eq_true rfl) rfl ?_
        refine qx_goto (pc := 61) 17 dX5_maskOfClashes_61 (by decide) ?_
        exact qx_sub [2, 3, 4, 1, 5, 0] rfl (ih _ _ _ h)
set_option maxHeartbeats 4000000 in
set_option maxRecDepth 100000 in
theorem qSe_maskOfClashes_L5_ok {σ : QS} {x1 : Int32} {x2 : Int32} : ∀ (n : Nat) (x3 : Int64) (x5 : Int32) (r : Int64), qSe_maskOfClashes_L5 σ x1 x2 n x3 x5 = some r → qx_E (qx_gC l D ci a z) 2 mX5_maskOfClashes (some (.long r), σ) 5 [(0, .ref (a 13)), (1, .int x1), (2, .int x2), (3, .long x3), (5, .int x5)] [] σ := by
  intro n
  induction n with
  | zero =>
    intro x3 x5 r h
    exact (qx_none h).elim
  | succ n ih =>
    intro x3 x5 r h
    unfold qSe_maskOfClashes_L5 at h
    refine qx_iload (pc := 5) 4 dX5_maskOfClashes_5 rfl ?_
    refine qx_aload_n (pc := 7) 0 dX5_maskOfClashes_7 rfl ?_
    refine qgC13_4 (pc := 8) qwf_X5_27 dX5_maskOfClashes_8 ?_
    refine qx_icmp_ge (pc := 11) 70 h dX5_maskOfClashes_11 (by decide) (fun h => ?_) (fun h => ?_)
    · refine qx_lload_n (pc := 70) 3 dX5_maskOfClashes_70 rfl ?_
      exact qx_lret h rfl dX5_maskOfClashes_71
    · refine qx_iconst (pc := 14) 0 dX5_maskOfClashes_14 (by decide) ?_
      refine qx_istore (pc := 15) (lv' := [(6, .int 0), (0, .ref (a 13)), (1, .int x1), (2, .int x2), (3, .long x3), (5, .int x5)]) dX5_maskOfClashes_15 (Nat.le_of_ble_eq_true rfl) rfl ?_
      exact qx_sub [1, 2, 3, 4, 5, 0] rfl (qSe_maskOfClashes_L17_ok ih qx_F _ _ _ h)
set_option maxHeartbeats 4000000 in
set_option maxRecDepth 100000 in
theorem qSe_maskOfClashes_ok {σ : QS} {x1 : Int32} {x2 : Int32} {r : Int64} (h : qSe_maskOfClashes σ x1 x2 = some r) : qx_E (qx_gC l D ci a z) 2 mX5_maskOfClashes (some (.long r), σ) 0 [(0, .ref (a 13)), (1, .int x1), (2, .int x2)] [] σ := by
  unfold qSe_maskOfClashes at h
  refine qx_lconst (pc := 0) 0 dX5_maskOfClashes_0 (by decide) ?_
  refine qx_lstore_n (pc := 1) (lv' := [(3, .long 0), (0, .ref (a 13)), (1, .int x1), (2, .int x2)]) dX5_maskOfClashes_1 (Nat.le_of_ble_eq_true rfl) rfl ?_
  refine qx_iconst (pc := 2) 0 dX5_maskOfClashes_2 (by decide) ?_
  refine qx_istore (pc := 3) (lv' := [(5, .int 0), (3, .long 0), (0, .ref (a 13)), (1, .int x1), (2, .int x2)]) dX5_maskOfClashes_3 (Nat.le_of_ble_eq_true rfl) rfl ?_
  exact qx_sub [2, 3, 4, 1, 0] rfl (qSe_maskOfClashes_L5_ok qx_F _ _ _ h)
set_option maxHeartbeats 4000000 in
set_option maxRecDepth 100000 in
theorem qSe_greatestSum_J66_ok {σ : QS} {x1 : Int64} {x3 : Int32} {x4 : Int32} {x5 : Int32} {k25 : QS → Int64 → Int32 → Option (Int32 × QS)} (hk25 : ∀ (σ : QS) (x1 : Int64) (x4 : Int32) (r : Int32 × QS), k25 σ x1 x4 = some r → qx_E (qx_gC l D ci a z) 13 mX5_greatestSum (some (.int r.1), r.2) 25 [(0, .ref (a 13)), (1, .long x1), (3, .int x3), (4, .int x4)] [] σ) {r : Int32 × QS} (h : qSe_greatestSum_J66 σ k25 x1 x3 x4 x5 = some r) : qx_E (qx_gC l D ci a z) 13 mX5_greatestSum (some (.int r.1), r.2) 66 [(0, .ref (a 13)), (1, .long x1), (3, .int x3), (4, .int x4), (5, .int x5)] [] σ := by
  unfold qSe_greatestSum_J66 at h
  refine qx_aload_n (pc := 66) 0 dX5_greatestSum_66 rfl ?_
  refine qgC13_3 (pc := 67) qwf_X5_23 dX5_greatestSum_67 ?_
  refine qx_iload (pc := 70) 4 dX5_greatestSum_70 rfl ?_
  refine qx_aload_n (pc := 72) 0 dX5_greatestSum_72 rfl ?_
  refine qx_aload_n (pc := 73) 0 dX5_greatestSum_73 rfl ?_
  refine qgC13_2 (pc := 74) qwf_X5_19 dX5_greatestSum_74 ?_
  refine qx_iload_n (pc := 77) 2 dX5_greatestSum_77 rfl ?_
  refine qlC14 (pc := 78) h dX5_greatestSum_78 (fun h => ?_)
  refine qx_iload (pc := 79) 3 dX5_greatestSum_79 rfl ?_
  obtain ⟨r1, hr1, h⟩ := qx_bindE h
  refine qx_callVl (pc := 81) 13 r1 σ [.int (σ.1 14 x3.toNatClampNeg), .int x4] [.int x5, .ref (a 15)] rfl rfl rfl qcm_X5_maskOfClashes qcv_X5_maskOfClashes qwm_X5_41 rfl (Nat.le_of_ble_eq_true rfl) (Nat.le_of_ble_eq_true rfl) (by decide) dX5_greatestSum_81 (qSe_maskOfClashes_ok hr1) ?_
  refine qsC15 (pc := 84) h dX5_greatestSum_84 (fun h => ?_)
  refine qx_iinc (pc := 85) (lv' := [(4, .int (x4 + 1)), (0, .ref (a 13)), (1, .long x1), (3, .int x3), (5, .int x5)]) 3 (x4 + 1) dX5_greatestSum_85 rfl rfl (Nat.le_of_ble_eq_true rfl) rfl ?_
  refine qx_goto (pc := 88) 25 dX5_greatestSum_88 (by decide) ?_
  exact qx_sub [1, 2, 3, 0] rfl (hk25 _ _ _ _ h)
set_option maxHeartbeats 4000000 in
set_option maxRecDepth 100000 in
theorem qSe_greatestSum_L25_ok {x3 : Int32} {k14 : QS → Int64 → Int32 → Option (Int32 × QS)} (hk14 : ∀ (σ : QS) (x1 : Int64) (x3 : Int32) (r : Int32 × QS), k14 σ x1 x3 = some r → qx_E (qx_gC l D ci a z) 13 mX5_greatestSum (some (.int r.1), r.2) 14 [(0, .ref (a 13)), (1, .long x1), (3, .int x3)] [] σ) : ∀ (n : Nat) (σ : QS) (x1 : Int64) (x4 : Int32) (r : Int32 × QS), qSe_greatestSum_L25 x3 k14 n σ x1 x4 = some r → qx_E (qx_gC l D ci a z) 13 mX5_greatestSum (some (.int r.1), r.2) 25 [(0, .ref (a 13)), (1, .long x1), (3, .int x3), (4, .int x4)] [] σ := by
  intro n
  induction n with
  | zero =>
    intro σ x1 x4 r h
    exact (qx_none h).elim
  | succ n ih =>
    intro σ x1 x4 r h
    unfold qSe_greatestSum_L25 at h
    refine qx_iload (pc := 25) 3 dX5_greatestSum_25 rfl ?_
    refine qx_bipush (pc := 27) 8 dX5_greatestSum_27 (by decide) ?_
    refine qx_icmp_ge (pc := 29) 91 h dX5_greatestSum_29 (by decide) (fun h => ?_) (fun h => ?_)
    · refine qx_iinc (pc := 91) (lv' := [(3, .int (x3 + 1)), (0, .ref (a 13)), (1, .long x1), (4, .int x4)]) 2 (x3 + 1) dX5_greatestSum_91 rfl rfl (Nat.le_of_ble_eq_true rfl) rfl ?_
      refine qx_goto (pc := 94) 14 dX5_greatestSum_94 (by decide) ?_
      exact qx_sub [1, 2, 0] rfl (hk14 _ _ _ _ h)
    · refine qx_iload_n (pc := 32) 2 dX5_greatestSum_32 rfl ?_
      refine qx_bipush (pc := 33) 8 dX5_greatestSum_33 (by decide) ?_
      refine qx_imul (pc := 35) dX5_greatestSum_35 ?_
      refine qx_iload (pc := 36) 3 dX5_greatestSum_36 rfl ?_
      refine qx_iadd (pc := 38) dX5_greatestSum_38 ?_
      refine qx_istore (pc := 39) (lv' := [(5, .int ((x3 * 8) + x4)), (0, .ref (a 13)), (1, .long x1), (3, .int x3), (4, .int x4)]) dX5_greatestSum_39 (Nat.le_of_ble_eq_true rfl) rfl ?_
      refine qx_aload_n (pc := 41) 1 dX5_greatestSum_41 rfl ?_
      refine qgC13_1 (pc := 42) qwf_X5_15 dX5_greatestSum_42 ?_
      refine qx_aload_n (pc := 45) 1 dX5_greatestSum_45 rfl ?_
      refine qgC13_2 (pc := 46) qwf_X5_19 dX5_greatestSum_46 ?_
      refine qx_iload_n (pc := 49) 3 dX5_greatestSum_49 rfl ?_
      refine qlC14 (pc := 50) h dX5_greatestSum_50 (fun h => ?_)
      refine qx_iload (pc := 51) 4 dX5_greatestSum_51 rfl ?_
      obtain ⟨r2, hr2, h⟩ := qx_bindE h
      refine qx_callVi (pc := 53) 5 r2 σ [.int (σ.1 14 x3.toNatClampNeg), .int x4] [] rfl rfl rfl qcm_X3_isPlace qcv_X3_isPlace qwm_X5_35 rfl (Nat.le_of_ble_eq_true rfl) (Nat.le_of_ble_eq_true rfl) (by decide) dX5_greatestSum_53 (qPl_isPlace_ok hr2) ?_
      refine qx_if_eq (pc := 56) 66 h dX5_greatestSum_56 (by decide) (fun h => ?_) (fun h => ?_)
      · exact qx_sub [1, 2, 3, 4, 0] rfl (qSe_greatestSum_J66_ok ih h)
      · refine qx_lload_n (pc := 59) 2 dX5_greatestSum_59 rfl ?_
        refine qx_lconst (pc := 60) 1 dX5_greatestSum_60 (by decide) ?_
        refine qx_iload (pc := 61) 0 dX5_greatestSum_61 rfl ?_
        refine qx_lshl (pc := 63) dX5_greatestSum_63 ?_
        refine qx_lor (pc := 64) dX5_greatestSum_64 ?_
        refine qx_lstore_n (pc := 65) (lv' := [(1, .long (x1 ||| (1 <<< (((x3 * 8) + x4).toInt64 &&& 63)))), (5, .int ((x3 * 8) + x4)), (0, .ref (a 13)), (3, .int x3), (4, .int x4)]) dX5_greatestSum_65 (Nat.le_of_ble_eq_true rfl) rfl ?_
        exact qx_sub [2, 0, 3, 4, 1] rfl (qSe_greatestSum_J66_ok ih h)
set_option maxHeartbeats 4000000 in
set_option maxRecDepth 100000 in
theorem qSe_greatestSum_L14_ok : ∀ (n : Nat) (σ : QS) (x1 : Int64) (x3 : Int32) (r : Int32 × QS), qSe_greatestSum_L14 n σ x1 x3 = some r → qx_E (qx_gC l D ci a z) 13 mX5_greatestSum (some (.int r.1), r.2) 14 [(0, .ref (a 13)), (1, .long x1), (3, .int x3)] [] σ := by
  intro n
  induction n with
  | zero =>
    intro σ x1 x3 r h
    exact (qx_none h).elim
  | succ n ih =>
    intro σ x1 x3 r h
    unfold qSe_greatestSum_L14 at h
    refine qx_iload_n (pc := 14) 2 dX5_greatestSum_14 rfl ?_
    refine qx_aload_n (pc := 15) 0 dX5_greatestSum_15 rfl ?_
    refine qgC13_4 (pc := 16) qwf_X5_27 dX5_greatestSum_16 ?_
    refine qx_icmp_ge (pc := 19) 97 h dX5_greatestSum_19 (by decide) (fun h => ?_) (fun h => ?_)
    · refine qx_aload_n (pc := 97) 0 dX5_greatestSum_97 rfl ?_
      refine qx_iconst (pc := 98) 0 dX5_greatestSum_98 (by decide) ?_
      refine qx_lload_n (pc := 99) 1 dX5_greatestSum_99 rfl ?_
      refine qx_iconst (pc := 100) 0 dX5_greatestSum_100 (by decide) ?_
      refine qx_iconst (pc := 101) 0 dX5_greatestSum_101 (by decide) ?_
      obtain ⟨r3, hr3, h⟩ := qx_bindE h
      refine qx_callSi (pc := 102) r3 σ [.ref (a 13), .int 0, .long x1, .int 0, .int 0] [] rfl qcm_X5_bestFrom qcs_X5_bestFrom qwm_X5_45 rfl (Nat.le_of_ble_eq_true rfl) (Nat.le_of_ble_eq_true rfl) (by decide) dX5_greatestSum_102 (qSe_bestFrom_ok 8 _ _ _ _  hr3) ?_
      exact qx_iretS h rfl dX5_greatestSum_105
    · refine qx_iconst (pc := 22) 0 dX5_greatestSum_22 (by decide) ?_
      refine qx_istore (pc := 23) (lv' := [(4, .int 0), (0, .ref (a 13)), (1, .long x1), (3, .int x3)]) dX5_greatestSum_23 (Nat.le_of_ble_eq_true rfl) rfl ?_
      exact qx_sub [1, 2, 3, 0] rfl (qSe_greatestSum_L25_ok ih qx_F _ _ _ _ h)
set_option maxHeartbeats 4000000 in
set_option maxRecDepth 100000 in
theorem qSe_greatestSum_ok {σ : QS} {r : Int32 × QS} (h : qSe_greatestSum σ = some r) : qx_E (qx_gC l D ci a z) 13 mX5_greatestSum (some (.int r.1), r.2) 0 [(0, .ref (a 13))] [] σ := by
  unfold qSe_greatestSum at h
  refine qx_aload_n (pc := 0) 0 dX5_greatestSum_0 rfl ?_
  obtain ⟨r4, hr4, h⟩ := qx_bindE h
  refine qx_callVi (pc := 1) 13 r4.1 r4.2 [] [] rfl rfl rfl qcm_X5_gatherCandidates qcv_X5_gatherCandidates qwm_X5_31 rfl (Nat.le_of_ble_eq_true rfl) (Nat.le_of_ble_eq_true rfl) (by decide) dX5_greatestSum_1 (qSe_gatherCandidates_ok hr4) ?_
  refine qx_if_ne (pc := 4) 10 h dX5_greatestSum_4 (by decide) (fun h => ?_) (fun h => ?_)
  · refine qx_lconst (pc := 10) 0 dX5_greatestSum_10 (by decide) ?_
    refine qx_lstore_n (pc := 11) (lv' := [(1, .long 0), (0, .ref (a 13))]) dX5_greatestSum_11 (Nat.le_of_ble_eq_true rfl) rfl ?_
    refine qx_iconst (pc := 12) 0 dX5_greatestSum_12 (by decide) ?_
    refine qx_istore_n (pc := 13) (lv' := [(3, .int 0), (1, .long 0), (0, .ref (a 13))]) dX5_greatestSum_13 (Nat.le_of_ble_eq_true rfl) rfl ?_
    exact qx_sub [2, 1, 0] rfl (qSe_greatestSum_L14_ok qx_F _ _ _ _ h)
  · refine qx_bipush (pc := 7) (-3) dX5_greatestSum_7 (by decide) ?_
    exact qx_iretS h rfl dX5_greatestSum_9
set_option maxHeartbeats 4000000 in
set_option maxRecDepth 100000 in
theorem qTx_append_ok {σ : QS} {x1 : Int32} {r : QS} (h : qTx_append σ x1 = some r) : qx_E (qx_gC l D ci a z) 1 mX6_append (none, r) 0 [(0, .ref (a 19)), (1, .int x1)] [] σ := by
  unfold qTx_append at h
  refine qx_aload_n (pc := 0) 0 dX6_append_0 rfl ?_
  refine qgC19_1 (pc := 1) qwf_X6_15 dX6_append_1 ?_
  refine qx_aload_n (pc := 4) 0 dX6_append_4 rfl ?_
  refine qgC19_0 (pc := 5) qwf_X6_9 dX6_append_5 ?_
  refine qx_iload_n (pc := 8) 1 dX6_append_8 rfl ?_
  refine qx_i2b (pc := 9) dX6_append_9 ?_
  refine qsC20 (pc := 10) h dX6_append_10 (fun h => ?_)
  refine qx_aload_n (pc := 11) 0 dX6_append_11 rfl ?_
  refine qx_dup (pc := 12) dX6_append_12 rfl ?_
  refine qgC19_0 (pc := 13) qwf_X6_9 dX6_append_13 ?_
  refine qx_iconst (pc := 16) 1 dX6_append_16 (by decide) ?_
  refine qx_iadd (pc := 17) dX6_append_17 ?_
  refine qpC19_0 (pc := 18) qwf_X6_9 dX6_append_18 ?_
  exact qx_vret h rfl dX6_append_21
set_option maxHeartbeats 4000000 in
set_option maxRecDepth 100000 in
theorem qWi_allows_ok {σ : QS} {x0 : Int64} {x2 : Int64} {x4 : Int32} {x5 : Int32} {r : Int32} (h : qWi_allows σ x0 x2 x4 x5 = some r) : qx_E (qx_gC l D ci a z) 1 mX7_allows (some (.int r), σ) 0 [(0, .long x0), (2, .long x2), (4, .int x4), (5, .int x5)] [] σ := by
  unfold qWi_allows at h
  refine qx_iload (pc := 0) 2 dX7_allows_0 rfl ?_
  refine qx_bipush (pc := 2) 10 dX7_allows_2 (by decide) ?_
  refine qx_icmp_lt (pc := 4) 68 h dX7_allows_4 (by decide) (fun h => ?_) (fun h => ?_)
  · refine qx_iconst (pc := 68) 0 dX7_allows_68 (by decide) ?_
    exact qx_nret h rfl rfl dX7_allows_69
  · refine qx_iload (pc := 7) 2 dX7_allows_7 rfl ?_
    refine qx_bipush (pc := 9) 100 dX7_allows_9 (by decide) ?_
    refine qx_icmp_gt (pc := 11) 68 h dX7_allows_11 (by decide) (fun h => ?_) (fun h => ?_)
    · refine qx_iconst (pc := 68) 0 dX7_allows_68 (by decide) ?_
      exact qx_nret h rfl rfl dX7_allows_69
    · refine qx_iload (pc := 14) 3 dX7_allows_14 rfl ?_
      refine qx_bipush (pc := 16) 10 dX7_allows_16 (by decide) ?_
      refine qx_icmp_lt (pc := 18) 68 h dX7_allows_18 (by decide) (fun h => ?_) (fun h => ?_)
      · refine qx_iconst (pc := 68) 0 dX7_allows_68 (by decide) ?_
        exact qx_nret h rfl rfl dX7_allows_69
      · refine qx_iload (pc := 21) 3 dX7_allows_21 rfl ?_
        refine qx_bipush (pc := 23) 100 dX7_allows_23 (by decide) ?_
        refine qx_icmp_gt (pc := 25) 68 h dX7_allows_25 (by decide) (fun h => ?_) (fun h => ?_)
        · refine qx_iconst (pc := 68) 0 dX7_allows_68 (by decide) ?_
          exact qx_nret h rfl rfl dX7_allows_69
        · refine qx_lload_n (pc := 28) 0 dX7_allows_28 rfl ?_
          refine qx_lconst (pc := 29) 0 dX7_allows_29 (by decide) ?_
          refine qx_lcmp_lt (pc := 30) 68 h dX7_allows_30 dX7_allows_31 (by decide) (fun h => ?_) (fun h => ?_)
          · refine qx_iconst (pc := 68) 0 dX7_allows_68 (by decide) ?_
            exact qx_nret h rfl rfl dX7_allows_69
          · refine qx_lload_n (pc := 34) 0 dX7_allows_34 rfl ?_
            refine qx_sipush (pc := 35) 200 dX7_allows_35 (by decide) ?_
            refine qx_iload (pc := 38) 2 dX7_allows_38 rfl ?_
            refine qx_isub (pc := 40) dX7_allows_40 ?_
            refine qx_i2l (pc := 41) dX7_allows_41 ?_
            refine qx_lcmp_gt (pc := 42) 68 h dX7_allows_42 dX7_allows_43 (by decide) (fun h => ?_) (fun h => ?_)
            · refine qx_iconst (pc := 68) 0 dX7_allows_68 (by decide) ?_
              exact qx_nret h rfl rfl dX7_allows_69
            · refine qx_lload_n (pc := 46) 1 dX7_allows_46 rfl ?_
              refine qx_lconst (pc := 47) 0 dX7_allows_47 (by decide) ?_
              refine qx_lcmp_lt (pc := 48) 68 h dX7_allows_48 dX7_allows_49 (by decide) (fun h => ?_) (fun h => ?_)
              · refine qx_iconst (pc := 68) 0 dX7_allows_68 (by decide) ?_
                exact qx_nret h rfl rfl dX7_allows_69
              · refine qx_lload_n (pc := 52) 1 dX7_allows_52 rfl ?_
                refine qx_sipush (pc := 53) 200 dX7_allows_53 (by decide) ?_
                refine qx_iload (pc := 56) 3 dX7_allows_56 rfl ?_
                refine qx_isub (pc := 58) dX7_allows_58 ?_
                refine qx_i2l (pc := 59) dX7_allows_59 ?_
                refine qx_lcmp_gt (pc := 60) 68 h dX7_allows_60 dX7_allows_61 (by decide) (fun h => ?_) (fun h => ?_)
                · refine qx_iconst (pc := 68) 0 dX7_allows_68 (by decide) ?_
                  exact qx_nret h rfl rfl dX7_allows_69
                · refine qx_iconst (pc := 64) 1 dX7_allows_64 (by decide) ?_
                  refine qx_goto (pc := 65) 69 dX7_allows_65 (by decide) ?_
                  exact qx_nret h rfl rfl dX7_allows_69
set_option maxHeartbeats 4000000 in
set_option maxRecDepth 100000 in
theorem qWi_put_ok {σ : QS} {x1 : Int32} {x2 : Int32} {x3 : Int32} {x4 : Int32} {r : QS} (h : qWi_put σ x1 x2 x3 x4 = some r) : qx_E (qx_gC l D ci a z) 1 mX7_put (none, r) 0 [(0, .ref (a 4)), (1, .int x1), (2, .int x2), (3, .int x3), (4, .int x4)] [] σ := by
  unfold qWi_put at h
  refine qx_aload_n (pc := 0) 0 dX7_put_0 rfl ?_
  refine qx_iload_n (pc := 1) 1 dX7_put_1 rfl ?_
  refine qpC4_0 (pc := 2) qwf_X7_9 dX7_put_2 ?_
  refine qx_aload_n (pc := 5) 0 dX7_put_5 rfl ?_
  refine qx_iload_n (pc := 6) 2 dX7_put_6 rfl ?_
  refine qpC4_1 (pc := 7) qwf_X7_15 dX7_put_7 ?_
  refine qx_aload_n (pc := 10) 0 dX7_put_10 rfl ?_
  refine qx_iload_n (pc := 11) 3 dX7_put_11 rfl ?_
  refine qpC4_2 (pc := 12) qwf_X7_18 dX7_put_12 ?_
  refine qx_aload_n (pc := 15) 0 dX7_put_15 rfl ?_
  refine qx_iload (pc := 16) 4 dX7_put_16 rfl ?_
  refine qpC4_3 (pc := 18) qwf_X7_21 dX7_put_18 ?_
  exact qx_vret h rfl dX7_put_21
set_option maxHeartbeats 4000000 in
set_option maxRecDepth 100000 in
theorem qLP_renew_ok {σ : QS} {r : Int32 × QS} (h : qLP_renew σ = some r) : qx_E (qx_gC l D ci a z) 5 mX8_renew (some (.int r.1), r.2) 0 [(0, .ref (a 0))] [] σ := by
  unfold qLP_renew at h
  refine qx_aload_n (pc := 0) 0 dX8_renew_0 rfl ?_
  refine qgC0_0 (pc := 1) qwf_X8_12 dX8_renew_1 ?_
  obtain ⟨r1, hr1, h⟩ := qx_bindE h
  refine qx_callVv (pc := 4) 1 r1 [] [] rfl rfl rfl qcm_X4_putInOrder qcv_X4_putInOrder qwm_X8_146 rfl (Nat.le_of_ble_eq_true rfl) (Nat.le_of_ble_eq_true rfl) (by decide) dX8_renew_4 (qPt_putInOrder_ok hr1) ?_
  refine qx_aload_n (pc := 7) 0 dX8_renew_7 rfl ?_
  refine qgC0_2 (pc := 8) qwf_X8_28 dX8_renew_8 ?_
  obtain ⟨r2, hr2, h⟩ := qx_bindE h
  refine qx_callVv (pc := 11) 5 r2 [] [] rfl rfl rfl qcm_X3_findAll qcv_X3_findAll qwm_X8_149 rfl (Nat.le_of_ble_eq_true rfl) (Nat.le_of_ble_eq_true rfl) (by decide) dX8_renew_11 (qPl_findAll_ok hr2) ?_
  refine qx_aload_n (pc := 14) 0 dX8_renew_14 rfl ?_
  refine qgC0_3 (pc := 15) qwf_X8_37 dX8_renew_15 ?_
  obtain ⟨r3, hr3, h⟩ := qx_bindE h
  refine qx_callVi (pc := 18) 11 r3.1 r3.2 [] [] rfl rfl rfl qcm_X1_dropLost qcv_X1_dropLost qwm_X8_152 rfl (Nat.le_of_ble_eq_true rfl) (Nat.le_of_ble_eq_true rfl) (by decide) dX8_renew_18 (qLb_dropLost_ok hr3) ?_
  exact qx_iretS h rfl dX8_renew_21
end
