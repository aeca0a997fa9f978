section
variable {l : Launch} {D : va_G} {ci : Nat → ClassId} {a z : Nat → Nat}
theorem dX1_ownerOf_0 : decode cX1_ownerOf 0 = .ok (.iconst 0, 1) := by decide +kernel
theorem dX1_ownerOf_1 : decode cX1_ownerOf 1 = .ok (.istore_n 3, 1) := by decide +kernel
theorem dX1_ownerOf_2 : decode cX1_ownerOf 2 = .ok (.iload_n 3, 1) := by decide +kernel
theorem dX1_ownerOf_3 : decode cX1_ownerOf 3 = .ok (.aload_n 0, 1) := by decide +kernel
theorem dX1_ownerOf_4 : decode cX1_ownerOf 4 = .ok (.getfield 9, 3) := by decide +kernel
theorem dX1_ownerOf_7 : decode cX1_ownerOf 7 = .ok (.getfield 29, 3) := by decide +kernel
theorem dX1_ownerOf_10 : decode cX1_ownerOf 10 = .ok (.if_icmp .ge 38, 3) := by decide +kernel
theorem dX1_ownerOf_13 : decode cX1_ownerOf 13 = .ok (.aload_n 0, 1) := by decide +kernel
theorem dX1_ownerOf_14 : decode cX1_ownerOf 14 = .ok (.iload_n 3, 1) := by decide +kernel
theorem dX1_ownerOf_15 : decode cX1_ownerOf 15 = .ok (.invokevirtual 35, 3) := by decide +kernel
theorem dX1_ownerOf_18 : decode cX1_ownerOf 18 = .ok (.ifCond .eq 24, 3) := by decide +kernel
theorem dX1_ownerOf_21 : decode cX1_ownerOf 21 = .ok (.aload_n 0, 1) := by decide +kernel
theorem dX1_ownerOf_22 : decode cX1_ownerOf 22 = .ok (.getfield 15, 3) := by decide +kernel
theorem dX1_ownerOf_25 : decode cX1_ownerOf 25 = .ok (.iload_n 3, 1) := by decide +kernel
theorem dX1_ownerOf_26 : decode cX1_ownerOf 26 = .ok (.aload_n 0, 1) := by decide +kernel
theorem dX1_ownerOf_27 : decode cX1_ownerOf 27 = .ok (.getfield 19, 3) := by decide +kernel
theorem dX1_ownerOf_30 : decode cX1_ownerOf 30 = .ok (.iload_n 3, 1) := by decide +kernel
theorem dX1_ownerOf_31 : decode cX1_ownerOf 31 = .ok (.iaload, 1) := by decide +kernel
theorem dX1_ownerOf_32 : decode cX1_ownerOf 32 = .ok (.iload_n 1, 1) := by decide +kernel
theorem dX1_ownerOf_33 : decode cX1_ownerOf 33 = .ok (.iload_n 2, 1) := by decide +kernel
theorem dX1_ownerOf_34 : decode cX1_ownerOf 34 = .ok (.invokevirtual 60, 3) := by decide +kernel
theorem dX1_ownerOf_37 : decode cX1_ownerOf 37 = .ok (.ifCond .eq 5, 3) := by decide +kernel
theorem dX1_ownerOf_40 : decode cX1_ownerOf 40 = .ok (.iload_n 3, 1) := by decide +kernel
theorem dX1_ownerOf_41 : decode cX1_ownerOf 41 = .ok (.ireturn, 1) := by decide +kernel
theorem dX1_ownerOf_42 : decode cX1_ownerOf 42 = .ok (.iinc 3 1, 3) := by decide +kernel
theorem dX1_ownerOf_45 : decode cX1_ownerOf 45 = .ok (.goto (-43), 3) := by decide +kernel
theorem dX1_ownerOf_48 : decode cX1_ownerOf 48 = .ok (.iconst (-1), 1) := by decide +kernel
theorem dX1_ownerOf_49 : decode cX1_ownerOf 49 = .ok (.ireturn, 1) := by decide +kernel
theorem dX7_holds_0 : decode cX7_holds 0 = .ok (.iload_n 1, 1) := by decide +kernel
theorem dX7_holds_1 : decode cX7_holds 1 = .ok (.aload_n 0, 1) := by decide +kernel
theorem dX7_holds_2 : decode cX7_holds 2 = .ok (.getfield 9, 3) := by decide +kernel
theorem dX7_holds_5 : decode cX7_holds 5 = .ok (.if_icmp .lt 46, 3) := by decide +kernel
theorem dX7_holds_8 : decode cX7_holds 8 = .ok (.iload_n 1, 1) := by decide +kernel
theorem dX7_holds_9 : decode cX7_holds 9 = .ok (.iload_n 3, 1) := by decide +kernel
theorem dX7_holds_10 : decode cX7_holds 10 = .ok (.iadd, 1) := by decide +kernel
theorem dX7_holds_11 : decode cX7_holds 11 = .ok (.aload_n 0, 1) := by decide +kernel
theorem dX7_holds_12 : decode cX7_holds 12 = .ok (.getfield 9, 3) := by decide +kernel
theorem dX7_holds_15 : decode cX7_holds 15 = .ok (.aload_n 0, 1) := by decide +kernel
theorem dX7_holds_16 : decode cX7_holds 16 = .ok (.getfield 18, 3) := by decide +kernel
theorem dX7_holds_19 : decode cX7_holds 19 = .ok (.iadd, 1) := by decide +kernel
theorem dX7_holds_20 : decode cX7_holds 20 = .ok (.if_icmp .gt 31, 3) := by decide +kernel
theorem dX7_holds_23 : decode cX7_holds 23 = .ok (.iload_n 2, 1) := by decide +kernel
theorem dX7_holds_24 : decode cX7_holds 24 = .ok (.aload_n 0, 1) := by decide +kernel
theorem dX7_holds_25 : decode cX7_holds 25 = .ok (.getfield 15, 3) := by decide +kernel
theorem dX7_holds_28 : decode cX7_holds 28 = .ok (.if_icmp .lt 23, 3) := by decide +kernel
theorem dX7_holds_31 : decode cX7_holds 31 = .ok (.iload_n 2, 1) := by decide +kernel
theorem dX7_holds_32 : decode cX7_holds 32 = .ok (.iload 4, 2) := by decide +kernel
theorem dX7_holds_34 : decode cX7_holds 34 = .ok (.iadd, 1) := by decide +kernel
theorem dX7_holds_35 : decode cX7_holds 35 = .ok (.aload_n 0, 1) := by decide +kernel
theorem dX7_holds_36 : decode cX7_holds 36 = .ok (.getfield 15, 3) := by decide +kernel
theorem dX7_holds_39 : decode cX7_holds 39 = .ok (.aload_n 0, 1) := by decide +kernel
theorem dX7_holds_40 : decode cX7_holds 40 = .ok (.getfield 21, 3) := by decide +kernel
theorem dX7_holds_43 : decode cX7_holds 43 = .ok (.iadd, 1) := by decide +kernel
theorem dX7_holds_44 : decode cX7_holds 44 = .ok (.if_icmp .gt 7, 3) := by decide +kernel
theorem dX7_holds_47 : decode cX7_holds 47 = .ok (.iconst 1, 1) := by decide +kernel
theorem dX7_holds_48 : decode cX7_holds 48 = .ok (.goto 4, 3) := by decide +kernel
theorem dX7_holds_51 : decode cX7_holds 51 = .ok (.iconst 0, 1) := by decide +kernel
theorem dX7_holds_52 : decode cX7_holds 52 = .ok (.ireturn, 1) := by decide +kernel
theorem dX3_isVisible_0 : decode cX3_isVisible 0 = .ok (.aload_n 0, 1) := by decide +kernel
theorem dX3_isVisible_1 : decode cX3_isVisible 1 = .ok (.getfield 15, 3) := by decide +kernel
theorem dX3_isVisible_4 : decode cX3_isVisible 4 = .ok (.aload_n 0, 1) := by decide +kernel
theorem dX3_isVisible_5 : decode cX3_isVisible 5 = .ok (.getfield 9, 3) := by decide +kernel
theorem dX3_isVisible_8 : decode cX3_isVisible 8 = .ok (.iload_n 1, 1) := by decide +kernel
theorem dX3_isVisible_9 : decode cX3_isVisible 9 = .ok (.iconst 0, 1) := by decide +kernel
theorem dX3_isVisible_10 : decode cX3_isVisible 10 = .ok (.invokevirtual 49, 3) := by decide +kernel
theorem dX3_isVisible_13 : decode cX3_isVisible 13 = .ok (.aload_n 0, 1) := by decide +kernel
theorem dX3_isVisible_14 : decode cX3_isVisible 14 = .ok (.getfield 9, 3) := by decide +kernel
theorem dX3_isVisible_17 : decode cX3_isVisible 17 = .ok (.iload_n 1, 1) := by decide +kernel
theorem dX3_isVisible_18 : decode cX3_isVisible 18 = .ok (.iconst 1, 1) := by decide +kernel
theorem dX3_isVisible_19 : decode cX3_isVisible 19 = .ok (.invokevirtual 49, 3) := by decide +kernel
theorem dX3_isVisible_22 : decode cX3_isVisible 22 = .ok (.iconst 1, 1) := by decide +kernel
theorem dX3_isVisible_23 : decode cX3_isVisible 23 = .ok (.iconst 1, 1) := by decide +kernel
theorem dX3_isVisible_24 : decode cX3_isVisible 24 = .ok (.invokevirtual 66, 3) := by decide +kernel
theorem dX3_isVisible_27 : decode cX3_isVisible 27 = .ok (.ireturn, 1) := by decide +kernel
theorem dX1_lacksLabel_0 : decode cX1_lacksLabel 0 = .ok (.aload_n 0, 1) := by decide +kernel
theorem dX1_lacksLabel_1 : decode cX1_lacksLabel 1 = .ok (.iload_n 1, 1) := by decide +kernel
theorem dX1_lacksLabel_2 : decode cX1_lacksLabel 2 = .ok (.invokevirtual 35, 3) := by decide +kernel
theorem dX1_lacksLabel_5 : decode cX1_lacksLabel 5 = .ok (.ifCond .ne 18, 3) := by decide +kernel
theorem dX1_lacksLabel_8 : decode cX1_lacksLabel 8 = .ok (.aload_n 0, 1) := by decide +kernel
theorem dX1_lacksLabel_9 : decode cX1_lacksLabel 9 = .ok (.getfield 15, 3) := by decide +kernel
theorem dX1_lacksLabel_12 : decode cX1_lacksLabel 12 = .ok (.iload_n 1, 1) := by decide +kernel
theorem dX1_lacksLabel_13 : decode cX1_lacksLabel 13 = .ok (.invokevirtual 64, 3) := by decide +kernel
theorem dX1_lacksLabel_16 : decode cX1_lacksLabel 16 = .ok (.ifCond .eq 7, 3) := by decide +kernel
theorem dX1_lacksLabel_19 : decode cX1_lacksLabel 19 = .ok (.iconst 1, 1) := by decide +kernel
theorem dX1_lacksLabel_20 : decode cX1_lacksLabel 20 = .ok (.goto 4, 3) := by decide +kernel
theorem dX1_lacksLabel_23 : decode cX1_lacksLabel 23 = .ok (.iconst 0, 1) := by decide +kernel
theorem dX1_lacksLabel_24 : decode cX1_lacksLabel 24 = .ok (.ireturn, 1) := by decide +kernel
theorem dX1_isFree_0 : decode cX1_isFree 0 = .ok (.aload_n 0, 1) := by decide +kernel
theorem dX1_isFree_1 : decode cX1_isFree 1 = .ok (.getfield 15, 3) := by decide +kernel
theorem dX1_isFree_4 : decode cX1_isFree 4 = .ok (.iload_n 1, 1) := by decide +kernel
theorem dX1_isFree_5 : decode cX1_isFree 5 = .ok (.iload_n 2, 1) := by decide +kernel
theorem dX1_isFree_6 : decode cX1_isFree 6 = .ok (.invokevirtual 39, 3) := by decide +kernel
theorem dX1_isFree_9 : decode cX1_isFree 9 = .ok (.ifCond .eq 16, 3) := by decide +kernel
theorem dX1_isFree_12 : decode cX1_isFree 12 = .ok (.aload_n 0, 1) := by decide +kernel
theorem dX1_isFree_13 : decode cX1_isFree 13 = .ok (.iload_n 1, 1) := by decide +kernel
theorem dX1_isFree_14 : decode cX1_isFree 14 = .ok (.iload_n 2, 1) := by decide +kernel
theorem dX1_isFree_15 : decode cX1_isFree 15 = .ok (.invokevirtual 53, 3) := by decide +kernel
theorem dX1_isFree_18 : decode cX1_isFree 18 = .ok (.ifCond .ne 7, 3) := by decide +kernel
theorem dX1_isFree_21 : decode cX1_isFree 21 = .ok (.iconst 1, 1) := by decide +kernel
theorem dX1_isFree_22 : decode cX1_isFree 22 = .ok (.goto 4, 3) := by decide +kernel
theorem dX1_isFree_25 : decode cX1_isFree 25 = .ok (.iconst 0, 1) := by decide +kernel
theorem dX1_isFree_26 : decode cX1_isFree 26 = .ok (.ireturn, 1) := by decide +kernel
theorem dX1_showOnLeastFree_0 : decode cX1_showOnLeastFree 0 = .ok (.iconst 0, 1) := by decide +kernel
theorem dX1_showOnLeastFree_1 : decode cX1_showOnLeastFree 1 = .ok (.istore_n 2, 1) := by decide +kernel
theorem dX1_showOnLeastFree_2 : decode cX1_showOnLeastFree 2 = .ok (.iload_n 2, 1) := by decide +kernel
theorem dX1_showOnLeastFree_3 : decode cX1_showOnLeastFree 3 = .ok (.bipush 8, 2) := by decide +kernel
theorem dX1_showOnLeastFree_5 : decode cX1_showOnLeastFree 5 = .ok (.if_icmp .ge 26, 3) := by decide +kernel
theorem dX1_showOnLeastFree_8 : decode cX1_showOnLeastFree 8 = .ok (.aload_n 0, 1) := by decide +kernel
theorem dX1_showOnLeastFree_9 : decode cX1_showOnLeastFree 9 = .ok (.iload_n 1, 1) := by decide +kernel
theorem dX1_showOnLeastFree_10 : decode cX1_showOnLeastFree 10 = .ok (.iload_n 2, 1) := by decide +kernel
theorem dX1_showOnLeastFree_11 : decode cX1_showOnLeastFree 11 = .ok (.invokevirtual 80, 3) := by decide +kernel
theorem dX1_showOnLeastFree_14 : decode cX1_showOnLeastFree 14 = .ok (.ifCond .eq 11, 3) := by decide +kernel
theorem dX1_showOnLeastFree_17 : decode cX1_showOnLeastFree 17 = .ok (.aload_n 0, 1) := by decide +kernel
theorem dX1_showOnLeastFree_18 : decode cX1_showOnLeastFree 18 = .ok (.iload_n 1, 1) := by decide +kernel
theorem dX1_showOnLeastFree_19 : decode cX1_showOnLeastFree 19 = .ok (.iload_n 2, 1) := by decide +kernel
theorem dX1_showOnLeastFree_20 : decode cX1_showOnLeastFree 20 = .ok (.invokevirtual 83, 3) := by decide +kernel
theorem dX1_showOnLeastFree_23 : decode cX1_showOnLeastFree 23 = .ok (.iconst 1, 1) := by decide +kernel
theorem dX1_showOnLeastFree_24 : decode cX1_showOnLeastFree 24 = .ok (.ireturn, 1) := by decide +kernel
theorem dX1_showOnLeastFree_25 : decode cX1_showOnLeastFree 25 = .ok (.iinc 2 1, 3) := by decide +kernel
theorem dX1_showOnLeastFree_28 : decode cX1_showOnLeastFree 28 = .ok (.goto (-26), 3) := by decide +kernel
theorem dX1_showOnLeastFree_31 : decode cX1_showOnLeastFree 31 = .ok (.iconst 0, 1) := by decide +kernel
theorem dX1_showOnLeastFree_32 : decode cX1_showOnLeastFree 32 = .ok (.ireturn, 1) := by decide +kernel
theorem dX4_inOrder_0 : decode cX4_inOrder 0 = .ok (.aload_n 0, 1) := by decide +kernel
theorem dX4_inOrder_1 : decode cX4_inOrder 1 = .ok (.getfield 19, 3) := by decide +kernel
theorem dX4_inOrder_4 : decode cX4_inOrder 4 = .ok (.iload_n 1, 1) := by decide +kernel
theorem dX4_inOrder_5 : decode cX4_inOrder 5 = .ok (.iaload, 1) := by decide +kernel
theorem dX4_inOrder_6 : decode cX4_inOrder 6 = .ok (.ireturn, 1) := by decide +kernel
theorem dX1_addFree_0 : decode cX1_addFree 0 = .ok (.iconst 0, 1) := by decide +kernel
theorem dX1_addFree_1 : decode cX1_addFree 1 = .ok (.istore_n 1, 1) := by decide +kernel
theorem dX1_addFree_2 : decode cX1_addFree 2 = .ok (.iconst 0, 1) := by decide +kernel
theorem dX1_addFree_3 : decode cX1_addFree 3 = .ok (.istore_n 2, 1) := by decide +kernel
theorem dX1_addFree_4 : decode cX1_addFree 4 = .ok (.iload_n 2, 1) := by decide +kernel
theorem dX1_addFree_5 : decode cX1_addFree 5 = .ok (.aload_n 0, 1) := by decide +kernel
theorem dX1_addFree_6 : decode cX1_addFree 6 = .ok (.getfield 9, 3) := by decide +kernel
theorem dX1_addFree_9 : decode cX1_addFree 9 = .ok (.getfield 29, 3) := by decide +kernel
theorem dX1_addFree_12 : decode cX1_addFree 12 = .ok (.if_icmp .ge 37, 3) := by decide +kernel
theorem dX1_addFree_15 : decode cX1_addFree 15 = .ok (.aload_n 0, 1) := by decide +kernel
theorem dX1_addFree_16 : decode cX1_addFree 16 = .ok (.getfield 9, 3) := by decide +kernel
theorem dX1_addFree_19 : decode cX1_addFree 19 = .ok (.iload_n 2, 1) := by decide +kernel
theorem dX1_addFree_20 : decode cX1_addFree 20 = .ok (.invokevirtual 70, 3) := by decide +kernel
theorem dX1_addFree_23 : decode cX1_addFree 23 = .ok (.istore_n 3, 1) := by decide +kernel
theorem dX1_addFree_24 : decode cX1_addFree 24 = .ok (.aload_n 0, 1) := by decide +kernel
theorem dX1_addFree_25 : decode cX1_addFree 25 = .ok (.iload_n 3, 1) := by decide +kernel
theorem dX1_addFree_26 : decode cX1_addFree 26 = .ok (.invokevirtual 74, 3) := by decide +kernel
theorem dX1_addFree_29 : decode cX1_addFree 29 = .ok (.ifCond .eq 14, 3) := by decide +kernel
theorem dX1_addFree_32 : decode cX1_addFree 32 = .ok (.aload_n 0, 1) := by decide +kernel
theorem dX1_addFree_33 : decode cX1_addFree 33 = .ok (.iload_n 3, 1) := by decide +kernel
theorem dX1_addFree_34 : decode cX1_addFree 34 = .ok (.invokevirtual 77, 3) := by decide +kernel
theorem dX1_addFree_37 : decode cX1_addFree 37 = .ok (.ifCond .eq 6, 3) := by decide +kernel
theorem dX1_addFree_40 : decode cX1_addFree 40 = .ok (.iinc 1 1, 3) := by decide +kernel
theorem dX1_addFree_43 : decode cX1_addFree 43 = .ok (.iinc 2 1, 3) := by decide +kernel
theorem dX1_addFree_46 : decode cX1_addFree 46 = .ok (.goto (-42), 3) := by decide +kernel
theorem dX1_addFree_49 : decode cX1_addFree 49 = .ok (.iload_n 1, 1) := by decide +kernel
theorem dX1_addFree_50 : decode cX1_addFree 50 = .ok (.ireturn, 1) := by decide +kernel
theorem dX1_firstClashing_0 : decode cX1_firstClashing 0 = .ok (.iconst 0, 1) := by decide +kernel
theorem dX1_firstClashing_1 : decode cX1_firstClashing 1 = .ok (.istore_n 3, 1) := by decide +kernel
theorem dX1_firstClashing_2 : decode cX1_firstClashing 2 = .ok (.iload_n 3, 1) := by decide +kernel
theorem dX1_firstClashing_3 : decode cX1_firstClashing 3 = .ok (.aload_n 0, 1) := by decide +kernel
theorem dX1_firstClashing_4 : decode cX1_firstClashing 4 = .ok (.getfield 9, 3) := by decide +kernel
theorem dX1_firstClashing_7 : decode cX1_firstClashing 7 = .ok (.getfield 29, 3) := by decide +kernel
theorem dX1_firstClashing_10 : decode cX1_firstClashing 10 = .ok (.if_icmp .ge 30, 3) := by decide +kernel
theorem dX1_firstClashing_13 : decode cX1_firstClashing 13 = .ok (.aload_n 0, 1) := by decide +kernel
theorem dX1_firstClashing_14 : decode cX1_firstClashing 14 = .ok (.getfield 15, 3) := by decide +kernel
theorem dX1_firstClashing_17 : decode cX1_firstClashing 17 = .ok (.iload_n 1, 1) := by decide +kernel
theorem dX1_firstClashing_18 : decode cX1_firstClashing 18 = .ok (.iload_n 2, 1) := by decide +kernel
theorem dX1_firstClashing_19 : decode cX1_firstClashing 19 = .ok (.iload_n 3, 1) := by decide +kernel
theorem dX1_firstClashing_20 : decode cX1_firstClashing 20 = .ok (.aload_n 0, 1) := by decide +kernel
theorem dX1_firstClashing_21 : decode cX1_firstClashing 21 = .ok (.getfield 19, 3) := by decide +kernel
theorem dX1_firstClashing_24 : decode cX1_firstClashing 24 = .ok (.iload_n 3, 1) := by decide +kernel
theorem dX1_firstClashing_25 : decode cX1_firstClashing 25 = .ok (.iaload, 1) := by decide +kernel
theorem dX1_firstClashing_26 : decode cX1_firstClashing 26 = .ok (.invokevirtual 67, 3) := by decide +kernel
theorem dX1_firstClashing_29 : decode cX1_firstClashing 29 = .ok (.ifCond .eq 5, 3) := by decide +kernel
theorem dX1_firstClashing_32 : decode cX1_firstClashing 32 = .ok (.iload_n 3, 1) := by decide +kernel
theorem dX1_firstClashing_33 : decode cX1_firstClashing 33 = .ok (.ireturn, 1) := by decide +kernel
theorem dX1_firstClashing_34 : decode cX1_firstClashing 34 = .ok (.iinc 3 1, 3) := by decide +kernel
theorem dX1_firstClashing_37 : decode cX1_firstClashing 37 = .ok (.goto (-35), 3) := by decide +kernel
theorem dX1_firstClashing_40 : decode cX1_firstClashing 40 = .ok (.iconst (-1), 1) := by decide +kernel
theorem dX1_firstClashing_41 : decode cX1_firstClashing 41 = .ok (.ireturn, 1) := by decide +kernel
theorem dX1_moveAside_0 : decode cX1_moveAside 0 = .ok (.iconst 0, 1) := by decide +kernel
theorem dX1_moveAside_1 : decode cX1_moveAside 1 = .ok (.istore 4, 2) := by decide +kernel
theorem dX1_moveAside_3 : decode cX1_moveAside 3 = .ok (.iload 4, 2) := by decide +kernel
theorem dX1_moveAside_5 : decode cX1_moveAside 5 = .ok (.bipush 8, 2) := by decide +kernel
theorem dX1_moveAside_7 : decode cX1_moveAside 7 = .ok (.if_icmp .ge 48, 3) := by decide +kernel
theorem dX1_moveAside_10 : decode cX1_moveAside 10 = .ok (.iload_n 1, 1) := by decide +kernel
theorem dX1_moveAside_11 : decode cX1_moveAside 11 = .ok (.iconst (-1), 1) := by decide +kernel
theorem dX1_moveAside_12 : decode cX1_moveAside 12 = .ok (.if_icmp .eq 43, 3) := by decide +kernel
theorem dX1_moveAside_15 : decode cX1_moveAside 15 = .ok (.aload_n 0, 1) := by decide +kernel
theorem dX1_moveAside_16 : decode cX1_moveAside 16 = .ok (.iload_n 1, 1) := by decide +kernel
theorem dX1_moveAside_17 : decode cX1_moveAside 17 = .ok (.iload 4, 2) := by decide +kernel
theorem dX1_moveAside_19 : decode cX1_moveAside 19 = .ok (.invokevirtual 80, 3) := by decide +kernel
theorem dX1_moveAside_22 : decode cX1_moveAside 22 = .ok (.ifCond .eq 27, 3) := by decide +kernel
theorem dX1_moveAside_25 : decode cX1_moveAside 25 = .ok (.aload_n 0, 1) := by decide +kernel
theorem dX1_moveAside_26 : decode cX1_moveAside 26 = .ok (.getfield 15, 3) := by decide +kernel
theorem dX1_moveAside_29 : decode cX1_moveAside 29 = .ok (.iload_n 2, 1) := by decide +kernel
theorem dX1_moveAside_30 : decode cX1_moveAside 30 = .ok (.iload_n 3, 1) := by decide +kernel
theorem dX1_moveAside_31 : decode cX1_moveAside 31 = .ok (.iload_n 1, 1) := by decide +kernel
theorem dX1_moveAside_32 : decode cX1_moveAside 32 = .ok (.iload 4, 2) := by decide +kernel
theorem dX1_moveAside_34 : decode cX1_moveAside 34 = .ok (.invokevirtual 67, 3) := by decide +kernel
theorem dX1_moveAside_37 : decode cX1_moveAside 37 = .ok (.ifCond .ne 12, 3) := by decide +kernel
theorem dX1_moveAside_40 : decode cX1_moveAside 40 = .ok (.aload_n 0, 1) := by decide +kernel
theorem dX1_moveAside_41 : decode cX1_moveAside 41 = .ok (.iload_n 1, 1) := by decide +kernel
theorem dX1_moveAside_42 : decode cX1_moveAside 42 = .ok (.iload 4, 2) := by decide +kernel
theorem dX1_moveAside_44 : decode cX1_moveAside 44 = .ok (.invokevirtual 83, 3) := by decide +kernel
theorem dX1_moveAside_47 : decode cX1_moveAside 47 = .ok (.iconst 1, 1) := by decide +kernel
theorem dX1_moveAside_48 : decode cX1_moveAside 48 = .ok (.ireturn, 1) := by decide +kernel
theorem dX1_moveAside_49 : decode cX1_moveAside 49 = .ok (.iinc 4 1, 3) := by decide +kernel
theorem dX1_moveAside_52 : decode cX1_moveAside 52 = .ok (.goto (-49), 3) := by decide +kernel
theorem dX1_moveAside_55 : decode cX1_moveAside 55 = .ok (.iconst 0, 1) := by decide +kernel
theorem dX1_moveAside_56 : decode cX1_moveAside 56 = .ok (.ireturn, 1) := by decide +kernel
theorem dX1_showByMoving_0 : decode cX1_showByMoving 0 = .ok (.iconst 0, 1) := by decide +kernel
theorem dX1_showByMoving_1 : decode cX1_showByMoving 1 = .ok (.istore_n 2, 1) := by decide +kernel
theorem dX1_showByMoving_2 : decode cX1_showByMoving 2 = .ok (.iload_n 2, 1) := by decide +kernel
theorem dX1_showByMoving_3 : decode cX1_showByMoving 3 = .ok (.bipush 8, 2) := by decide +kernel
theorem dX1_showByMoving_5 : decode cX1_showByMoving 5 = .ok (.if_icmp .ge 61, 3) := by decide +kernel
theorem dX1_showByMoving_8 : decode cX1_showByMoving 8 = .ok (.aload_n 0, 1) := by decide +kernel
theorem dX1_showByMoving_9 : decode cX1_showByMoving 9 = .ok (.iload_n 1, 1) := by decide +kernel
theorem dX1_showByMoving_10 : decode cX1_showByMoving 10 = .ok (.iload_n 2, 1) := by decide +kernel
theorem dX1_showByMoving_11 : decode cX1_showByMoving 11 = .ok (.invokevirtual 80, 3) := by decide +kernel
theorem dX1_showByMoving_14 : decode cX1_showByMoving 14 = .ok (.ifCond .ne 28, 3) := by decide +kernel
theorem dX1_showByMoving_17 : decode cX1_showByMoving 17 = .ok (.aload_n 0, 1) := by decide +kernel
theorem dX1_showByMoving_18 : decode cX1_showByMoving 18 = .ok (.iload_n 1, 1) := by decide +kernel
theorem dX1_showByMoving_19 : decode cX1_showByMoving 19 = .ok (.iload_n 2, 1) := by decide +kernel
theorem dX1_showByMoving_20 : decode cX1_showByMoving 20 = .ok (.invokevirtual 53, 3) := by decide +kernel
theorem dX1_showByMoving_23 : decode cX1_showByMoving 23 = .ok (.iconst 1, 1) := by decide +kernel
theorem dX1_showByMoving_24 : decode cX1_showByMoving 24 = .ok (.if_icmp .ne 22, 3) := by decide +kernel
theorem dX1_showByMoving_27 : decode cX1_showByMoving 27 = .ok (.aload_n 0, 1) := by decide +kernel
theorem dX1_showByMoving_28 : decode cX1_showByMoving 28 = .ok (.aload_n 0, 1) := by decide +kernel
theorem dX1_showByMoving_29 : decode cX1_showByMoving 29 = .ok (.iload_n 1, 1) := by decide +kernel
theorem dX1_showByMoving_30 : decode cX1_showByMoving 30 = .ok (.iload_n 2, 1) := by decide +kernel
theorem dX1_showByMoving_31 : decode cX1_showByMoving 31 = .ok (.invokevirtual 90, 3) := by decide +kernel
theorem dX1_showByMoving_34 : decode cX1_showByMoving 34 = .ok (.iload_n 1, 1) := by decide +kernel
theorem dX1_showByMoving_35 : decode cX1_showByMoving 35 = .ok (.iload_n 2, 1) := by decide +kernel
theorem dX1_showByMoving_36 : decode cX1_showByMoving 36 = .ok (.invokevirtual 93, 3) := by decide +kernel
theorem dX1_showByMoving_39 : decode cX1_showByMoving 39 = .ok (.ifCond .eq 7, 3) := by decide +kernel
theorem dX1_showByMoving_42 : decode cX1_showByMoving 42 = .ok (.iconst 1, 1) := by decide +kernel
theorem dX1_showByMoving_43 : decode cX1_showByMoving 43 = .ok (.goto 4, 3) := by decide +kernel
theorem dX1_showByMoving_46 : decode cX1_showByMoving 46 = .ok (.iconst 0, 1) := by decide +kernel
theorem dX1_showByMoving_47 : decode cX1_showByMoving 47 = .ok (.istore_n 3, 1) := by decide +kernel
theorem dX1_showByMoving_48 : decode cX1_showByMoving 48 = .ok (.iload_n 3, 1) := by decide +kernel
theorem dX1_showByMoving_49 : decode cX1_showByMoving 49 = .ok (.ifCond .eq 11, 3) := by decide +kernel
theorem dX1_showByMoving_52 : decode cX1_showByMoving 52 = .ok (.aload_n 0, 1) := by decide +kernel
theorem dX1_showByMoving_53 : decode cX1_showByMoving 53 = .ok (.iload_n 1, 1) := by decide +kernel
theorem dX1_showByMoving_54 : decode cX1_showByMoving 54 = .ok (.iload_n 2, 1) := by decide +kernel
theorem dX1_showByMoving_55 : decode cX1_showByMoving 55 = .ok (.invokevirtual 83, 3) := by decide +kernel
theorem dX1_showByMoving_58 : decode cX1_showByMoving 58 = .ok (.iconst 1, 1) := by decide +kernel
theorem dX1_showByMoving_59 : decode cX1_showByMoving 59 = .ok (.ireturn, 1) := by decide +kernel
theorem dX1_showByMoving_60 : decode cX1_showByMoving 60 = .ok (.iinc 2 1, 3) := by decide +kernel
theorem dX1_showByMoving_63 : decode cX1_showByMoving 63 = .ok (.goto (-61), 3) := by decide +kernel
theorem dX1_showByMoving_66 : decode cX1_showByMoving 66 = .ok (.iconst 0, 1) := by decide +kernel
theorem dX1_showByMoving_67 : decode cX1_showByMoving 67 = .ok (.ireturn, 1) := by decide +kernel
theorem dX1_makeRoom_0 : decode cX1_makeRoom 0 = .ok (.iconst 0, 1) := by decide +kernel
theorem dX1_makeRoom_1 : decode cX1_makeRoom 1 = .ok (.istore_n 1, 1) := by decide +kernel
theorem dX1_makeRoom_2 : decode cX1_makeRoom 2 = .ok (.iconst 0, 1) := by decide +kernel
theorem dX1_makeRoom_3 : decode cX1_makeRoom 3 = .ok (.istore_n 2, 1) := by decide +kernel
theorem dX1_makeRoom_4 : decode cX1_makeRoom 4 = .ok (.iload_n 2, 1) := by decide +kernel
theorem dX1_makeRoom_5 : decode cX1_makeRoom 5 = .ok (.aload_n 0, 1) := by decide +kernel
theorem dX1_makeRoom_6 : decode cX1_makeRoom 6 = .ok (.getfield 9, 3) := by decide +kernel
theorem dX1_makeRoom_9 : decode cX1_makeRoom 9 = .ok (.getfield 29, 3) := by decide +kernel
theorem dX1_makeRoom_12 : decode cX1_makeRoom 12 = .ok (.if_icmp .ge 37, 3) := by decide +kernel
theorem dX1_makeRoom_15 : decode cX1_makeRoom 15 = .ok (.aload_n 0, 1) := by decide +kernel
theorem dX1_makeRoom_16 : decode cX1_makeRoom 16 = .ok (.getfield 9, 3) := by decide +kernel
theorem dX1_makeRoom_19 : decode cX1_makeRoom 19 = .ok (.iload_n 2, 1) := by decide +kernel
theorem dX1_makeRoom_20 : decode cX1_makeRoom 20 = .ok (.invokevirtual 70, 3) := by decide +kernel
theorem dX1_makeRoom_23 : decode cX1_makeRoom 23 = .ok (.istore_n 3, 1) := by decide +kernel
theorem dX1_makeRoom_24 : decode cX1_makeRoom 24 = .ok (.aload_n 0, 1) := by decide +kernel
theorem dX1_makeRoom_25 : decode cX1_makeRoom 25 = .ok (.iload_n 3, 1) := by decide +kernel
theorem dX1_makeRoom_26 : decode cX1_makeRoom 26 = .ok (.invokevirtual 74, 3) := by decide +kernel
theorem dX1_makeRoom_29 : decode cX1_makeRoom 29 = .ok (.ifCond .eq 14, 3) := by decide +kernel
theorem dX1_makeRoom_32 : decode cX1_makeRoom 32 = .ok (.aload_n 0, 1) := by decide +kernel
theorem dX1_makeRoom_33 : decode cX1_makeRoom 33 = .ok (.iload_n 3, 1) := by decide +kernel
theorem dX1_makeRoom_34 : decode cX1_makeRoom 34 = .ok (.invokevirtual 87, 3) := by decide +kernel
theorem dX1_makeRoom_37 : decode cX1_makeRoom 37 = .ok (.ifCond .eq 6, 3) := by decide +kernel
theorem dX1_makeRoom_40 : decode cX1_makeRoom 40 = .ok (.iinc 1 1, 3) := by decide +kernel
theorem dX1_makeRoom_43 : decode cX1_makeRoom 43 = .ok (.iinc 2 1, 3) := by decide +kernel
theorem dX1_makeRoom_46 : decode cX1_makeRoom 46 = .ok (.goto (-42), 3) := by decide +kernel
theorem dX1_makeRoom_49 : decode cX1_makeRoom 49 = .ok (.iload_n 1, 1) := by decide +kernel
theorem dX1_makeRoom_50 : decode cX1_makeRoom 50 = .ok (.ireturn, 1) := by decide +kernel
theorem dX1_hideClashing_0 : decode cX1_hideClashing 0 = .ok (.iconst 0, 1) := by decide +kernel
theorem dX1_hideClashing_1 : decode cX1_hideClashing 1 = .ok (.istore_n 3, 1) := by decide +kernel
theorem dX1_hideClashing_2 : decode cX1_hideClashing 2 = .ok (.iload_n 3, 1) := by decide +kernel
theorem dX1_hideClashing_3 : decode cX1_hideClashing 3 = .ok (.aload_n 0, 1) := by decide +kernel
theorem dX1_hideClashing_4 : decode cX1_hideClashing 4 = .ok (.getfield 9, 3) := by decide +kernel
theorem dX1_hideClashing_7 : decode cX1_hideClashing 7 = .ok (.getfield 29, 3) := by decide +kernel
theorem dX1_hideClashing_10 : decode cX1_hideClashing 10 = .ok (.if_icmp .ge 33, 3) := by decide +kernel
theorem dX1_hideClashing_13 : decode cX1_hideClashing 13 = .ok (.aload_n 0, 1) := by decide +kernel
theorem dX1_hideClashing_14 : decode cX1_hideClashing 14 = .ok (.getfield 15, 3) := by decide +kernel
theorem dX1_hideClashing_17 : decode cX1_hideClashing 17 = .ok (.iload_n 1, 1) := by decide +kernel
theorem dX1_hideClashing_18 : decode cX1_hideClashing 18 = .ok (.iload_n 2, 1) := by decide +kernel
theorem dX1_hideClashing_19 : decode cX1_hideClashing 19 = .ok (.iload_n 3, 1) := by decide +kernel
theorem dX1_hideClashing_20 : decode cX1_hideClashing 20 = .ok (.aload_n 0, 1) := by decide +kernel
theorem dX1_hideClashing_21 : decode cX1_hideClashing 21 = .ok (.getfield 19, 3) := by decide +kernel
theorem dX1_hideClashing_24 : decode cX1_hideClashing 24 = .ok (.iload_n 3, 1) := by decide +kernel
theorem dX1_hideClashing_25 : decode cX1_hideClashing 25 = .ok (.iaload, 1) := by decide +kernel
theorem dX1_hideClashing_26 : decode cX1_hideClashing 26 = .ok (.invokevirtual 67, 3) := by decide +kernel
theorem dX1_hideClashing_29 : decode cX1_hideClashing 29 = .ok (.ifCond .eq 8, 3) := by decide +kernel
theorem dX1_hideClashing_32 : decode cX1_hideClashing 32 = .ok (.aload_n 0, 1) := by decide +kernel
theorem dX1_hideClashing_33 : decode cX1_hideClashing 33 = .ok (.iload_n 3, 1) := by decide +kernel
theorem dX1_hideClashing_34 : decode cX1_hideClashing 34 = .ok (.invokevirtual 45, 3) := by decide +kernel
theorem dX1_hideClashing_37 : decode cX1_hideClashing 37 = .ok (.iinc 3 1, 3) := by decide +kernel
theorem dX1_hideClashing_40 : decode cX1_hideClashing 40 = .ok (.goto (-38), 3) := by decide +kernel
theorem dX1_hideClashing_43 : decode cX1_hideClashing 43 = .ok (.return_, 1) := by decide +kernel
theorem dX1_outranksClashing_0 : decode cX1_outranksClashing 0 = .ok (.aload_n 0, 1) := by decide +kernel
theorem dX1_outranksClashing_1 : decode cX1_outranksClashing 1 = .ok (.getfield 9, 3) := by decide +kernel
theorem dX1_outranksClashing_4 : decode cX1_outranksClashing 4 = .ok (.iload_n 1, 1) := by decide +kernel
theorem dX1_outranksClashing_5 : decode cX1_outranksClashing 5 = .ok (.iconst 4, 1) := by decide +kernel
theorem dX1_outranksClashing_6 : decode cX1_outranksClashing 6 = .ok (.invokevirtual 57, 3) := by decide +kernel
theorem dX1_outranksClashing_9 : decode cX1_outranksClashing 9 = .ok (.istore_n 3, 1) := by decide +kernel
theorem dX1_outranksClashing_10 : decode cX1_outranksClashing 10 = .ok (.iconst 0, 1) := by decide +kernel
theorem dX1_outranksClashing_11 : decode cX1_outranksClashing 11 = .ok (.istore 4, 2) := by decide +kernel
theorem dX1_outranksClashing_13 : decode cX1_outranksClashing 13 = .ok (.iload 4, 2) := by decide +kernel
theorem dX1_outranksClashing_15 : decode cX1_outranksClashing 15 = .ok (.aload_n 0, 1) := by decide +kernel
theorem dX1_outranksClashing_16 : decode cX1_outranksClashing 16 = .ok (.getfield 9, 3) := by decide +kernel
theorem dX1_outranksClashing_19 : decode cX1_outranksClashing 19 = .ok (.getfield 29, 3) := by decide +kernel
theorem dX1_outranksClashing_22 : decode cX1_outranksClashing 22 = .ok (.if_icmp .ge 46, 3) := by decide +kernel
theorem dX1_outranksClashing_25 : decode cX1_outranksClashing 25 = .ok (.aload_n 0, 1) := by decide +kernel
theorem dX1_outranksClashing_26 : decode cX1_outranksClashing 26 = .ok (.getfield 9, 3) := by decide +kernel
theorem dX1_outranksClashing_29 : decode cX1_outranksClashing 29 = .ok (.iload 4, 2) := by decide +kernel
theorem dX1_outranksClashing_31 : decode cX1_outranksClashing 31 = .ok (.iconst 4, 1) := by decide +kernel
theorem dX1_outranksClashing_32 : decode cX1_outranksClashing 32 = .ok (.invokevirtual 57, 3) := by decide +kernel
theorem dX1_outranksClashing_35 : decode cX1_outranksClashing 35 = .ok (.iload_n 3, 1) := by decide +kernel
theorem dX1_outranksClashing_36 : decode cX1_outranksClashing 36 = .ok (.if_icmp .lt 26, 3) := by decide +kernel
theorem dX1_outranksClashing_39 : decode cX1_outranksClashing 39 = .ok (.aload_n 0, 1) := by decide +kernel
theorem dX1_outranksClashing_40 : decode cX1_outranksClashing 40 = .ok (.getfield 15, 3) := by decide +kernel
theorem dX1_outranksClashing_43 : decode cX1_outranksClashing 43 = .ok (.iload_n 1, 1) := by decide +kernel
theorem dX1_outranksClashing_44 : decode cX1_outranksClashing 44 = .ok (.iload_n 2, 1) := by decide +kernel
theorem dX1_outranksClashing_45 : decode cX1_outranksClashing 45 = .ok (.iload 4, 2) := by decide +kernel
theorem dX1_outranksClashing_47 : decode cX1_outranksClashing 47 = .ok (.aload_n 0, 1) := by decide +kernel
theorem dX1_outranksClashing_48 : decode cX1_outranksClashing 48 = .ok (.getfield 19, 3) := by decide +kernel
theorem dX1_outranksClashing_51 : decode cX1_outranksClashing 51 = .ok (.iload 4, 2) := by decide +kernel
theorem dX1_outranksClashing_53 : decode cX1_outranksClashing 53 = .ok (.iaload, 1) := by decide +kernel
theorem dX1_outranksClashing_54 : decode cX1_outranksClashing 54 = .ok (.invokevirtual 67, 3) := by decide +kernel
theorem dX1_outranksClashing_57 : decode cX1_outranksClashing 57 = .ok (.ifCond .eq 5, 3) := by decide +kernel
theorem dX1_outranksClashing_60 : decode cX1_outranksClashing 60 = .ok (.iconst 0, 1) := by decide +kernel
theorem dX1_outranksClashing_61 : decode cX1_outranksClashing 61 = .ok (.ireturn, 1) := by decide +kernel
theorem dX1_outranksClashing_62 : decode cX1_outranksClashing 62 = .ok (.iinc 4 1, 3) := by decide +kernel
theorem dX1_outranksClashing_65 : decode cX1_outranksClashing 65 = .ok (.goto (-52), 3) := by decide +kernel
theorem dX1_outranksClashing_68 : decode cX1_outranksClashing 68 = .ok (.iconst 1, 1) := by decide +kernel
theorem dX1_outranksClashing_69 : decode cX1_outranksClashing 69 = .ok (.ireturn, 1) := by decide +kernel
theorem dX1_sideToPush_0 : decode cX1_sideToPush 0 = .ok (.aload_n 0, 1) := by decide +kernel
theorem dX1_sideToPush_1 : decode cX1_sideToPush 1 = .ok (.iload_n 1, 1) := by decide +kernel
theorem dX1_sideToPush_2 : decode cX1_sideToPush 2 = .ok (.invokevirtual 74, 3) := by decide +kernel
theorem dX1_sideToPush_5 : decode cX1_sideToPush 5 = .ok (.ifCond .ne 5, 3) := by decide +kernel
theorem dX1_sideToPush_8 : decode cX1_sideToPush 8 = .ok (.iconst (-1), 1) := by decide +kernel
theorem dX1_sideToPush_9 : decode cX1_sideToPush 9 = .ok (.ireturn, 1) := by decide +kernel
theorem dX1_sideToPush_10 : decode cX1_sideToPush 10 = .ok (.iconst 0, 1) := by decide +kernel
theorem dX1_sideToPush_11 : decode cX1_sideToPush 11 = .ok (.istore_n 2, 1) := by decide +kernel
theorem dX1_sideToPush_12 : decode cX1_sideToPush 12 = .ok (.iload_n 2, 1) := by decide +kernel
theorem dX1_sideToPush_13 : decode cX1_sideToPush 13 = .ok (.bipush 8, 2) := by decide +kernel
theorem dX1_sideToPush_15 : decode cX1_sideToPush 15 = .ok (.if_icmp .ge 32, 3) := by decide +kernel
theorem dX1_sideToPush_18 : decode cX1_sideToPush 18 = .ok (.aload_n 0, 1) := by decide +kernel
theorem dX1_sideToPush_19 : decode cX1_sideToPush 19 = .ok (.getfield 15, 3) := by decide +kernel
theorem dX1_sideToPush_22 : decode cX1_sideToPush 22 = .ok (.iload_n 1, 1) := by decide +kernel
theorem dX1_sideToPush_23 : decode cX1_sideToPush 23 = .ok (.iload_n 2, 1) := by decide +kernel
theorem dX1_sideToPush_24 : decode cX1_sideToPush 24 = .ok (.invokevirtual 39, 3) := by decide +kernel
theorem dX1_sideToPush_27 : decode cX1_sideToPush 27 = .ok (.ifCond .eq 14, 3) := by decide +kernel
theorem dX1_sideToPush_30 : decode cX1_sideToPush 30 = .ok (.aload_n 0, 1) := by decide +kernel
theorem dX1_sideToPush_31 : decode cX1_sideToPush 31 = .ok (.iload_n 1, 1) := by decide +kernel
theorem dX1_sideToPush_32 : decode cX1_sideToPush 32 = .ok (.iload_n 2, 1) := by decide +kernel
theorem dX1_sideToPush_33 : decode cX1_sideToPush 33 = .ok (.invokevirtual 107, 3) := by decide +kernel
theorem dX1_sideToPush_36 : decode cX1_sideToPush 36 = .ok (.ifCond .eq 5, 3) := by decide +kernel
theorem dX1_sideToPush_39 : decode cX1_sideToPush 39 = .ok (.iload_n 2, 1) := by decide +kernel
theorem dX1_sideToPush_40 : decode cX1_sideToPush 40 = .ok (.ireturn, 1) := by decide +kernel
theorem dX1_sideToPush_41 : decode cX1_sideToPush 41 = .ok (.iinc 2 1, 3) := by decide +kernel
theorem dX1_sideToPush_44 : decode cX1_sideToPush 44 = .ok (.goto (-32), 3) := by decide +kernel
theorem dX1_sideToPush_47 : decode cX1_sideToPush 47 = .ok (.iconst (-1), 1) := by decide +kernel
theorem dX1_sideToPush_48 : decode cX1_sideToPush 48 = .ok (.ireturn, 1) := by decide +kernel
theorem dX1_pushFirst_0 : decode cX1_pushFirst 0 = .ok (.iconst 0, 1) := by decide +kernel
theorem dX1_pushFirst_1 : decode cX1_pushFirst 1 = .ok (.istore_n 1, 1) := by decide +kernel
theorem dX1_pushFirst_2 : decode cX1_pushFirst 2 = .ok (.iload_n 1, 1) := by decide +kernel
theorem dX1_pushFirst_3 : decode cX1_pushFirst 3 = .ok (.aload_n 0, 1) := by decide +kernel
theorem dX1_pushFirst_4 : decode cX1_pushFirst 4 = .ok (.getfield 9, 3) := by decide +kernel
theorem dX1_pushFirst_7 : decode cX1_pushFirst 7 = .ok (.getfield 29, 3) := by decide +kernel
theorem dX1_pushFirst_10 : decode cX1_pushFirst 10 = .ok (.if_icmp .ge 43, 3) := by decide +kernel
theorem dX1_pushFirst_13 : decode cX1_pushFirst 13 = .ok (.aload_n 0, 1) := by decide +kernel
theorem dX1_pushFirst_14 : decode cX1_pushFirst 14 = .ok (.getfield 9, 3) := by decide +kernel
theorem dX1_pushFirst_17 : decode cX1_pushFirst 17 = .ok (.iload_n 1, 1) := by decide +kernel
theorem dX1_pushFirst_18 : decode cX1_pushFirst 18 = .ok (.invokevirtual 70, 3) := by decide +kernel
theorem dX1_pushFirst_21 : decode cX1_pushFirst 21 = .ok (.istore_n 2, 1) := by decide +kernel
theorem dX1_pushFirst_22 : decode cX1_pushFirst 22 = .ok (.aload_n 0, 1) := by decide +kernel
theorem dX1_pushFirst_23 : decode cX1_pushFirst 23 = .ok (.iload_n 2, 1) := by decide +kernel
theorem dX1_pushFirst_24 : decode cX1_pushFirst 24 = .ok (.invokevirtual 101, 3) := by decide +kernel
theorem dX1_pushFirst_27 : decode cX1_pushFirst 27 = .ok (.istore_n 3, 1) := by decide +kernel
theorem dX1_pushFirst_28 : decode cX1_pushFirst 28 = .ok (.iload_n 3, 1) := by decide +kernel
theorem dX1_pushFirst_29 : decode cX1_pushFirst 29 = .ok (.iconst (-1), 1) := by decide +kernel
theorem dX1_pushFirst_30 : decode cX1_pushFirst 30 = .ok (.if_icmp .eq 17, 3) := by decide +kernel
theorem dX1_pushFirst_33 : decode cX1_pushFirst 33 = .ok (.aload_n 0, 1) := by decide +kernel
theorem dX1_pushFirst_34 : decode cX1_pushFirst 34 = .ok (.iload_n 2, 1) := by decide +kernel
theorem dX1_pushFirst_35 : decode cX1_pushFirst 35 = .ok (.iload_n 3, 1) := by decide +kernel
theorem dX1_pushFirst_36 : decode cX1_pushFirst 36 = .ok (.invokevirtual 104, 3) := by decide +kernel
theorem dX1_pushFirst_39 : decode cX1_pushFirst 39 = .ok (.aload_n 0, 1) := by decide +kernel
theorem dX1_pushFirst_40 : decode cX1_pushFirst 40 = .ok (.iload_n 2, 1) := by decide +kernel
theorem dX1_pushFirst_41 : decode cX1_pushFirst 41 = .ok (.iload_n 3, 1) := by decide +kernel
theorem dX1_pushFirst_42 : decode cX1_pushFirst 42 = .ok (.invokevirtual 83, 3) := by decide +kernel
theorem dX1_pushFirst_45 : decode cX1_pushFirst 45 = .ok (.iconst 1, 1) := by decide +kernel
theorem dX1_pushFirst_46 : decode cX1_pushFirst 46 = .ok (.ireturn, 1) := by decide +kernel
theorem dX1_pushFirst_47 : decode cX1_pushFirst 47 = .ok (.iinc 1 1, 3) := by decide +kernel
theorem dX1_pushFirst_50 : decode cX1_pushFirst 50 = .ok (.goto (-48), 3) := by decide +kernel
theorem dX1_pushFirst_53 : decode cX1_pushFirst 53 = .ok (.iconst 0, 1) := by decide +kernel
theorem dX1_pushFirst_54 : decode cX1_pushFirst 54 = .ok (.ireturn, 1) := by decide +kernel
theorem dX1_pushAway_0 : decode cX1_pushAway 0 = .ok (.iconst 0, 1) := by decide +kernel
theorem dX1_pushAway_1 : decode cX1_pushAway 1 = .ok (.istore_n 1, 1) := by decide +kernel
theorem dX1_pushAway_2 : decode cX1_pushAway 2 = .ok (.iload_n 1, 1) := by decide +kernel
theorem dX1_pushAway_3 : decode cX1_pushAway 3 = .ok (.sipush 1000, 3) := by decide +kernel
theorem dX1_pushAway_6 : decode cX1_pushAway 6 = .ok (.if_icmp .ge 16, 3) := by decide +kernel
theorem dX1_pushAway_9 : decode cX1_pushAway 9 = .ok (.aload_n 0, 1) := by decide +kernel
theorem dX1_pushAway_10 : decode cX1_pushAway 10 = .ok (.invokevirtual 97, 3) := by decide +kernel
theorem dX1_pushAway_13 : decode cX1_pushAway 13 = .ok (.ifCond .eq 9, 3) := by decide +kernel
theorem dX1_pushAway_16 : decode cX1_pushAway 16 = .ok (.iinc 1 1, 3) := by decide +kernel
theorem dX1_pushAway_19 : decode cX1_pushAway 19 = .ok (.goto (-17), 3) := by decide +kernel
theorem dX1_pushAway_22 : decode cX1_pushAway 22 = .ok (.iload_n 1, 1) := by decide +kernel
theorem dX1_pushAway_23 : decode cX1_pushAway 23 = .ok (.ireturn, 1) := by decide +kernel
theorem dX1_manyThatCanPush_0 : decode cX1_manyThatCanPush 0 = .ok (.iconst 0, 1) := by decide +kernel
theorem dX1_manyThatCanPush_1 : decode cX1_manyThatCanPush 1 = .ok (.istore_n 1, 1) := by decide +kernel
theorem dX1_manyThatCanPush_2 : decode cX1_manyThatCanPush 2 = .ok (.iconst 0, 1) := by decide +kernel
theorem dX1_manyThatCanPush_3 : decode cX1_manyThatCanPush 3 = .ok (.istore_n 2, 1) := by decide +kernel
theorem dX1_manyThatCanPush_4 : decode cX1_manyThatCanPush 4 = .ok (.iload_n 2, 1) := by decide +kernel
theorem dX1_manyThatCanPush_5 : decode cX1_manyThatCanPush 5 = .ok (.aload_n 0, 1) := by decide +kernel
theorem dX1_manyThatCanPush_6 : decode cX1_manyThatCanPush 6 = .ok (.getfield 9, 3) := by decide +kernel
theorem dX1_manyThatCanPush_9 : decode cX1_manyThatCanPush 9 = .ok (.getfield 29, 3) := by decide +kernel
theorem dX1_manyThatCanPush_12 : decode cX1_manyThatCanPush 12 = .ok (.if_icmp .ge 21, 3) := by decide +kernel
theorem dX1_manyThatCanPush_15 : decode cX1_manyThatCanPush 15 = .ok (.aload_n 0, 1) := by decide +kernel
theorem dX1_manyThatCanPush_16 : decode cX1_manyThatCanPush 16 = .ok (.iload_n 2, 1) := by decide +kernel
theorem dX1_manyThatCanPush_17 : decode cX1_manyThatCanPush 17 = .ok (.invokevirtual 101, 3) := by decide +kernel
theorem dX1_manyThatCanPush_20 : decode cX1_manyThatCanPush 20 = .ok (.iconst (-1), 1) := by decide +kernel
theorem dX1_manyThatCanPush_21 : decode cX1_manyThatCanPush 21 = .ok (.if_icmp .eq 6, 3) := by decide +kernel
theorem dX1_manyThatCanPush_24 : decode cX1_manyThatCanPush 24 = .ok (.iinc 1 1, 3) := by decide +kernel
theorem dX1_manyThatCanPush_27 : decode cX1_manyThatCanPush 27 = .ok (.iinc 2 1, 3) := by decide +kernel
theorem dX1_manyThatCanPush_30 : decode cX1_manyThatCanPush 30 = .ok (.goto (-26), 3) := by decide +kernel
theorem dX1_manyThatCanPush_33 : decode cX1_manyThatCanPush 33 = .ok (.iload_n 1, 1) := by decide +kernel
theorem dX1_manyThatCanPush_34 : decode cX1_manyThatCanPush 34 = .ok (.ireturn, 1) := by decide +kernel
theorem dX2_get_0 : decode cX2_get 0 = .ok (.aload_n 0, 1) := by decide +kernel
theorem dX2_get_1 : decode cX2_get 1 = .ok (.getfield 27, 3) := by decide +kernel
theorem dX2_get_4 : decode cX2_get 4 = .ok (.iload_n 1, 1) := by decide +kernel
theorem dX2_get_5 : decode cX2_get 5 = .ok (.iconst 4, 1) := by decide +kernel
theorem dX2_get_6 : decode cX2_get 6 = .ok (.imul, 1) := by decide +kernel
theorem dX2_get_7 : decode cX2_get 7 = .ok (.iload_n 2, 1) := by decide +kernel
theorem dX2_get_8 : decode cX2_get 8 = .ok (.iadd, 1) := by decide +kernel
theorem dX2_get_9 : decode cX2_get 9 = .ok (.iaload, 1) := by decide +kernel
theorem dX2_get_10 : decode cX2_get 10 = .ok (.ireturn, 1) := by decide +kernel
theorem dX2_comesBefore_0 : decode cX2_comesBefore 0 = .ok (.aload_n 0, 1) := by decide +kernel
theorem dX2_comesBefore_1 : decode cX2_comesBefore 1 = .ok (.getfield 9, 3) := by decide +kernel
theorem dX2_comesBefore_4 : decode cX2_comesBefore 4 = .ok (.iload_n 1, 1) := by decide +kernel
theorem dX2_comesBefore_5 : decode cX2_comesBefore 5 = .ok (.iconst 1, 1) := by decide +kernel
theorem dX2_comesBefore_6 : decode cX2_comesBefore 6 = .ok (.invokevirtual 67, 3) := by decide +kernel
theorem dX2_comesBefore_9 : decode cX2_comesBefore 9 = .ok (.istore_n 3, 1) := by decide +kernel
theorem dX2_comesBefore_10 : decode cX2_comesBefore 10 = .ok (.aload_n 0, 1) := by decide +kernel
theorem dX2_comesBefore_11 : decode cX2_comesBefore 11 = .ok (.getfield 9, 3) := by decide +kernel
theorem dX2_comesBefore_14 : decode cX2_comesBefore 14 = .ok (.iload_n 2, 1) := by decide +kernel
theorem dX2_comesBefore_15 : decode cX2_comesBefore 15 = .ok (.iconst 1, 1) := by decide +kernel
theorem dX2_comesBefore_16 : decode cX2_comesBefore 16 = .ok (.invokevirtual 67, 3) := by decide +kernel
theorem dX2_comesBefore_19 : decode cX2_comesBefore 19 = .ok (.istore 4, 2) := by decide +kernel
theorem dX2_comesBefore_21 : decode cX2_comesBefore 21 = .ok (.iload_n 3, 1) := by decide +kernel
theorem dX2_comesBefore_22 : decode cX2_comesBefore 22 = .ok (.iload 4, 2) := by decide +kernel
theorem dX2_comesBefore_24 : decode cX2_comesBefore 24 = .ok (.if_icmp .gt 30, 3) := by decide +kernel
theorem dX2_comesBefore_27 : decode cX2_comesBefore 27 = .ok (.iload_n 3, 1) := by decide +kernel
theorem dX2_comesBefore_28 : decode cX2_comesBefore 28 = .ok (.iload 4, 2) := by decide +kernel
theorem dX2_comesBefore_30 : decode cX2_comesBefore 30 = .ok (.if_icmp .ne 28, 3) := by decide +kernel
theorem dX2_comesBefore_33 : decode cX2_comesBefore 33 = .ok (.aload_n 0, 1) := by decide +kernel
theorem dX2_comesBefore_34 : decode cX2_comesBefore 34 = .ok (.getfield 9, 3) := by decide +kernel
theorem dX2_comesBefore_37 : decode cX2_comesBefore 37 = .ok (.iload_n 1, 1) := by decide +kernel
theorem dX2_comesBefore_38 : decode cX2_comesBefore 38 = .ok (.iconst 0, 1) := by decide +kernel
theorem dX2_comesBefore_39 : decode cX2_comesBefore 39 = .ok (.invokevirtual 67, 3) := by decide +kernel
theorem dX2_comesBefore_42 : decode cX2_comesBefore 42 = .ok (.aload_n 0, 1) := by decide +kernel
theorem dX2_comesBefore_43 : decode cX2_comesBefore 43 = .ok (.getfield 9, 3) := by decide +kernel
theorem dX2_comesBefore_46 : decode cX2_comesBefore 46 = .ok (.iload_n 2, 1) := by decide +kernel
theorem dX2_comesBefore_47 : decode cX2_comesBefore 47 = .ok (.iconst 0, 1) := by decide +kernel
theorem dX2_comesBefore_48 : decode cX2_comesBefore 48 = .ok (.invokevirtual 67, 3) := by decide +kernel
theorem dX2_comesBefore_51 : decode cX2_comesBefore 51 = .ok (.if_icmp .ge 7, 3) := by decide +kernel
theorem dX2_comesBefore_54 : decode cX2_comesBefore 54 = .ok (.iconst 1, 1) := by decide +kernel
theorem dX2_comesBefore_55 : decode cX2_comesBefore 55 = .ok (.goto 4, 3) := by decide +kernel
theorem dX2_comesBefore_58 : decode cX2_comesBefore 58 = .ok (.iconst 0, 1) := by decide +kernel
theorem dX2_comesBefore_59 : decode cX2_comesBefore 59 = .ok (.ireturn, 1) := by decide +kernel
set_option maxHeartbeats 4000000 in
set_option maxRecDepth 100000 in
theorem qLb_ownerOf_L2_ok {σ : QS} {x1 : Int32} {x2 : Int32} : ∀ (n : Nat) (x3 : Int32) (r : Int32), qLb_ownerOf_L2 σ x1 x2 n x3 = some r → qx_E (qx_gC l D ci a z) 2 mX1_ownerOf (some (.int r), σ) 2 [(0, .ref (a 11)), (1, .int x1), (2, .int x2), (3, .int x3)] [] σ := by
  intro n
  induction n with
  | zero =>
    intro x3 r h
    exact (qx_none h).elim
  | succ n ih =>
    intro x3 r h
    unfold qLb_ownerOf_L2 at h
    refine qx_iload_n (pc := 2) 3 dX1_ownerOf_2 rfl ?_
    refine qx_aload_n (pc := 3) 0 dX1_ownerOf_3 rfl ?_
    refine qgC11_0 (pc := 4) qwf_X1_9 dX1_ownerOf_4 ?_
    refine qgC1_0 (pc := 7) qwf_X1_29 dX1_ownerOf_7 ?_
    refine qx_icmp_ge (pc := 10) 48 h dX1_ownerOf_10 (by decide) (fun h => ?_) (fun h => ?_)
    · refine qx_iconst (pc := 48) (-1) dX1_ownerOf_48 (by decide) ?_
      exact qx_iret h rfl dX1_ownerOf_49
    · refine qx_aload_n (pc := 13) 0 dX1_ownerOf_13 rfl ?_
      refine qx_iload_n (pc := 14) 3 dX1_ownerOf_14 rfl ?_
      obtain ⟨r1, hr1, h⟩ := qx_bindE h
      refine qx_callVi (pc := 15) 11 r1 σ [.int x3] [] rfl rfl rfl qcm_X1_isShown qcv_X1_isShown qwm_X1_35 rfl (Nat.le_of_ble_eq_true rfl) (Nat.le_of_ble_eq_true rfl) (by decide) dX1_ownerOf_15 (qLb_isShown_ok hr1) ?_
      refine qx_if_eq (pc := 18) 42 h dX1_ownerOf_18 (by decide) (fun h => ?_) (fun h => ?_)
      · refine qx_iinc (pc := 42) (lv' := [(3, .int (x3 + 1)), (0, .ref (a 11)), (1, .int x1), (2, .int x2)]) 3 (x3 + 1) dX1_ownerOf_42 rfl rfl (Nat.le_of_ble_eq_true rfl) rfl ?_
        refine qx_goto (pc := 45) 2 dX1_ownerOf_45 (by decide) ?_
        exact qx_sub [1, 2, 3, 0] rfl (ih _ _ h)
      · refine qx_aload_n (pc := 21) 0 dX1_ownerOf_21 rfl ?_
        refine qgC11_1 (pc := 22) qwf_X1_15 dX1_ownerOf_22 ?_
        refine qx_iload_n (pc := 25) 3 dX1_ownerOf_25 rfl ?_
        refine qx_aload_n (pc := 26) 0 dX1_ownerOf_26 rfl ?_
        refine qgC11_2 (pc := 27) qwf_X1_19 dX1_ownerOf_27 ?_
        refine qx_iload_n (pc := 30) 3 dX1_ownerOf_30 rfl ?_
        refine qlC12 (pc := 31) h dX1_ownerOf_31 (fun h => ?_)
        refine qx_iload_n (pc := 32) 1 dX1_ownerOf_32 rfl ?_
        refine qx_iload_n (pc := 33) 2 dX1_ownerOf_33 rfl ?_
        obtain ⟨r2, hr2, h⟩ := qx_bindE h
        refine qx_callVi (pc := 34) 5 r2 σ [.int x3, .int (σ.1 12 x3.toNatClampNeg), .int x1, .int x2] [] rfl rfl rfl qcm_X3_covers qcv_X3_covers qwm_X1_60 rfl (Nat.le_of_ble_eq_true rfl) (Nat.le_of_ble_eq_true rfl) (by decide) dX1_ownerOf_34 (qPl_covers_ok hr2) ?_
        refine qx_if_eq (pc := 37) 42 h dX1_ownerOf_37 (by decide) (fun h => ?_) (fun h => ?_)
        · refine qx_iinc (pc := 42) (lv' := [(3, .int (x3 + 1)), (0, .ref (a 11)), (1, .int x1), (2, .int x2)]) 3 (x3 + 1) dX1_ownerOf_42 rfl rfl (Nat.le_of_ble_eq_true rfl) rfl ?_
          refine qx_goto (pc := 45) 2 dX1_ownerOf_45 (by decide) ?_
          exact qx_sub [1, 2, 3, 0] rfl (ih _ _ h)
        · refine qx_iload_n (pc := 40) 3 dX1_ownerOf_40 rfl ?_
          exact qx_iret h rfl dX1_ownerOf_41
set_option maxHeartbeats 4000000 in
set_option maxRecDepth 100000 in
theorem qLb_ownerOf_ok {σ : QS} {x1 : Int32} {x2 : Int32} {r : Int32} (h : qLb_ownerOf σ x1 x2 = some r) : qx_E (qx_gC l D ci a z) 2 mX1_ownerOf (some (.int r), σ) 0 [(0, .ref (a 11)), (1, .int x1), (2, .int x2)] [] σ := by
  unfold qLb_ownerOf at h
  refine qx_iconst (pc := 0) 0 dX1_ownerOf_0 (by decide) ?_
  refine qx_istore_n (pc := 1) (lv' := [(3, .int 0), (0, .ref (a 11)), (1, .int x1), (2, .int x2)]) dX1_ownerOf_1 (Nat.le_of_ble_eq_true rfl) rfl ?_
  exact qx_sub [1, 2, 3, 0] rfl (qLb_ownerOf_L2_ok qx_F _ _ h)
set_option maxHeartbeats 4000000 in
set_option maxRecDepth 100000 in
theorem qWi_holds_ok {σ : QS} {x1 : Int32} {x2 : Int32} {x3 : Int32} {x4 : Int32} {r : Int32} (h : qWi_holds σ x1 x2 x3 x4 = some r) : qx_E (qx_gC l D ci a z) 1 mX7_holds (some (.int r), σ) 0 [(0, .ref (a 4)), (1, .int x1), (2, .int x2), (3, .int x3), (4, .int x4)] [] σ := by
  unfold qWi_holds at h
  refine qx_iload_n (pc := 0) 1 dX7_holds_0 rfl ?_
  refine qx_aload_n (pc := 1) 0 dX7_holds_1 rfl ?_
  refine qgC4_0 (pc := 2) qwf_X7_9 dX7_holds_2 ?_
  refine qx_icmp_lt (pc := 5) 51 h dX7_holds_5 (by decide) (fun h => ?_) (fun h => ?_)
  · refine qx_iconst (pc := 51) 0 dX7_holds_51 (by decide) ?_
    exact qx_nret h rfl rfl dX7_holds_52
  · refine qx_iload_n (pc := 8) 1 dX7_holds_8 rfl ?_
    refine qx_iload_n (pc := 9) 3 dX7_holds_9 rfl ?_
    refine qx_iadd (pc := 10) dX7_holds_10 ?_
    refine qx_aload_n (pc := 11) 0 dX7_holds_11 rfl ?_
    refine qgC4_0 (pc := 12) qwf_X7_9 dX7_holds_12 ?_
    refine qx_aload_n (pc := 15) 0 dX7_holds_15 rfl ?_
    refine qgC4_2 (pc := 16) qwf_X7_18 dX7_holds_16 ?_
    refine qx_iadd (pc := 19) dX7_holds_19 ?_
    refine qx_icmp_gt (pc := 20) 51 h dX7_holds_20 (by decide) (fun h => ?_) (fun h => ?_)
    · refine qx_iconst (pc := 51) 0 dX7_holds_51 (by decide) ?_
      exact qx_nret h rfl rfl dX7_holds_52
    · refine qx_iload_n (pc := 23) 2 dX7_holds_23 rfl ?_
      refine qx_aload_n (pc := 24) 0 dX7_holds_24 rfl ?_
      refine qgC4_1 (pc := 25) qwf_X7_15 dX7_holds_25 ?_
      refine qx_icmp_lt (pc := 28) 51 h dX7_holds_28 (by decide) (fun h => ?_) (fun h => ?_)
      · refine qx_iconst (pc := 51) 0 dX7_holds_51 (by decide) ?_
        exact qx_nret h rfl rfl dX7_holds_52
      · refine qx_iload_n (pc := 31) 2 dX7_holds_31 rfl ?_
        refine qx_iload (pc := 32) 4 dX7_holds_32 rfl ?_
        refine qx_iadd (pc := 34) dX7_holds_34 ?_
        refine qx_aload_n (pc := 35) 0 dX7_holds_35 rfl ?_
        refine qgC4_1 (pc := 36) qwf_X7_15 dX7_holds_36 ?_
        refine qx_aload_n (pc := 39) 0 dX7_holds_39 rfl ?_
        refine qgC4_3 (pc := 40) qwf_X7_21 dX7_holds_40 ?_
        refine qx_iadd (pc := 43) dX7_holds_43 ?_
        refine qx_icmp_gt (pc := 44) 51 h dX7_holds_44 (by decide) (fun h => ?_) (fun h => ?_)
        · refine qx_iconst (pc := 51) 0 dX7_holds_51 (by decide) ?_
          exact qx_nret h rfl rfl dX7_holds_52
        · refine qx_iconst (pc := 47) 1 dX7_holds_47 (by decide) ?_
          refine qx_goto (pc := 48) 52 dX7_holds_48 (by decide) ?_
          exact qx_nret h rfl rfl dX7_holds_52
set_option maxHeartbeats 4000000 in
set_option maxRecDepth 100000 in
theorem qPl_isVisible_ok {σ : QS} {x1 : Int32} {r : Int32} (h : qPl_isVisible σ x1 = some r) : qx_E (qx_gC l D ci a z) 2 mX3_isVisible (some (.int r), σ) 0 [(0, .ref (a 5)), (1, .int x1)] [] σ := by
  unfold qPl_isVisible at h
  refine qx_aload_n (pc := 0) 0 dX3_isVisible_0 rfl ?_
  refine qgC5_1 (pc := 1) qwf_X3_15 dX3_isVisible_1 ?_
  refine qx_aload_n (pc := 4) 0 dX3_isVisible_4 rfl ?_
  refine qgC5_0 (pc := 5) qwf_X3_9 dX3_isVisible_5 ?_
  refine qx_iload_n (pc := 8) 1 dX3_isVisible_8 rfl ?_
  refine qx_iconst (pc := 9) 0 dX3_isVisible_9 (by decide) ?_
  obtain ⟨r1, hr1, h⟩ := qx_bindE h
  refine qx_callVi (pc := 10) 1 r1 σ [.int x1, .int 0] [.ref (a 4)] rfl rfl rfl qcm_X4_get qcv_X4_get qwm_X3_49 rfl (Nat.le_of_ble_eq_true rfl) (Nat.le_of_ble_eq_true rfl) (by decide) dX3_isVisible_10 (qPt_get_ok hr1) ?_
  refine qx_aload_n (pc := 13) 0 dX3_isVisible_13 rfl ?_
  refine qgC5_0 (pc := 14) qwf_X3_9 dX3_isVisible_14 ?_
  refine qx_iload_n (pc := 17) 1 dX3_isVisible_17 rfl ?_
  refine qx_iconst (pc := 18) 1 dX3_isVisible_18 (by decide) ?_
  obtain ⟨r2, hr2, h⟩ := qx_bindE h
  refine qx_callVi (pc := 19) 1 r2 σ [.int x1, .int 1] [.int r1, .ref (a 4)] rfl rfl rfl qcm_X4_get qcv_X4_get qwm_X3_49 rfl (Nat.le_of_ble_eq_true rfl) (Nat.le_of_ble_eq_true rfl) (by decide) dX3_isVisible_19 (qPt_get_ok hr2) ?_
  refine qx_iconst (pc := 22) 1 dX3_isVisible_22 (by decide) ?_
  refine qx_iconst (pc := 23) 1 dX3_isVisible_23 (by decide) ?_
  obtain ⟨r3, hr3, h⟩ := qx_bindE h
  refine qx_callVi (pc := 24) 4 r3 σ [.int r1, .int r2, .int 1, .int 1] [] rfl rfl rfl qcm_X7_holds qcv_X7_holds qwm_X3_66 rfl (Nat.le_of_ble_eq_true rfl) (Nat.le_of_ble_eq_true rfl) (by decide) dX3_isVisible_24 (qWi_holds_ok hr3) ?_
  exact qx_nret h rfl rfl dX3_isVisible_27
set_option maxHeartbeats 4000000 in
set_option maxRecDepth 100000 in
theorem qLb_lacksLabel_ok {σ : QS} {x1 : Int32} {r : Int32} (h : qLb_lacksLabel σ x1 = some r) : qx_E (qx_gC l D ci a z) 3 mX1_lacksLabel (some (.int r), σ) 0 [(0, .ref (a 11)), (1, .int x1)] [] σ := by
  unfold qLb_lacksLabel at h
  refine qx_aload_n (pc := 0) 0 dX1_lacksLabel_0 rfl ?_
  refine qx_iload_n (pc := 1) 1 dX1_lacksLabel_1 rfl ?_
  obtain ⟨r1, hr1, h⟩ := qx_bindE h
  refine qx_callVi (pc := 2) 11 r1 σ [.int x1] [] rfl rfl rfl qcm_X1_isShown qcv_X1_isShown qwm_X1_35 rfl (Nat.le_of_ble_eq_true rfl) (Nat.le_of_ble_eq_true rfl) (by decide) dX1_lacksLabel_2 (qLb_isShown_ok hr1) ?_
  refine qx_if_ne (pc := 5) 23 h dX1_lacksLabel_5 (by decide) (fun h => ?_) (fun h => ?_)
  · refine qx_iconst (pc := 23) 0 dX1_lacksLabel_23 (by decide) ?_
    exact qx_nret h rfl rfl dX1_lacksLabel_24
  · refine qx_aload_n (pc := 8) 0 dX1_lacksLabel_8 rfl ?_
    refine qgC11_1 (pc := 9) qwf_X1_15 dX1_lacksLabel_9 ?_
    refine qx_iload_n (pc := 12) 1 dX1_lacksLabel_12 rfl ?_
    obtain ⟨r2, hr2, h⟩ := qx_bindE h
    refine qx_callVi (pc := 13) 5 r2 σ [.int x1] [] rfl rfl rfl qcm_X3_isVisible qcv_X3_isVisible qwm_X1_64 rfl (Nat.le_of_ble_eq_true rfl) (Nat.le_of_ble_eq_true rfl) (by decide) dX1_lacksLabel_13 (qPl_isVisible_ok hr2) ?_
    refine qx_if_eq (pc := 16) 23 h dX1_lacksLabel_16 (by decide) (fun h => ?_) (fun h => ?_)
    · refine qx_iconst (pc := 23) 0 dX1_lacksLabel_23 (by decide) ?_
      exact qx_nret h rfl rfl dX1_lacksLabel_24
    · refine qx_iconst (pc := 19) 1 dX1_lacksLabel_19 (by decide) ?_
      refine qx_goto (pc := 20) 24 dX1_lacksLabel_20 (by decide) ?_
      exact qx_nret h rfl rfl dX1_lacksLabel_24
set_option maxHeartbeats 4000000 in
set_option maxRecDepth 100000 in
theorem qLb_isFree_ok {σ : QS} {x1 : Int32} {x2 : Int32} {r : Int32} (h : qLb_isFree σ x1 x2 = some r) : qx_E (qx_gC l D ci a z) 3 mX1_isFree (some (.int r), σ) 0 [(0, .ref (a 11)), (1, .int x1), (2, .int x2)] [] σ := by
  unfold qLb_isFree at h
  refine qx_aload_n (pc := 0) 0 dX1_isFree_0 rfl ?_
  refine qgC11_1 (pc := 1) qwf_X1_15 dX1_isFree_1 ?_
  refine qx_iload_n (pc := 4) 1 dX1_isFree_4 rfl ?_
  refine qx_iload_n (pc := 5) 2 dX1_isFree_5 rfl ?_
  obtain ⟨r1, hr1, h⟩ := qx_bindE h
  refine qx_callVi (pc := 6) 5 r1 σ [.int x1, .int x2] [] rfl rfl rfl qcm_X3_isPlace qcv_X3_isPlace qwm_X1_39 rfl (Nat.le_of_ble_eq_true rfl) (Nat.le_of_ble_eq_true rfl) (by decide) dX1_isFree_6 (qPl_isPlace_ok hr1) ?_
  refine qx_if_eq (pc := 9) 25 h dX1_isFree_9 (by decide) (fun h => ?_) (fun h => ?_)
  · refine qx_iconst (pc := 25) 0 dX1_isFree_25 (by decide) ?_
    exact qx_nret h rfl rfl dX1_isFree_26
  · refine qx_aload_n (pc := 12) 0 dX1_isFree_12 rfl ?_
    refine qx_iload_n (pc := 13) 1 dX1_isFree_13 rfl ?_
    refine qx_iload_n (pc := 14) 2 dX1_isFree_14 rfl ?_
    obtain ⟨r2, hr2, h⟩ := qx_bindE h
    refine qx_callVi (pc := 15) 11 r2 σ [.int x1, .int x2] [] rfl rfl rfl qcm_X1_clashing qcv_X1_clashing qwm_X1_53 rfl (Nat.le_of_ble_eq_true rfl) (Nat.le_of_ble_eq_true rfl) (by decide) dX1_isFree_15 (qLb_clashing_ok hr2) ?_
    refine qx_if_ne (pc := 18) 25 h dX1_isFree_18 (by decide) (fun h => ?_) (fun h => ?_)
    · refine qx_iconst (pc := 25) 0 dX1_isFree_25 (by decide) ?_
      exact qx_nret h rfl rfl dX1_isFree_26
    · refine qx_iconst (pc := 21) 1 dX1_isFree_21 (by decide) ?_
      refine qx_goto (pc := 22) 26 dX1_isFree_22 (by decide) ?_
      exact qx_nret h rfl rfl dX1_isFree_26
set_option maxHeartbeats 4000000 in
set_option maxRecDepth 100000 in
theorem qLb_showOnLeastFree_L2_ok {σ : QS} {x1 : Int32} : ∀ (n : Nat) (x2 : Int32) (r : Int32 × QS), qLb_showOnLeastFree_L2 σ x1 n x2 = some r → qx_E (qx_gC l D ci a z) 4 mX1_showOnLeastFree (some (.int r.1), r.2) 2 [(0, .ref (a 11)), (1, .int x1), (2, .int x2)] [] σ := by
  intro n
  induction n with
  | zero =>
    intro x2 r h
    exact (qx_none h).elim
  | succ n ih =>
    intro x2 r h
    unfold qLb_showOnLeastFree_L2 at h
    refine qx_iload_n (pc := 2) 2 dX1_showOnLeastFree_2 rfl ?_
    refine qx_bipush (pc := 3) 8 dX1_showOnLeastFree_3 (by decide) ?_
    refine qx_icmp_ge (pc := 5) 31 h dX1_showOnLeastFree_5 (by decide) (fun h => ?_) (fun h => ?_)
    · refine qx_iconst (pc := 31) 0 dX1_showOnLeastFree_31 (by decide) ?_
      exact qx_nretS h rfl rfl dX1_showOnLeastFree_32
    · refine qx_aload_n (pc := 8) 0 dX1_showOnLeastFree_8 rfl ?_
      refine qx_iload_n (pc := 9) 1 dX1_showOnLeastFree_9 rfl ?_
      refine qx_iload_n (pc := 10) 2 dX1_showOnLeastFree_10 rfl ?_
      obtain ⟨r1, hr1, h⟩ := qx_bindE h
      refine qx_callVi (pc := 11) 11 r1 σ [.int x1, .int x2] [] rfl rfl rfl qcm_X1_isFree qcv_X1_isFree qwm_X1_80 rfl (Nat.le_of_ble_eq_true rfl) (Nat.le_of_ble_eq_true rfl) (by decide) dX1_showOnLeastFree_11 (qLb_isFree_ok hr1) ?_
      refine qx_if_eq (pc := 14) 25 h dX1_showOnLeastFree_14 (by decide) (fun h => ?_) (fun h => ?_)
      · refine qx_iinc (pc := 25) (lv' := [(2, .int (x2 + 1)), (0, .ref (a 11)), (1, .int x1)]) 2 (x2 + 1) dX1_showOnLeastFree_25 rfl rfl (Nat.le_of_ble_eq_true rfl) rfl ?_
        refine qx_goto (pc := 28) 2 dX1_showOnLeastFree_28 (by decide) ?_
        exact qx_sub [1, 2, 0] rfl (ih _ _ h)
      · refine qx_aload_n (pc := 17) 0 dX1_showOnLeastFree_17 rfl ?_
        refine qx_iload_n (pc := 18) 1 dX1_showOnLeastFree_18 rfl ?_
        refine qx_iload_n (pc := 19) 2 dX1_showOnLeastFree_19 rfl ?_
        obtain ⟨r2, hr2, h⟩ := qx_bindE h
        refine qx_callVv (pc := 20) 11 r2 [.int x1, .int x2] [] rfl rfl rfl qcm_X1_put qcv_X1_put qwm_X1_83 rfl (Nat.le_of_ble_eq_true rfl) (Nat.le_of_ble_eq_true rfl) (by decide) dX1_showOnLeastFree_20 (qLb_put_ok hr2) ?_
        refine qx_iconst (pc := 23) 1 dX1_showOnLeastFree_23 (by decide) ?_
        exact qx_nretS h rfl rfl dX1_showOnLeastFree_24
set_option maxHeartbeats 4000000 in
set_option maxRecDepth 100000 in
theorem qLb_showOnLeastFree_ok {σ : QS} {x1 : Int32} {r : Int32 × QS} (h : qLb_showOnLeastFree σ x1 = some r) : qx_E (qx_gC l D ci a z) 4 mX1_showOnLeastFree (some (.int r.1), r.2) 0 [(0, .ref (a 11)), (1, .int x1)] [] σ := by
  unfold qLb_showOnLeastFree at h
  refine qx_iconst (pc := 0) 0 dX1_showOnLeastFree_0 (by decide) ?_
  refine qx_istore_n (pc := 1) (lv' := [(2, .int 0), (0, .ref (a 11)), (1, .int x1)]) dX1_showOnLeastFree_1 (Nat.le_of_ble_eq_true rfl) rfl ?_
  exact qx_sub [1, 2, 0] rfl (qLb_showOnLeastFree_L2_ok qx_F _ _ h)
set_option maxHeartbeats 4000000 in
set_option maxRecDepth 100000 in
theorem qPt_inOrder_ok {σ : QS} {x1 : Int32} {r : Int32} (h : qPt_inOrder σ x1 = some r) : qx_E (qx_gC l D ci a z) 1 mX4_inOrder (some (.int r), σ) 0 [(0, .ref (a 1)), (1, .int x1)] [] σ := by
  unfold qPt_inOrder at h
  refine qx_aload_n (pc := 0) 0 dX4_inOrder_0 rfl ?_
  refine qgC1_2 (pc := 1) qwf_X4_19 dX4_inOrder_1 ?_
  refine qx_iload_n (pc := 4) 1 dX4_inOrder_4 rfl ?_
  refine qlC3 (pc := 5) h dX4_inOrder_5 (fun h => ?_)
  exact qx_iret h rfl dX4_inOrder_6
set_option maxHeartbeats 4000000 in
set_option maxRecDepth 100000 in
theorem qLb_addFree_L4_ok : ∀ (n : Nat) (σ : QS) (x1 : Int32) (x2 : Int32) (r : Int32 × QS), qLb_addFree_L4 n σ x1 x2 = some r → qx_E (qx_gC l D ci a z) 5 mX1_addFree (some (.int r.1), r.2) 4 [(0, .ref (a 11)), (1, .int x1), (2, .int x2)] [] σ := by
  intro n
  induction n with
  | zero =>
    intro σ x1 x2 r h
    exact (qx_none h).elim
  | succ n ih =>
    intro σ x1 x2 r h
    unfold qLb_addFree_L4 at h
    refine qx_iload_n (pc := 4) 2 dX1_addFree_4 rfl ?_
    refine qx_aload_n (pc := 5) 0 dX1_addFree_5 rfl ?_
    refine qgC11_0 (pc := 6) qwf_X1_9 dX1_addFree_6 ?_
    refine qgC1_0 (pc := 9) qwf_X1_29 dX1_addFree_9 ?_
    refine qx_icmp_ge (pc := 12) 49 h dX1_addFree_12 (by decide) (fun h => ?_) (fun h => ?_)
    · refine qx_iload_n (pc := 49) 1 dX1_addFree_49 rfl ?_
      exact qx_iretS h rfl dX1_addFree_50
    · refine qx_aload_n (pc := 15) 0 dX1_addFree_15 rfl ?_
      refine qgC11_0 (pc := 16) qwf_X1_9 dX1_addFree_16 ?_
      refine qx_iload_n (pc := 19) 2 dX1_addFree_19 rfl ?_
      obtain ⟨r1, hr1, h⟩ := qx_bindE h
      refine qx_callVi (pc := 20) 1 r1 σ [.int x2] [] rfl rfl rfl qcm_X4_inOrder qcv_X4_inOrder qwm_X1_70 rfl (Nat.le_of_ble_eq_true rfl) (Nat.le_of_ble_eq_true rfl) (by decide) dX1_addFree_20 (qPt_inOrder_ok hr1) ?_
      refine qx_istore_n (pc := 23) (lv' := [(3, .int r1), (0, .ref (a 11)), (1, .int x1), (2, .int x2)]) dX1_addFree_23 (Nat.le_of_ble_eq_true rfl) rfl ?_
      refine qx_aload_n (pc := 24) 1 dX1_addFree_24 rfl ?_
      refine qx_iload_n (pc := 25) 0 dX1_addFree_25 rfl ?_
      obtain ⟨r2, hr2, h⟩ := qx_bindE h
      refine qx_callVi (pc := 26) 11 r2 σ [.int r1] [] rfl rfl rfl qcm_X1_lacksLabel qcv_X1_lacksLabel qwm_X1_74 rfl (Nat.le_of_ble_eq_true rfl) (Nat.le_of_ble_eq_true rfl) (by decide) dX1_addFree_26 (qLb_lacksLabel_ok hr2) ?_
      refine qx_if_eq (pc := 29) 43 h dX1_addFree_29 (by decide) (fun h => ?_) (fun h => ?_)
      · refine qx_iinc (pc := 43) (lv' := [(2, .int (x2 + 1)), (3, .int r1), (0, .ref (a 11)), (1, .int x1)]) 3 (x2 + 1) dX1_addFree_43 rfl rfl (Nat.le_of_ble_eq_true rfl) rfl ?_
        refine qx_goto (pc := 46) 4 dX1_addFree_46 (by decide) ?_
        exact qx_sub [2, 3, 0] rfl (ih _ _ _ _ h)
      · refine qx_aload_n (pc := 32) 1 dX1_addFree_32 rfl ?_
        refine qx_iload_n (pc := 33) 0 dX1_addFree_33 rfl ?_
        obtain ⟨r3, hr3, h⟩ := qx_bindE h
        refine qx_callVi (pc := 34) 11 r3.1 r3.2 [.int r1] [] rfl rfl rfl qcm_X1_showOnLeastFree qcv_X1_showOnLeastFree qwm_X1_77 rfl (Nat.le_of_ble_eq_true rfl) (Nat.le_of_ble_eq_true rfl) (by decide) dX1_addFree_34 (qLb_showOnLeastFree_ok hr3) ?_
        refine qx_if_eq (pc := 37) 43 h dX1_addFree_37 (by decide) (fun h => ?_) (fun h => ?_)
        · refine qx_iinc (pc := 43) (lv' := [(2, .int (x2 + 1)), (3, .int r1), (0, .ref (a 11)), (1, .int x1)]) 3 (x2 + 1) dX1_addFree_43 rfl rfl (Nat.le_of_ble_eq_true rfl) rfl ?_
          refine qx_goto (pc := 46) 4 dX1_addFree_46 (by decide) ?_
          exact qx_sub [2, 3, 0] rfl (ih _ _ _ _ h)
        · refine qx_iinc (pc := 40) (lv' := [(1, .int (x1 + 1)), (3, .int r1), (0, .ref (a 11)), (2, .int x2)]) 2 (x1 + 1) dX1_addFree_40 rfl rfl (Nat.le_of_ble_eq_true rfl) rfl ?_
          refine qx_iinc (pc := 43) (lv' := [(2, .int (x2 + 1)), (1, .int (x1 + 1)), (3, .int r1), (0, .ref (a 11))]) 3 (x2 + 1) dX1_addFree_43 rfl rfl (Nat.le_of_ble_eq_true rfl) rfl ?_
          refine qx_goto (pc := 46) 4 dX1_addFree_46 (by decide) ?_
          exact qx_sub [3, 1, 0] rfl (ih _ _ _ _ h)
set_option maxHeartbeats 4000000 in
set_option maxRecDepth 100000 in
theorem qLb_addFree_ok {σ : QS} {r : Int32 × QS} (h : qLb_addFree σ = some r) : qx_E (qx_gC l D ci a z) 5 mX1_addFree (some (.int r.1), r.2) 0 [(0, .ref (a 11))] [] σ := by
  unfold qLb_addFree at h
  refine qx_iconst (pc := 0) 0 dX1_addFree_0 (by decide) ?_
  refine qx_istore_n (pc := 1) (lv' := [(1, .int 0), (0, .ref (a 11))]) dX1_addFree_1 (Nat.le_of_ble_eq_true rfl) rfl ?_
  refine qx_iconst (pc := 2) 0 dX1_addFree_2 (by decide) ?_
  refine qx_istore_n (pc := 3) (lv' := [(2, .int 0), (1, .int 0), (0, .ref (a 11))]) dX1_addFree_3 (Nat.le_of_ble_eq_true rfl) rfl ?_
  exact qx_sub [2, 1, 0] rfl (qLb_addFree_L4_ok qx_F _ _ _ _ h)
set_option maxHeartbeats 4000000 in
set_option maxRecDepth 100000 in
theorem qLb_firstClashing_L2_ok {σ : QS} {x1 : Int32} {x2 : Int32} : ∀ (n : Nat) (x3 : Int32) (r : Int32), qLb_firstClashing_L2 σ x1 x2 n x3 = some r → qx_E (qx_gC l D ci a z) 2 mX1_firstClashing (some (.int r), σ) 2 [(0, .ref (a 11)), (1, .int x1), (2, .int x2), (3, .int x3)] [] σ := by
  intro n
  induction n with
  | zero =>
    intro x3 r h
    exact (qx_none h).elim
  | succ n ih =>
    intro x3 r h
    unfold qLb_firstClashing_L2 at h
    refine qx_iload_n (pc := 2) 3 dX1_firstClashing_2 rfl ?_
    refine qx_aload_n (pc := 3) 0 dX1_firstClashing_3 rfl ?_
    refine qgC11_0 (pc := 4) qwf_X1_9 dX1_firstClashing_4 ?_
    refine qgC1_0 (pc := 7) qwf_X1_29 dX1_firstClashing_7 ?_
    refine qx_icmp_ge (pc := 10) 40 h dX1_firstClashing_10 (by decide) (fun h => ?_) (fun h => ?_)
    · refine qx_iconst (pc := 40) (-1) dX1_firstClashing_40 (by decide) ?_
      exact qx_iret h rfl dX1_firstClashing_41
    · refine qx_aload_n (pc := 13) 0 dX1_firstClashing_13 rfl ?_
      refine qgC11_1 (pc := 14) qwf_X1_15 dX1_firstClashing_14 ?_
      refine qx_iload_n (pc := 17) 1 dX1_firstClashing_17 rfl ?_
      refine qx_iload_n (pc := 18) 2 dX1_firstClashing_18 rfl ?_
      refine qx_iload_n (pc := 19) 3 dX1_firstClashing_19 rfl ?_
      refine qx_aload_n (pc := 20) 0 dX1_firstClashing_20 rfl ?_
      refine qgC11_2 (pc := 21) qwf_X1_19 dX1_firstClashing_21 ?_
      refine qx_iload_n (pc := 24) 3 dX1_firstClashing_24 rfl ?_
      refine qlC12 (pc := 25) h dX1_firstClashing_25 (fun h => ?_)
      obtain ⟨r1, hr1, h⟩ := qx_bindE h
      refine qx_callVi (pc := 26) 5 r1 σ [.int x1, .int x2, .int x3, .int (σ.1 12 x3.toNatClampNeg)] [] rfl rfl rfl qcm_X3_doClash qcv_X3_doClash qwm_X1_67 rfl (Nat.le_of_ble_eq_true rfl) (Nat.le_of_ble_eq_true rfl) (by decide) dX1_firstClashing_26 (qPl_doClash_ok hr1) ?_
      refine qx_if_eq (pc := 29) 34 h dX1_firstClashing_29 (by decide) (fun h => ?_) (fun h => ?_)
      · refine qx_iinc (pc := 34) (lv' := [(3, .int (x3 + 1)), (0, .ref (a 11)), (1, .int x1), (2, .int x2)]) 3 (x3 + 1) dX1_firstClashing_34 rfl rfl (Nat.le_of_ble_eq_true rfl) rfl ?_
        refine qx_goto (pc := 37) 2 dX1_firstClashing_37 (by decide) ?_
        exact qx_sub [1, 2, 3, 0] rfl (ih _ _ h)
      · refine qx_iload_n (pc := 32) 3 dX1_firstClashing_32 rfl ?_
        exact qx_iret h rfl dX1_firstClashing_33
set_option maxHeartbeats 4000000 in
set_option maxRecDepth 100000 in
theorem qLb_firstClashing_ok {σ : QS} {x1 : Int32} {x2 : Int32} {r : Int32} (h : qLb_firstClashing σ x1 x2 = some r) : qx_E (qx_gC l D ci a z) 2 mX1_firstClashing (some (.int r), σ) 0 [(0, .ref (a 11)), (1, .int x1), (2, .int x2)] [] σ := by
  unfold qLb_firstClashing at h
  refine qx_iconst (pc := 0) 0 dX1_firstClashing_0 (by decide) ?_
  refine qx_istore_n (pc := 1) (lv' := [(3, .int 0), (0, .ref (a 11)), (1, .int x1), (2, .int x2)]) dX1_firstClashing_1 (Nat.le_of_ble_eq_true rfl) rfl ?_
  exact qx_sub [1, 2, 3, 0] rfl (qLb_firstClashing_L2_ok qx_F _ _ h)
set_option maxHeartbeats 4000000 in
set_option maxRecDepth 100000 in
theorem qLb_moveAside_L3_ok {σ : QS} {x1 : Int32} {x2 : Int32} {x3 : Int32} : ∀ (n : Nat) (x4 : Int32) (r : Int32 × QS), qLb_moveAside_L3 σ x1 x2 x3 n x4 = some r → qx_E (qx_gC l D ci a z) 4 mX1_moveAside (some (.int r.1), r.2) 3 [(0, .ref (a 11)), (1, .int x1), (2, .int x2), (3, .int x3), (4, .int x4)] [] σ := by
  intro n
  induction n with
  | zero =>
    intro x4 r h
    exact (qx_none h).elim
  | succ n ih =>
    intro x4 r h
    unfold qLb_moveAside_L3 at h
    refine qx_iload (pc := 3) 4 dX1_moveAside_3 rfl ?_
    refine qx_bipush (pc := 5) 8 dX1_moveAside_5 (by decide) ?_
    refine qx_icmp_ge (pc := 7) 55 h dX1_moveAside_7 (by decide) (fun h => ?_) (fun h => ?_)
    · refine qx_iconst (pc := 55) 0 dX1_moveAside_55 (by decide) ?_
      exact qx_nretS h rfl rfl dX1_moveAside_56
    · refine qx_iload_n (pc := 10) 1 dX1_moveAside_10 rfl ?_
      refine qx_iconst (pc := 11) (-1) dX1_moveAside_11 (by decide) ?_
      refine qx_icmp_eq (pc := 12) 55 h dX1_moveAside_12 (by decide) (fun h => ?_) (fun h => ?_)
      · refine qx_iconst (pc := 55) 0 dX1_moveAside_55 (by decide) ?_
        exact qx_nretS h rfl rfl dX1_moveAside_56
      · refine qx_aload_n (pc := 15) 0 dX1_moveAside_15 rfl ?_
        refine qx_iload_n (pc := 16) 1 dX1_moveAside_16 rfl ?_
        refine qx_iload (pc := 17) 4 dX1_moveAside_17 rfl ?_
        obtain ⟨r1, hr1, h⟩ := qx_bindE h
        refine qx_callVi (pc := 19) 11 r1 σ [.int x1, .int x4] [] rfl rfl rfl qcm_X1_isFree qcv_X1_isFree qwm_X1_80 rfl (Nat.le_of_ble_eq_true rfl) (Nat.le_of_ble_eq_true rfl) (by decide) dX1_moveAside_19 (qLb_isFree_ok hr1) ?_
        refine qx_if_eq (pc := 22) 49 h dX1_moveAside_22 (by decide) (fun h => ?_) (fun h => ?_)
        · refine qx_iinc (pc := 49) (lv' := [(4, .int (x4 + 1)), (0, .ref (a 11)), (1, .int x1), (2, .int x2), (3, .int x3)]) 4 (x4 + 1) dX1_moveAside_49 rfl rfl (Nat.le_of_ble_eq_true rfl) rfl ?_
          refine qx_goto (pc := 52) 3 dX1_moveAside_52 (by decide) ?_
          exact qx_sub [1, 2, 3, 4, 0] rfl (ih _ _ h)
        · refine qx_aload_n (pc := 25) 0 dX1_moveAside_25 rfl ?_
          refine qgC11_1 (pc := 26) qwf_X1_15 dX1_moveAside_26 ?_
          refine qx_iload_n (pc := 29) 2 dX1_moveAside_29 rfl ?_
          refine qx_iload_n (pc := 30) 3 dX1_moveAside_30 rfl ?_
          refine qx_iload_n (pc := 31) 1 dX1_moveAside_31 rfl ?_
          refine qx_iload (pc := 32) 4 dX1_moveAside_32 rfl ?_
          obtain ⟨r2, hr2, h⟩ := qx_bindE h
          refine qx_callVi (pc := 34) 5 r2 σ [.int x2, .int x3, .int x1, .int x4] [] rfl rfl rfl qcm_X3_doClash qcv_X3_doClash qwm_X1_67 rfl (Nat.le_of_ble_eq_true rfl) (Nat.le_of_ble_eq_true rfl) (by decide) dX1_moveAside_34 (qPl_doClash_ok hr2) ?_
          refine qx_if_ne (pc := 37) 49 h dX1_moveAside_37 (by decide) (fun h => ?_) (fun h => ?_)
          · refine qx_iinc (pc := 49) (lv' := [(4, .int (x4 + 1)), (0, .ref (a 11)), (1, .int x1), (2, .int x2), (3, .int x3)]) 4 (x4 + 1) dX1_moveAside_49 rfl rfl (Nat.le_of_ble_eq_true rfl) rfl ?_
            refine qx_goto (pc := 52) 3 dX1_moveAside_52 (by decide) ?_
            exact qx_sub [1, 2, 3, 4, 0] rfl (ih _ _ h)
          · refine qx_aload_n (pc := 40) 0 dX1_moveAside_40 rfl ?_
            refine qx_iload_n (pc := 41) 1 dX1_moveAside_41 rfl ?_
            refine qx_iload (pc := 42) 4 dX1_moveAside_42 rfl ?_
            obtain ⟨r3, hr3, h⟩ := qx_bindE h
            refine qx_callVv (pc := 44) 11 r3 [.int x1, .int x4] [] rfl rfl rfl qcm_X1_put qcv_X1_put qwm_X1_83 rfl (Nat.le_of_ble_eq_true rfl) (Nat.le_of_ble_eq_true rfl) (by decide) dX1_moveAside_44 (qLb_put_ok hr3) ?_
            refine qx_iconst (pc := 47) 1 dX1_moveAside_47 (by decide) ?_
            exact qx_nretS h rfl rfl dX1_moveAside_48
set_option maxHeartbeats 4000000 in
set_option maxRecDepth 100000 in
theorem qLb_moveAside_ok {σ : QS} {x1 : Int32} {x2 : Int32} {x3 : Int32} {r : Int32 × QS} (h : qLb_moveAside σ x1 x2 x3 = some r) : qx_E (qx_gC l D ci a z) 4 mX1_moveAside (some (.int r.1), r.2) 0 [(0, .ref (a 11)), (1, .int x1), (2, .int x2), (3, .int x3)] [] σ := by
  unfold qLb_moveAside at h
  refine qx_iconst (pc := 0) 0 dX1_moveAside_0 (by decide) ?_
  refine qx_istore (pc := 1) (lv' := [(4, .int 0), (0, .ref (a 11)), (1, .int x1), (2, .int x2), (3, .int x3)]) dX1_moveAside_1 (Nat.le_of_ble_eq_true rfl) rfl ?_
  exact qx_sub [1, 2, 3, 4, 0] rfl (qLb_moveAside_L3_ok qx_F _ _ h)
set_option maxHeartbeats 4000000 in
set_option maxRecDepth 100000 in
theorem qLb_showByMoving_J47_ok {σ : QS} {x1 : Int32} {x2 : Int32} {s0 : Int32} {k2 : QS → Int32 → Option (Int32 × QS)} (hk2 : ∀ (σ : QS) (x2 : Int32) (r : Int32 × QS), k2 σ x2 = some r → qx_E (qx_gC l D ci a z) 5 mX1_showByMoving (some (.int r.1), r.2) 2 [(0, .ref (a 11)), (1, .int x1), (2, .int x2)] [] σ) {r : Int32 × QS} (h : qLb_showByMoving_J47 σ k2 x1 x2 s0 = some r) : qx_E (qx_gC l D ci a z) 5 mX1_showByMoving (some (.int r.1), r.2) 47 [(0, .ref (a 11)), (1, .int x1), (2, .int x2)] [.int s0] σ := by
  unfold qLb_showByMoving_J47 at h
  refine qx_istore_n (pc := 47) (lv' := [(3, .int s0), (0, .ref (a 11)), (1, .int x1), (2, .int x2)]) dX1_showByMoving_47 (Nat.le_of_ble_eq_true rfl) rfl ?_
  refine qx_iload_n (pc := 48) 0 dX1_showByMoving_48 rfl ?_
  refine qx_if_eq (pc := 49) 60 h dX1_showByMoving_49 (by decide) (fun h => ?_) (fun h => ?_)
  · refine qx_iinc (pc := 60) (lv' := [(2, .int (x2 + 1)), (3, .int s0), (0, .ref (a 11)), (1, .int x1)]) 3 (x2 + 1) dX1_showByMoving_60 rfl rfl (Nat.le_of_ble_eq_true rfl) rfl ?_
    refine qx_goto (pc := 63) 2 dX1_showByMoving_63 (by decide) ?_
    exact qx_sub [2, 3, 0] rfl (hk2 _ _ _ h)
  · refine qx_aload_n (pc := 52) 1 dX1_showByMoving_52 rfl ?_
    refine qx_iload_n (pc := 53) 2 dX1_showByMoving_53 rfl ?_
    refine qx_iload_n (pc := 54) 3 dX1_showByMoving_54 rfl ?_
    obtain ⟨r1, hr1, h⟩ := qx_bindE h
    refine qx_callVv (pc := 55) 11 r1 [.int x1, .int x2] [] rfl rfl rfl qcm_X1_put qcv_X1_put qwm_X1_83 rfl (Nat.le_of_ble_eq_true rfl) (Nat.le_of_ble_eq_true rfl) (by decide) dX1_showByMoving_55 (qLb_put_ok hr1) ?_
    refine qx_iconst (pc := 58) 1 dX1_showByMoving_58 (by decide) ?_
    exact qx_nretS h rfl rfl dX1_showByMoving_59
set_option maxHeartbeats 4000000 in
set_option maxRecDepth 100000 in
theorem qLb_showByMoving_L2_ok {x1 : Int32} : ∀ (n : Nat) (σ : QS) (x2 : Int32) (r : Int32 × QS), qLb_showByMoving_L2 x1 n σ x2 = some r → qx_E (qx_gC l D ci a z) 5 mX1_showByMoving (some (.int r.1), r.2) 2 [(0, .ref (a 11)), (1, .int x1), (2, .int x2)] [] σ := by
  intro n
  induction n with
  | zero =>
    intro σ x2 r h
    exact (qx_none h).elim
  | succ n ih =>
    intro σ x2 r h
    unfold qLb_showByMoving_L2 at h
    refine qx_iload_n (pc := 2) 2 dX1_showByMoving_2 rfl ?_
    refine qx_bipush (pc := 3) 8 dX1_showByMoving_3 (by decide) ?_
    refine qx_icmp_ge (pc := 5) 66 h dX1_showByMoving_5 (by decide) (fun h => ?_) (fun h => ?_)
    · refine qx_iconst (pc := 66) 0 dX1_showByMoving_66 (by decide) ?_
      exact qx_nretS h rfl rfl dX1_showByMoving_67
    · refine qx_aload_n (pc := 8) 0 dX1_showByMoving_8 rfl ?_
      refine qx_iload_n (pc := 9) 1 dX1_showByMoving_9 rfl ?_
      refine qx_iload_n (pc := 10) 2 dX1_showByMoving_10 rfl ?_
      obtain ⟨r2, hr2, h⟩ := qx_bindE h
      refine qx_callVi (pc := 11) 11 r2 σ [.int x1, .int x2] [] rfl rfl rfl qcm_X1_isFree qcv_X1_isFree qwm_X1_80 rfl (Nat.le_of_ble_eq_true rfl) (Nat.le_of_ble_eq_true rfl) (by decide) dX1_showByMoving_11 (qLb_isFree_ok hr2) ?_
      refine qx_if_ne (pc := 14) 42 h dX1_showByMoving_14 (by decide) (fun h => ?_) (fun h => ?_)
      · refine qx_iconst (pc := 42) 1 dX1_showByMoving_42 (by decide) ?_
        refine qx_goto (pc := 43) 47 dX1_showByMoving_43 (by decide) ?_
        exact (qLb_showByMoving_J47_ok ih h)
      · refine qx_aload_n (pc := 17) 0 dX1_showByMoving_17 rfl ?_
        refine qx_iload_n (pc := 18) 1 dX1_showByMoving_18 rfl ?_
        refine qx_iload_n (pc := 19) 2 dX1_showByMoving_19 rfl ?_
        obtain ⟨r3, hr3, h⟩ := qx_bindE h
        refine qx_callVi (pc := 20) 11 r3 σ [.int x1, .int x2] [] rfl rfl rfl qcm_X1_clashing qcv_X1_clashing qwm_X1_53 rfl (Nat.le_of_ble_eq_true rfl) (Nat.le_of_ble_eq_true rfl) (by decide) dX1_showByMoving_20 (qLb_clashing_ok hr3) ?_
        refine qx_iconst (pc := 23) 1 dX1_showByMoving_23 (by decide) ?_
        refine qx_icmp_ne (pc := 24) 46 h dX1_showByMoving_24 (by decide) (fun h => ?_) (fun h => ?_)
        · refine qx_iconst (pc := 46) 0 dX1_showByMoving_46 (by decide) ?_
          exact (qLb_showByMoving_J47_ok ih h)
        · refine qx_aload_n (pc := 27) 0 dX1_showByMoving_27 rfl ?_
          refine qx_aload_n (pc := 28) 0 dX1_showByMoving_28 rfl ?_
          refine qx_iload_n (pc := 29) 1 dX1_showByMoving_29 rfl ?_
          refine qx_iload_n (pc := 30) 2 dX1_showByMoving_30 rfl ?_
          obtain ⟨r4, hr4, h⟩ := qx_bindE h
          refine qx_callVi (pc := 31) 11 r4 σ [.int x1, .int x2] [.ref (a 11)] rfl rfl rfl qcm_X1_firstClashing qcv_X1_firstClashing qwm_X1_90 rfl (Nat.le_of_ble_eq_true rfl) (Nat.le_of_ble_eq_true rfl) (by decide) dX1_showByMoving_31 (qLb_firstClashing_ok hr4) ?_
          refine qx_iload_n (pc := 34) 1 dX1_showByMoving_34 rfl ?_
          refine qx_iload_n (pc := 35) 2 dX1_showByMoving_35 rfl ?_
          obtain ⟨r5, hr5, h⟩ := qx_bindE h
          refine qx_callVi (pc := 36) 11 r5.1 r5.2 [.int r4, .int x1, .int x2] [] rfl rfl rfl qcm_X1_moveAside qcv_X1_moveAside qwm_X1_93 rfl (Nat.le_of_ble_eq_true rfl) (Nat.le_of_ble_eq_true rfl) (by decide) dX1_showByMoving_36 (qLb_moveAside_ok hr5) ?_
          refine qx_if_eq (pc := 39) 46 h dX1_showByMoving_39 (by decide) (fun h => ?_) (fun h => ?_)
          · refine qx_iconst (pc := 46) 0 dX1_showByMoving_46 (by decide) ?_
            exact (qLb_showByMoving_J47_ok ih h)
          · refine qx_iconst (pc := 42) 1 dX1_showByMoving_42 (by decide) ?_
            refine qx_goto (pc := 43) 47 dX1_showByMoving_43 (by decide) ?_
            exact (qLb_showByMoving_J47_ok ih h)
set_option maxHeartbeats 4000000 in
set_option maxRecDepth 100000 in
theorem qLb_showByMoving_ok {σ : QS} {x1 : Int32} {r : Int32 × QS} (h : qLb_showByMoving σ x1 = some r) : qx_E (qx_gC l D ci a z) 5 mX1_showByMoving (some (.int r.1), r.2) 0 [(0, .ref (a 11)), (1, .int x1)] [] σ := by
  unfold qLb_showByMoving at h
  refine qx_iconst (pc := 0) 0 dX1_showByMoving_0 (by decide) ?_
  refine qx_istore_n (pc := 1) (lv' := [(2, .int 0), (0, .ref (a 11)), (1, .int x1)]) dX1_showByMoving_1 (Nat.le_of_ble_eq_true rfl) rfl ?_
  exact qx_sub [1, 2, 0] rfl (qLb_showByMoving_L2_ok qx_F _ _ _ h)
set_option maxHeartbeats 4000000 in
set_option maxRecDepth 100000 in
theorem qLb_makeRoom_L4_ok : ∀ (n : Nat) (σ : QS) (x1 : Int32) (x2 : Int32) (r : Int32 × QS), qLb_makeRoom_L4 n σ x1 x2 = some r → qx_E (qx_gC l D ci a z) 6 mX1_makeRoom (some (.int r.1), r.2) 4 [(0, .ref (a 11)), (1, .int x1), (2, .int x2)] [] σ := by
  intro n
  induction n with
  | zero =>
    intro σ x1 x2 r h
    exact (qx_none h).elim
  | succ n ih =>
    intro σ x1 x2 r h
    unfold qLb_makeRoom_L4 at h
    refine qx_iload_n (pc := 4) 2 dX1_makeRoom_4 rfl ?_
    refine qx_aload_n (pc := 5) 0 dX1_makeRoom_5 rfl ?_
    refine qgC11_0 (pc := 6) qwf_X1_9 dX1_makeRoom_6 ?_
    refine qgC1_0 (pc := 9) qwf_X1_29 dX1_makeRoom_9 ?_
    refine qx_icmp_ge (pc := 12) 49 h dX1_makeRoom_12 (by decide) (fun h => ?_) (fun h => ?_)
    · refine qx_iload_n (pc := 49) 1 dX1_makeRoom_49 rfl ?_
      exact qx_iretS h rfl dX1_makeRoom_50
    · refine qx_aload_n (pc := 15) 0 dX1_makeRoom_15 rfl ?_
      refine qgC11_0 (pc := 16) qwf_X1_9 dX1_makeRoom_16 ?_
      refine qx_iload_n (pc := 19) 2 dX1_makeRoom_19 rfl ?_
      obtain ⟨r1, hr1, h⟩ := qx_bindE h
      refine qx_callVi (pc := 20) 1 r1 σ [.int x2] [] rfl rfl rfl qcm_X4_inOrder qcv_X4_inOrder qwm_X1_70 rfl (Nat.le_of_ble_eq_true rfl) (Nat.le_of_ble_eq_true rfl) (by decide) dX1_makeRoom_20 (qPt_inOrder_ok hr1) ?_
      refine qx_istore_n (pc := 23) (lv' := [(3, .int r1), (0, .ref (a 11)), (1, .int x1), (2, .int x2)]) dX1_makeRoom_23 (Nat.le_of_ble_eq_true rfl) rfl ?_
      refine qx_aload_n (pc := 24) 1 dX1_makeRoom_24 rfl ?_
      refine qx_iload_n (pc := 25) 0 dX1_makeRoom_25 rfl ?_
      obtain ⟨r2, hr2, h⟩ := qx_bindE h
      refine qx_callVi (pc := 26) 11 r2 σ [.int r1] [] rfl rfl rfl qcm_X1_lacksLabel qcv_X1_lacksLabel qwm_X1_74 rfl (Nat.le_of_ble_eq_true rfl) (Nat.le_of_ble_eq_true rfl) (by decide) dX1_makeRoom_26 (qLb_lacksLabel_ok hr2) ?_
      refine qx_if_eq (pc := 29) 43 h dX1_makeRoom_29 (by decide) (fun h => ?_) (fun h => ?_)
      · refine qx_iinc (pc := 43) (lv' := [(2, .int (x2 + 1)), (3, .int r1), (0, .ref (a 11)), (1, .int x1)]) 3 (x2 + 1) dX1_makeRoom_43 rfl rfl (Nat.le_of_ble_eq_true rfl) rfl ?_
        refine qx_goto (pc := 46) 4 dX1_makeRoom_46 (by decide) ?_
        exact qx_sub [2, 3, 0] rfl (ih _ _ _ _ h)
      · refine qx_aload_n (pc := 32) 1 dX1_makeRoom_32 rfl ?_
        refine qx_iload_n (pc := 33) 0 dX1_makeRoom_33 rfl ?_
        obtain ⟨r3, hr3, h⟩ := qx_bindE h
        refine qx_callVi (pc := 34) 11 r3.1 r3.2 [.int r1] [] rfl rfl rfl qcm_X1_showByMoving qcv_X1_showByMoving qwm_X1_87 rfl (Nat.le_of_ble_eq_true rfl) (Nat.le_of_ble_eq_true rfl) (by decide) dX1_makeRoom_34 (qLb_showByMoving_ok hr3) ?_
        refine qx_if_eq (pc := 37) 43 h dX1_makeRoom_37 (by decide) (fun h => ?_) (fun h => ?_)
        · refine qx_iinc (pc := 43) (lv' := [(2, .int (x2 + 1)), (3, .int r1), (0, .ref (a 11)), (1, .int x1)]) 3 (x2 + 1) dX1_makeRoom_43 rfl rfl (Nat.le_of_ble_eq_true rfl) rfl ?_
          refine qx_goto (pc := 46) 4 dX1_makeRoom_46 (by decide) ?_
          exact qx_sub [2, 3, 0] rfl (ih _ _ _ _ h)
        · refine qx_iinc (pc := 40) (lv' := [(1, .int (x1 + 1)), (3, .int r1), (0, .ref (a 11)), (2, .int x2)]) 2 (x1 + 1) dX1_makeRoom_40 rfl rfl (Nat.le_of_ble_eq_true rfl) rfl ?_
          refine qx_iinc (pc := 43) (lv' := [(2, .int (x2 + 1)), (1, .int (x1 + 1)), (3, .int r1), (0, .ref (a 11))]) 3 (x2 + 1) dX1_makeRoom_43 rfl rfl (Nat.le_of_ble_eq_true rfl) rfl ?_
          refine qx_goto (pc := 46) 4 dX1_makeRoom_46 (by decide) ?_
          exact qx_sub [3, 1, 0] rfl (ih _ _ _ _ h)
set_option maxHeartbeats 4000000 in
set_option maxRecDepth 100000 in
theorem qLb_makeRoom_ok {σ : QS} {r : Int32 × QS} (h : qLb_makeRoom σ = some r) : qx_E (qx_gC l D ci a z) 6 mX1_makeRoom (some (.int r.1), r.2) 0 [(0, .ref (a 11))] [] σ := by
  unfold qLb_makeRoom at h
  refine qx_iconst (pc := 0) 0 dX1_makeRoom_0 (by decide) ?_
  refine qx_istore_n (pc := 1) (lv' := [(1, .int 0), (0, .ref (a 11))]) dX1_makeRoom_1 (Nat.le_of_ble_eq_true rfl) rfl ?_
  refine qx_iconst (pc := 2) 0 dX1_makeRoom_2 (by decide) ?_
  refine qx_istore_n (pc := 3) (lv' := [(2, .int 0), (1, .int 0), (0, .ref (a 11))]) dX1_makeRoom_3 (Nat.le_of_ble_eq_true rfl) rfl ?_
  exact qx_sub [2, 1, 0] rfl (qLb_makeRoom_L4_ok qx_F _ _ _ _ h)
set_option maxHeartbeats 4000000 in
set_option maxRecDepth 100000 in
theorem qLb_hideClashing_L2_ok {x1 : Int32} {x2 : Int32} : ∀ (n : Nat) (σ : QS) (x3 : Int32) (r : QS), qLb_hideClashing_L2 x1 x2 n σ x3 = some r → qx_E (qx_gC l D ci a z) 2 mX1_hideClashing (none, r) 2 [(0, .ref (a 11)), (1, .int x1), (2, .int x2), (3, .int x3)] [] σ := by
  intro n
  induction n with
  | zero =>
    intro σ x3 r h
    exact (qx_none h).elim
  | succ n ih =>
    intro σ x3 r h
    unfold qLb_hideClashing_L2 at h
    refine qx_iload_n (pc := 2) 3 dX1_hideClashing_2 rfl ?_
    refine qx_aload_n (pc := 3) 0 dX1_hideClashing_3 rfl ?_
    refine qgC11_0 (pc := 4) qwf_X1_9 dX1_hideClashing_4 ?_
    refine qgC1_0 (pc := 7) qwf_X1_29 dX1_hideClashing_7 ?_
    refine qx_icmp_ge (pc := 10) 43 h dX1_hideClashing_10 (by decide) (fun h => ?_) (fun h => ?_)
    · exact qx_vret h rfl dX1_hideClashing_43
    · refine qx_aload_n (pc := 13) 0 dX1_hideClashing_13 rfl ?_
      refine qgC11_1 (pc := 14) qwf_X1_15 dX1_hideClashing_14 ?_
      refine qx_iload_n (pc := 17) 1 dX1_hideClashing_17 rfl ?_
      refine qx_iload_n (pc := 18) 2 dX1_hideClashing_18 rfl ?_
      refine qx_iload_n (pc := 19) 3 dX1_hideClashing_19 rfl ?_
      refine qx_aload_n (pc := 20) 0 dX1_hideClashing_20 rfl ?_
      refine qgC11_2 (pc := 21) qwf_X1_19 dX1_hideClashing_21 ?_
      refine qx_iload_n (pc := 24) 3 dX1_hideClashing_24 rfl ?_
      refine qlC12 (pc := 25) h dX1_hideClashing_25 (fun h => ?_)
      obtain ⟨r1, hr1, h⟩ := qx_bindE h
      refine qx_callVi (pc := 26) 5 r1 σ [.int x1, .int x2, .int x3, .int (σ.1 12 x3.toNatClampNeg)] [] rfl rfl rfl qcm_X3_doClash qcv_X3_doClash qwm_X1_67 rfl (Nat.le_of_ble_eq_true rfl) (Nat.le_of_ble_eq_true rfl) (by decide) dX1_hideClashing_26 (qPl_doClash_ok hr1) ?_
      refine qx_if_eq (pc := 29) 37 h dX1_hideClashing_29 (by decide) (fun h => ?_) (fun h => ?_)
      · refine qx_iinc (pc := 37) (lv' := [(3, .int (x3 + 1)), (0, .ref (a 11)), (1, .int x1), (2, .int x2)]) 3 (x3 + 1) dX1_hideClashing_37 rfl rfl (Nat.le_of_ble_eq_true rfl) rfl ?_
        refine qx_goto (pc := 40) 2 dX1_hideClashing_40 (by decide) ?_
        exact qx_sub [1, 2, 3, 0] rfl (ih _ _ _ h)
      · refine qx_aload_n (pc := 32) 0 dX1_hideClashing_32 rfl ?_
        refine qx_iload_n (pc := 33) 3 dX1_hideClashing_33 rfl ?_
        obtain ⟨r2, hr2, h⟩ := qx_bindE h
        refine qx_callVv (pc := 34) 11 r2 [.int x3] [] rfl rfl rfl qcm_X1_hide qcv_X1_hide qwm_X1_45 rfl (Nat.le_of_ble_eq_true rfl) (Nat.le_of_ble_eq_true rfl) (by decide) dX1_hideClashing_34 (qLb_hide_ok hr2) ?_
        refine qx_iinc (pc := 37) (lv' := [(3, .int (x3 + 1)), (0, .ref (a 11)), (1, .int x1), (2, .int x2)]) 3 (x3 + 1) dX1_hideClashing_37 rfl rfl (Nat.le_of_ble_eq_true rfl) rfl ?_
        refine qx_goto (pc := 40) 2 dX1_hideClashing_40 (by decide) ?_
        exact qx_sub [1, 2, 3, 0] rfl (ih _ _ _ h)
set_option maxHeartbeats 4000000 in
set_option maxRecDepth 100000 in
theorem qLb_hideClashing_ok {σ : QS} {x1 : Int32} {x2 : Int32} {r : QS} (h : qLb_hideClashing σ x1 x2 = some r) : qx_E (qx_gC l D ci a z) 2 mX1_hideClashing (none, r) 0 [(0, .ref (a 11)), (1, .int x1), (2, .int x2)] [] σ := by
  unfold qLb_hideClashing at h
  refine qx_iconst (pc := 0) 0 dX1_hideClashing_0 (by decide) ?_
  refine qx_istore_n (pc := 1) (lv' := [(3, .int 0), (0, .ref (a 11)), (1, .int x1), (2, .int x2)]) dX1_hideClashing_1 (Nat.le_of_ble_eq_true rfl) rfl ?_
  exact qx_sub [1, 2, 3, 0] rfl (qLb_hideClashing_L2_ok qx_F _ _ _ h)
set_option maxHeartbeats 4000000 in
set_option maxRecDepth 100000 in
theorem qLb_outranksClashing_L13_ok {σ : QS} {x1 : Int32} {x2 : Int32} {x3 : Int32} : ∀ (n : Nat) (x4 : Int32) (r : Int32), qLb_outranksClashing_L13 σ x1 x2 x3 n x4 = some r → qx_E (qx_gC l D ci a z) 2 mX1_outranksClashing (some (.int r), σ) 13 [(0, .ref (a 11)), (1, .int x1), (2, .int x2), (3, .int x3), (4, .int x4)] [] σ := by
  intro n
  induction n with
  | zero =>
    intro x4 r h
    exact (qx_none h).elim
  | succ n ih =>
    intro x4 r h
    unfold qLb_outranksClashing_L13 at h
    refine qx_iload (pc := 13) 4 dX1_outranksClashing_13 rfl ?_
    refine qx_aload_n (pc := 15) 0 dX1_outranksClashing_15 rfl ?_
    refine qgC11_0 (pc := 16) qwf_X1_9 dX1_outranksClashing_16 ?_
    refine qgC1_0 (pc := 19) qwf_X1_29 dX1_outranksClashing_19 ?_
    refine qx_icmp_ge (pc := 22) 68 h dX1_outranksClashing_22 (by decide) (fun h => ?_) (fun h => ?_)
    · refine qx_iconst (pc := 68) 1 dX1_outranksClashing_68 (by decide) ?_
      exact qx_nret h rfl rfl dX1_outranksClashing_69
    · refine qx_aload_n (pc := 25) 0 dX1_outranksClashing_25 rfl ?_
      refine qgC11_0 (pc := 26) qwf_X1_9 dX1_outranksClashing_26 ?_
      refine qx_iload (pc := 29) 4 dX1_outranksClashing_29 rfl ?_
      refine qx_iconst (pc := 31) 4 dX1_outranksClashing_31 (by decide) ?_
      obtain ⟨r1, hr1, h⟩ := qx_bindE h
      refine qx_callVi (pc := 32) 1 r1 σ [.int x4, .int 4] [] rfl rfl rfl qcm_X4_get qcv_X4_get qwm_X1_57 rfl (Nat.le_of_ble_eq_true rfl) (Nat.le_of_ble_eq_true rfl) (by decide) dX1_outranksClashing_32 (qPt_get_ok hr1) ?_
      refine qx_iload_n (pc := 35) 3 dX1_outranksClashing_35 rfl ?_
      refine qx_icmp_lt (pc := 36) 62 h dX1_outranksClashing_36 (by decide) (fun h => ?_) (fun h => ?_)
      · refine qx_iinc (pc := 62) (lv' := [(4, .int (x4 + 1)), (0, .ref (a 11)), (1, .int x1), (2, .int x2), (3, .int x3)]) 4 (x4 + 1) dX1_outranksClashing_62 rfl rfl (Nat.le_of_ble_eq_true rfl) rfl ?_
        refine qx_goto (pc := 65) 13 dX1_outranksClashing_65 (by decide) ?_
        exact qx_sub [1, 2, 3, 4, 0] rfl (ih _ _ h)
      · refine qx_aload_n (pc := 39) 0 dX1_outranksClashing_39 rfl ?_
        refine qgC11_1 (pc := 40) qwf_X1_15 dX1_outranksClashing_40 ?_
        refine qx_iload_n (pc := 43) 1 dX1_outranksClashing_43 rfl ?_
        refine qx_iload_n (pc := 44) 2 dX1_outranksClashing_44 rfl ?_
        refine qx_iload (pc := 45) 4 dX1_outranksClashing_45 rfl ?_
        refine qx_aload_n (pc := 47) 0 dX1_outranksClashing_47 rfl ?_
        refine qgC11_2 (pc := 48) qwf_X1_19 dX1_outranksClashing_48 ?_
        refine qx_iload (pc := 51) 4 dX1_outranksClashing_51 rfl ?_
        refine qlC12 (pc := 53) h dX1_outranksClashing_53 (fun h => ?_)
        obtain ⟨r2, hr2, h⟩ := qx_bindE h
        refine qx_callVi (pc := 54) 5 r2 σ [.int x1, .int x2, .int x4, .int (σ.1 12 x4.toNatClampNeg)] [] rfl rfl rfl qcm_X3_doClash qcv_X3_doClash qwm_X1_67 rfl (Nat.le_of_ble_eq_true rfl) (Nat.le_of_ble_eq_true rfl) (by decide) dX1_outranksClashing_54 (qPl_doClash_ok hr2) ?_
        refine qx_if_eq (pc := 57) 62 h dX1_outranksClashing_57 (by decide) (fun h => ?_) (fun h => ?_)
        · refine qx_iinc (pc := 62) (lv' := [(4, .int (x4 + 1)), (0, .ref (a 11)), (1, .int x1), (2, .int x2), (3, .int x3)]) 4 (x4 + 1) dX1_outranksClashing_62 rfl rfl (Nat.le_of_ble_eq_true rfl) rfl ?_
          refine qx_goto (pc := 65) 13 dX1_outranksClashing_65 (by decide) ?_
          exact qx_sub [1, 2, 3, 4, 0] rfl (ih _ _ h)
        · refine qx_iconst (pc := 60) 0 dX1_outranksClashing_60 (by decide) ?_
          exact qx_nret h rfl rfl dX1_outranksClashing_61
set_option maxHeartbeats 4000000 in
set_option maxRecDepth 100000 in
theorem qLb_outranksClashing_ok {σ : QS} {x1 : Int32} {x2 : Int32} {r : Int32} (h : qLb_outranksClashing σ x1 x2 = some r) : qx_E (qx_gC l D ci a z) 2 mX1_outranksClashing (some (.int r), σ) 0 [(0, .ref (a 11)), (1, .int x1), (2, .int x2)] [] σ := by
  unfold qLb_outranksClashing at h
  refine qx_aload_n (pc := 0) 0 dX1_outranksClashing_0 rfl ?_
  refine qgC11_0 (pc := 1) qwf_X1_9 dX1_outranksClashing_1 ?_
  refine qx_iload_n (pc := 4) 1 dX1_outranksClashing_4 rfl ?_
  refine qx_iconst (pc := 5) 4 dX1_outranksClashing_5 (by decide) ?_
  obtain ⟨r3, hr3, h⟩ := qx_bindE h
  refine qx_callVi (pc := 6) 1 r3 σ [.int x1, .int 4] [] rfl rfl rfl qcm_X4_get qcv_X4_get qwm_X1_57 rfl (Nat.le_of_ble_eq_true rfl) (Nat.le_of_ble_eq_true rfl) (by decide) dX1_outranksClashing_6 (qPt_get_ok hr3) ?_
  refine qx_istore_n (pc := 9) (lv' := [(3, .int r3), (0, .ref (a 11)), (1, .int x1), (2, .int x2)]) dX1_outranksClashing_9 (Nat.le_of_ble_eq_true rfl) rfl ?_
  refine qx_iconst (pc := 10) 0 dX1_outranksClashing_10 (by decide) ?_
  refine qx_istore (pc := 11) (lv' := [(4, .int 0), (3, .int r3), (0, .ref (a 11)), (1, .int x1), (2, .int x2)]) dX1_outranksClashing_11 (Nat.le_of_ble_eq_true rfl) rfl ?_
  exact qx_sub [2, 3, 4, 1, 0] rfl (qLb_outranksClashing_L13_ok qx_F _ _ h)
set_option maxHeartbeats 4000000 in
set_option maxRecDepth 100000 in
theorem qLb_sideToPush_L12_ok {σ : QS} {x1 : Int32} : ∀ (n : Nat) (x2 : Int32) (r : Int32), qLb_sideToPush_L12 σ x1 n x2 = some r → qx_E (qx_gC l D ci a z) 4 mX1_sideToPush (some (.int r), σ) 12 [(0, .ref (a 11)), (1, .int x1), (2, .int x2)] [] σ := by
  intro n
  induction n with
  | zero =>
    intro x2 r h
    exact (qx_none h).elim
  | succ n ih =>
    intro x2 r h
    unfold qLb_sideToPush_L12 at h
    refine qx_iload_n (pc := 12) 2 dX1_sideToPush_12 rfl ?_
    refine qx_bipush (pc := 13) 8 dX1_sideToPush_13 (by decide) ?_
    refine qx_icmp_ge (pc := 15) 47 h dX1_sideToPush_15 (by decide) (fun h => ?_) (fun h => ?_)
    · refine qx_iconst (pc := 47) (-1) dX1_sideToPush_47 (by decide) ?_
      exact qx_iret h rfl dX1_sideToPush_48
    · refine qx_aload_n (pc := 18) 0 dX1_sideToPush_18 rfl ?_
      refine qgC11_1 (pc := 19) qwf_X1_15 dX1_sideToPush_19 ?_
      refine qx_iload_n (pc := 22) 1 dX1_sideToPush_22 rfl ?_
      refine qx_iload_n (pc := 23) 2 dX1_sideToPush_23 rfl ?_
      obtain ⟨r1, hr1, h⟩ := qx_bindE h
      refine qx_callVi (pc := 24) 5 r1 σ [.int x1, .int x2] [] rfl rfl rfl qcm_X3_isPlace qcv_X3_isPlace qwm_X1_39 rfl (Nat.le_of_ble_eq_true rfl) (Nat.le_of_ble_eq_true rfl) (by decide) dX1_sideToPush_24 (qPl_isPlace_ok hr1) ?_
      refine qx_if_eq (pc := 27) 41 h dX1_sideToPush_27 (by decide) (fun h => ?_) (fun h => ?_)
      · refine qx_iinc (pc := 41) (lv' := [(2, .int (x2 + 1)), (0, .ref (a 11)), (1, .int x1)]) 2 (x2 + 1) dX1_sideToPush_41 rfl rfl (Nat.le_of_ble_eq_true rfl) rfl ?_
        refine qx_goto (pc := 44) 12 dX1_sideToPush_44 (by decide) ?_
        exact qx_sub [1, 2, 0] rfl (ih _ _ h)
      · refine qx_aload_n (pc := 30) 0 dX1_sideToPush_30 rfl ?_
        refine qx_iload_n (pc := 31) 1 dX1_sideToPush_31 rfl ?_
        refine qx_iload_n (pc := 32) 2 dX1_sideToPush_32 rfl ?_
        obtain ⟨r2, hr2, h⟩ := qx_bindE h
        refine qx_callVi (pc := 33) 11 r2 σ [.int x1, .int x2] [] rfl rfl rfl qcm_X1_outranksClashing qcv_X1_outranksClashing qwm_X1_107 rfl (Nat.le_of_ble_eq_true rfl) (Nat.le_of_ble_eq_true rfl) (by decide) dX1_sideToPush_33 (qLb_outranksClashing_ok hr2) ?_
        refine qx_if_eq (pc := 36) 41 h dX1_sideToPush_36 (by decide) (fun h => ?_) (fun h => ?_)
        · refine qx_iinc (pc := 41) (lv' := [(2, .int (x2 + 1)), (0, .ref (a 11)), (1, .int x1)]) 2 (x2 + 1) dX1_sideToPush_41 rfl rfl (Nat.le_of_ble_eq_true rfl) rfl ?_
          refine qx_goto (pc := 44) 12 dX1_sideToPush_44 (by decide) ?_
          exact qx_sub [1, 2, 0] rfl (ih _ _ h)
        · refine qx_iload_n (pc := 39) 2 dX1_sideToPush_39 rfl ?_
          exact qx_iret h rfl dX1_sideToPush_40
set_option maxHeartbeats 4000000 in
set_option maxRecDepth 100000 in
theorem qLb_sideToPush_ok {σ : QS} {x1 : Int32} {r : Int32} (h : qLb_sideToPush σ x1 = some r) : qx_E (qx_gC l D ci a z) 4 mX1_sideToPush (some (.int r), σ) 0 [(0, .ref (a 11)), (1, .int x1)] [] σ := by
  unfold qLb_sideToPush at h
  refine qx_aload_n (pc := 0) 0 dX1_sideToPush_0 rfl ?_
  refine qx_iload_n (pc := 1) 1 dX1_sideToPush_1 rfl ?_
  obtain ⟨r3, hr3, h⟩ := qx_bindE h
  refine qx_callVi (pc := 2) 11 r3 σ [.int x1] [] rfl rfl rfl qcm_X1_lacksLabel qcv_X1_lacksLabel qwm_X1_74 rfl (Nat.le_of_ble_eq_true rfl) (Nat.le_of_ble_eq_true rfl) (by decide) dX1_sideToPush_2 (qLb_lacksLabel_ok hr3) ?_
  refine qx_if_ne (pc := 5) 10 h dX1_sideToPush_5 (by decide) (fun h => ?_) (fun h => ?_)
  · refine qx_iconst (pc := 10) 0 dX1_sideToPush_10 (by decide) ?_
    refine qx_istore_n (pc := 11) (lv' := [(2, .int 0), (0, .ref (a 11)), (1, .int x1)]) dX1_sideToPush_11 (Nat.le_of_ble_eq_true rfl) rfl ?_
    exact qx_sub [1, 2, 0] rfl (qLb_sideToPush_L12_ok qx_F _ _ h)
  · refine qx_iconst (pc := 8) (-1) dX1_sideToPush_8 (by decide) ?_
    exact qx_iret h rfl dX1_sideToPush_9
set_option maxHeartbeats 4000000 in
set_option maxRecDepth 100000 in
theorem qLb_pushFirst_L2_ok {σ : QS} : ∀ (n : Nat) (x1 : Int32) (r : Int32 × QS), qLb_pushFirst_L2 σ n x1 = some r → qx_E (qx_gC l D ci a z) 5 mX1_pushFirst (some (.int r.1), r.2) 2 [(0, .ref (a 11)), (1, .int x1)] [] σ := by
  intro n
  induction n with
  | zero =>
    intro x1 r h
    exact (qx_none h).elim
  | succ n ih =>
    intro x1 r h
    unfold qLb_pushFirst_L2 at h
    refine qx_iload_n (pc := 2) 1 dX1_pushFirst_2 rfl ?_
    refine qx_aload_n (pc := 3) 0 dX1_pushFirst_3 rfl ?_
    refine qgC11_0 (pc := 4) qwf_X1_9 dX1_pushFirst_4 ?_
    refine qgC1_0 (pc := 7) qwf_X1_29 dX1_pushFirst_7 ?_
    refine qx_icmp_ge (pc := 10) 53 h dX1_pushFirst_10 (by decide) (fun h => ?_) (fun h => ?_)
    · refine qx_iconst (pc := 53) 0 dX1_pushFirst_53 (by decide) ?_
      exact qx_nretS h rfl rfl dX1_pushFirst_54
    · refine qx_aload_n (pc := 13) 0 dX1_pushFirst_13 rfl ?_
      refine qgC11_0 (pc := 14) qwf_X1_9 dX1_pushFirst_14 ?_
      refine qx_iload_n (pc := 17) 1 dX1_pushFirst_17 rfl ?_
      obtain ⟨r1, hr1, h⟩ := qx_bindE h
      refine qx_callVi (pc := 18) 1 r1 σ [.int x1] [] rfl rfl rfl qcm_X4_inOrder qcv_X4_inOrder qwm_X1_70 rfl (Nat.le_of_ble_eq_true rfl) (Nat.le_of_ble_eq_true rfl) (by decide) dX1_pushFirst_18 (qPt_inOrder_ok hr1) ?_
      refine qx_istore_n (pc := 21) (lv' := [(2, .int r1), (0, .ref (a 11)), (1, .int x1)]) dX1_pushFirst_21 (Nat.le_of_ble_eq_true rfl) rfl ?_
      refine qx_aload_n (pc := 22) 1 dX1_pushFirst_22 rfl ?_
      refine qx_iload_n (pc := 23) 0 dX1_pushFirst_23 rfl ?_
      obtain ⟨r2, hr2, h⟩ := qx_bindE h
      refine qx_callVi (pc := 24) 11 r2 σ [.int r1] [] rfl rfl rfl qcm_X1_sideToPush qcv_X1_sideToPush qwm_X1_101 rfl (Nat.le_of_ble_eq_true rfl) (Nat.le_of_ble_eq_true rfl) (by decide) dX1_pushFirst_24 (qLb_sideToPush_ok hr2) ?_
      refine qx_istore_n (pc := 27) (lv' := [(3, .int r2), (2, .int r1), (0, .ref (a 11)), (1, .int x1)]) dX1_pushFirst_27 (Nat.le_of_ble_eq_true rfl) rfl ?_
      refine qx_iload_n (pc := 28) 0 dX1_pushFirst_28 rfl ?_
      refine qx_iconst (pc := 29) (-1) dX1_pushFirst_29 (by decide) ?_
      refine qx_icmp_eq (pc := 30) 47 h dX1_pushFirst_30 (by decide) (fun h => ?_) (fun h => ?_)
      · refine qx_iinc (pc := 47) (lv' := [(1, .int (x1 + 1)), (3, .int r2), (2, .int r1), (0, .ref (a 11))]) 3 (x1 + 1) dX1_pushFirst_47 rfl rfl (Nat.le_of_ble_eq_true rfl) rfl ?_
        refine qx_goto (pc := 50) 2 dX1_pushFirst_50 (by decide) ?_
        exact qx_sub [3, 0] rfl (ih _ _ h)
      · refine qx_aload_n (pc := 33) 2 dX1_pushFirst_33 rfl ?_
        refine qx_iload_n (pc := 34) 1 dX1_pushFirst_34 rfl ?_
        refine qx_iload_n (pc := 35) 0 dX1_pushFirst_35 rfl ?_
        obtain ⟨r3, hr3, h⟩ := qx_bindE h
        refine qx_callVv (pc := 36) 11 r3 [.int r1, .int r2] [] rfl rfl rfl qcm_X1_hideClashing qcv_X1_hideClashing qwm_X1_104 rfl (Nat.le_of_ble_eq_true rfl) (Nat.le_of_ble_eq_true rfl) (by decide) dX1_pushFirst_36 (qLb_hideClashing_ok hr3) ?_
        refine qx_aload_n (pc := 39) 2 dX1_pushFirst_39 rfl ?_
        refine qx_iload_n (pc := 40) 1 dX1_pushFirst_40 rfl ?_
        refine qx_iload_n (pc := 41) 0 dX1_pushFirst_41 rfl ?_
        obtain ⟨r4, hr4, h⟩ := qx_bindE h
        refine qx_callVv (pc := 42) 11 r4 [.int r1, .int r2] [] rfl rfl rfl qcm_X1_put qcv_X1_put qwm_X1_83 rfl (Nat.le_of_ble_eq_true rfl) (Nat.le_of_ble_eq_true rfl) (by decide) dX1_pushFirst_42 (qLb_put_ok hr4) ?_
        refine qx_iconst (pc := 45) 1 dX1_pushFirst_45 (by decide) ?_
        exact qx_nretS h rfl rfl dX1_pushFirst_46
set_option maxHeartbeats 4000000 in
set_option maxRecDepth 100000 in
theorem qLb_pushFirst_ok {σ : QS} {r : Int32 × QS} (h : qLb_pushFirst σ = some r) : qx_E (qx_gC l D ci a z) 5 mX1_pushFirst (some (.int r.1), r.2) 0 [(0, .ref (a 11))] [] σ := by
  unfold qLb_pushFirst at h
  refine qx_iconst (pc := 0) 0 dX1_pushFirst_0 (by decide) ?_
  refine qx_istore_n (pc := 1) (lv' := [(1, .int 0), (0, .ref (a 11))]) dX1_pushFirst_1 (Nat.le_of_ble_eq_true rfl) rfl ?_
  exact qx_sub [1, 0] rfl (qLb_pushFirst_L2_ok qx_F _ _ h)
set_option maxHeartbeats 4000000 in
set_option maxRecDepth 100000 in
theorem qLb_pushAway_L2_ok : ∀ (n : Nat) (σ : QS) (x1 : Int32) (r : Int32 × QS), qLb_pushAway_L2 n σ x1 = some r → qx_E (qx_gC l D ci a z) 6 mX1_pushAway (some (.int r.1), r.2) 2 [(0, .ref (a 11)), (1, .int x1)] [] σ := by
  intro n
  induction n with
  | zero =>
    intro σ x1 r h
    exact (qx_none h).elim
  | succ n ih =>
    intro σ x1 r h
    unfold qLb_pushAway_L2 at h
    refine qx_iload_n (pc := 2) 1 dX1_pushAway_2 rfl ?_
    refine qx_sipush (pc := 3) 1000 dX1_pushAway_3 (by decide) ?_
    refine qx_icmp_ge (pc := 6) 22 h dX1_pushAway_6 (by decide) (fun h => ?_) (fun h => ?_)
    · refine qx_iload_n (pc := 22) 1 dX1_pushAway_22 rfl ?_
      exact qx_iretS h rfl dX1_pushAway_23
    · refine qx_aload_n (pc := 9) 0 dX1_pushAway_9 rfl ?_
      obtain ⟨r1, hr1, h⟩ := qx_bindE h
      refine qx_callVi (pc := 10) 11 r1.1 r1.2 [] [] rfl rfl rfl qcm_X1_pushFirst qcv_X1_pushFirst qwm_X1_97 rfl (Nat.le_of_ble_eq_true rfl) (Nat.le_of_ble_eq_true rfl) (by decide) dX1_pushAway_10 (qLb_pushFirst_ok hr1) ?_
      refine qx_if_eq (pc := 13) 22 h dX1_pushAway_13 (by decide) (fun h => ?_) (fun h => ?_)
      · refine qx_iload_n (pc := 22) 1 dX1_pushAway_22 rfl ?_
        exact qx_iretS h rfl dX1_pushAway_23
      · refine qx_iinc (pc := 16) (lv' := [(1, .int (x1 + 1)), (0, .ref (a 11))]) 1 (x1 + 1) dX1_pushAway_16 rfl rfl (Nat.le_of_ble_eq_true rfl) rfl ?_
        refine qx_goto (pc := 19) 2 dX1_pushAway_19 (by decide) ?_
        exact qx_sub [1, 0] rfl (ih _ _ _ h)
set_option maxHeartbeats 4000000 in
set_option maxRecDepth 100000 in
theorem qLb_pushAway_ok {σ : QS} {r : Int32 × QS} (h : qLb_pushAway σ = some r) : qx_E (qx_gC l D ci a z) 6 mX1_pushAway (some (.int r.1), r.2) 0 [(0, .ref (a 11))] [] σ := by
  unfold qLb_pushAway at h
  refine qx_iconst (pc := 0) 0 dX1_pushAway_0 (by decide) ?_
  refine qx_istore_n (pc := 1) (lv' := [(1, .int 0), (0, .ref (a 11))]) dX1_pushAway_1 (Nat.le_of_ble_eq_true rfl) rfl ?_
  exact qx_sub [1, 0] rfl (qLb_pushAway_L2_ok qx_F _ _ _ h)
set_option maxHeartbeats 4000000 in
set_option maxRecDepth 100000 in
theorem qLb_manyThatCanPush_L4_ok {σ : QS} : ∀ (n : Nat) (x1 : Int32) (x2 : Int32) (r : Int32), qLb_manyThatCanPush_L4 σ n x1 x2 = some r → qx_E (qx_gC l D ci a z) 5 mX1_manyThatCanPush (some (.int r), σ) 4 [(0, .ref (a 11)), (1, .int x1), (2, .int x2)] [] σ := by
  intro n
  induction n with
  | zero =>
    intro x1 x2 r h
    exact (qx_none h).elim
  | succ n ih =>
    intro x1 x2 r h
    unfold qLb_manyThatCanPush_L4 at h
    refine qx_iload_n (pc := 4) 2 dX1_manyThatCanPush_4 rfl ?_
    refine qx_aload_n (pc := 5) 0 dX1_manyThatCanPush_5 rfl ?_
    refine qgC11_0 (pc := 6) qwf_X1_9 dX1_manyThatCanPush_6 ?_
    refine qgC1_0 (pc := 9) qwf_X1_29 dX1_manyThatCanPush_9 ?_
    refine qx_icmp_ge (pc := 12) 33 h dX1_manyThatCanPush_12 (by decide) (fun h => ?_) (fun h => ?_)
    · refine qx_iload_n (pc := 33) 1 dX1_manyThatCanPush_33 rfl ?_
      exact qx_iret h rfl dX1_manyThatCanPush_34
    · refine qx_aload_n (pc := 15) 0 dX1_manyThatCanPush_15 rfl ?_
      refine qx_iload_n (pc := 16) 2 dX1_manyThatCanPush_16 rfl ?_
      obtain ⟨r1, hr1, h⟩ := qx_bindE h
      refine qx_callVi (pc := 17) 11 r1 σ [.int x2] [] rfl rfl rfl qcm_X1_sideToPush qcv_X1_sideToPush qwm_X1_101 rfl (Nat.le_of_ble_eq_true rfl) (Nat.le_of_ble_eq_true rfl) (by decide) dX1_manyThatCanPush_17 (qLb_sideToPush_ok hr1) ?_
      refine qx_iconst (pc := 20) (-1) dX1_manyThatCanPush_20 (by decide) ?_
      refine qx_icmp_eq (pc := 21) 27 h dX1_manyThatCanPush_21 (by decide) (fun h => ?_) (fun h => ?_)
      · refine qx_iinc (pc := 27) (lv' := [(2, .int (x2 + 1)), (0, .ref (a 11)), (1, .int x1)]) 2 (x2 + 1) dX1_manyThatCanPush_27 rfl rfl (Nat.le_of_ble_eq_true rfl) rfl ?_
        refine qx_goto (pc := 30) 4 dX1_manyThatCanPush_30 (by decide) ?_
        exact qx_sub [1, 2, 0] rfl (ih _ _ _ h)
      · refine qx_iinc (pc := 24) (lv' := [(1, .int (x1 + 1)), (0, .ref (a 11)), (2, .int x2)]) 1 (x1 + 1) dX1_manyThatCanPush_24 rfl rfl (Nat.le_of_ble_eq_true rfl) rfl ?_
        refine qx_iinc (pc := 27) (lv' := [(2, .int (x2 + 1)), (1, .int (x1 + 1)), (0, .ref (a 11))]) 2 (x2 + 1) dX1_manyThatCanPush_27 rfl rfl (Nat.le_of_ble_eq_true rfl) rfl ?_
        refine qx_goto (pc := 30) 4 dX1_manyThatCanPush_30 (by decide) ?_
        exact qx_sub [2, 1, 0] rfl (ih _ _ _ h)
set_option maxHeartbeats 4000000 in
set_option maxRecDepth 100000 in
theorem qLb_manyThatCanPush_ok {σ : QS} {r : Int32} (h : qLb_manyThatCanPush σ = some r) : qx_E (qx_gC l D ci a z) 5 mX1_manyThatCanPush (some (.int r), σ) 0 [(0, .ref (a 11))] [] σ := by
  unfold qLb_manyThatCanPush at h
  refine qx_iconst (pc := 0) 0 dX1_manyThatCanPush_0 (by decide) ?_
  refine qx_istore_n (pc := 1) (lv' := [(1, .int 0), (0, .ref (a 11))]) dX1_manyThatCanPush_1 (Nat.le_of_ble_eq_true rfl) rfl ?_
  refine qx_iconst (pc := 2) 0 dX1_manyThatCanPush_2 (by decide) ?_
  refine qx_istore_n (pc := 3) (lv' := [(2, .int 0), (1, .int 0), (0, .ref (a 11))]) dX1_manyThatCanPush_3 (Nat.le_of_ble_eq_true rfl) rfl ?_
  exact qx_sub [2, 1, 0] rfl (qLb_manyThatCanPush_L4_ok qx_F _ _ _ h)
set_option maxHeartbeats 4000000 in
set_option maxRecDepth 100000 in
theorem qLn_get_ok {σ : QS} {x1 : Int32} {x2 : Int32} {r : Int32} (h : qLn_get σ x1 x2 = some r) : qx_E (qx_gC l D ci a z) 1 mX2_get (some (.int r), σ) 0 [(0, .ref (a 16)), (1, .int x1), (2, .int x2)] [] σ := by
  unfold qLn_get at h
  refine qx_aload_n (pc := 0) 0 dX2_get_0 rfl ?_
  refine qgC16_4 (pc := 1) qwf_X2_27 dX2_get_1 ?_
  refine qx_iload_n (pc := 4) 1 dX2_get_4 rfl ?_
  refine qx_iconst (pc := 5) 4 dX2_get_5 (by decide) ?_
  refine qx_imul (pc := 6) dX2_get_6 ?_
  refine qx_iload_n (pc := 7) 2 dX2_get_7 rfl ?_
  refine qx_iadd (pc := 8) dX2_get_8 ?_
  refine qlC17 (pc := 9) h dX2_get_9 (fun h => ?_)
  exact qx_iret h rfl dX2_get_10
set_option maxHeartbeats 4000000 in
set_option maxRecDepth 100000 in
theorem qLn_comesBefore_ok {σ : QS} {x1 : Int32} {x2 : Int32} {r : Int32} (h : qLn_comesBefore σ x1 x2 = some r) : qx_E (qx_gC l D ci a z) 2 mX2_comesBefore (some (.int r), σ) 0 [(0, .ref (a 16)), (1, .int x1), (2, .int x2)] [] σ := by
  unfold qLn_comesBefore at h
  refine qx_aload_n (pc := 0) 0 dX2_comesBefore_0 rfl ?_
  refine qgC16_1 (pc := 1) qwf_X2_9 dX2_comesBefore_1 ?_
  refine qx_iload_n (pc := 4) 1 dX2_comesBefore_4 rfl ?_
  refine qx_iconst (pc := 5) 1 dX2_comesBefore_5 (by decide) ?_
  obtain ⟨r1, hr1, h⟩ := qx_bindE h
  refine qx_callVi (pc := 6) 1 r1 σ [.int x1, .int 1] [] rfl rfl rfl qcm_X4_get qcv_X4_get qwm_X2_67 rfl (Nat.le_of_ble_eq_true rfl) (Nat.le_of_ble_eq_true rfl) (by decide) dX2_comesBefore_6 (qPt_get_ok hr1) ?_
  refine qx_istore_n (pc := 9) (lv' := [(3, .int r1), (0, .ref (a 16)), (1, .int x1), (2, .int x2)]) dX2_comesBefore_9 (Nat.le_of_ble_eq_true rfl) rfl ?_
  refine qx_aload_n (pc := 10) 1 dX2_comesBefore_10 rfl ?_
  refine qgC16_1 (pc := 11) qwf_X2_9 dX2_comesBefore_11 ?_
  refine qx_iload_n (pc := 14) 3 dX2_comesBefore_14 rfl ?_
  refine qx_iconst (pc := 15) 1 dX2_comesBefore_15 (by decide) ?_
  obtain ⟨r2, hr2, h⟩ := qx_bindE h
  refine qx_callVi (pc := 16) 1 r2 σ [.int x2, .int 1] [] rfl rfl rfl qcm_X4_get qcv_X4_get qwm_X2_67 rfl (Nat.le_of_ble_eq_true rfl) (Nat.le_of_ble_eq_true rfl) (by decide) dX2_comesBefore_16 (qPt_get_ok hr2) ?_
  refine qx_istore (pc := 19) (lv' := [(4, .int r2), (3, .int r1), (0, .ref (a 16)), (1, .int x1), (2, .int x2)]) dX2_comesBefore_19 (Nat.le_of_ble_eq_true rfl) rfl ?_
  refine qx_iload_n (pc := 21) 1 dX2_comesBefore_21 rfl ?_
  refine qx_iload (pc := 22) 0 dX2_comesBefore_22 rfl ?_
  refine qx_icmp_gt (pc := 24) 54 h dX2_comesBefore_24 (by decide) (fun h => ?_) (fun h => ?_)
  · refine qx_iconst (pc := 54) 1 dX2_comesBefore_54 (by decide) ?_
    refine qx_goto (pc := 55) 59 dX2_comesBefore_55 (by decide) ?_
    exact qx_nret h rfl rfl dX2_comesBefore_59
  · refine qx_iload_n (pc := 27) 1 dX2_comesBefore_27 rfl ?_
    refine qx_iload (pc := 28) 0 dX2_comesBefore_28 rfl ?_
    refine qx_icmp_ne (pc := 30) 58 h dX2_comesBefore_30 (by decide) (fun h => ?_) (fun h => ?_)
    · refine qx_iconst (pc := 58) 0 dX2_comesBefore_58 (by decide) ?_
      exact qx_nret h rfl rfl dX2_comesBefore_59
    · refine qx_aload_n (pc := 33) 2 dX2_comesBefore_33 rfl ?_
      refine qgC16_1 (pc := 34) qwf_X2_9 dX2_comesBefore_34 ?_
      refine qx_iload_n (pc := 37) 3 dX2_comesBefore_37 rfl ?_
      refine qx_iconst (pc := 38) 0 dX2_comesBefore_38 (by decide) ?_
      obtain ⟨r3, hr3, h⟩ := qx_bindE h
      refine qx_callVi (pc := 39) 1 r3 σ [.int x1, .int 0] [] rfl rfl rfl qcm_X4_get qcv_X4_get qwm_X2_67 rfl (Nat.le_of_ble_eq_true rfl) (Nat.le_of_ble_eq_true rfl) (by decide) dX2_comesBefore_39 (qPt_get_ok hr3) ?_
      refine qx_aload_n (pc := 42) 2 dX2_comesBefore_42 rfl ?_
      refine qgC16_1 (pc := 43) qwf_X2_9 dX2_comesBefore_43 ?_
      refine qx_iload_n (pc := 46) 4 dX2_comesBefore_46 rfl ?_
      refine qx_iconst (pc := 47) 0 dX2_comesBefore_47 (by decide) ?_
      obtain ⟨r4, hr4, h⟩ := qx_bindE h
      refine qx_callVi (pc := 48) 1 r4 σ [.int x2, .int 0] [.int r3] rfl rfl rfl qcm_X4_get qcv_X4_get qwm_X2_67 rfl (Nat.le_of_ble_eq_true rfl) (Nat.le_of_ble_eq_true rfl) (by decide) dX2_comesBefore_48 (qPt_get_ok hr4) ?_
      refine qx_icmp_ge (pc := 51) 58 h dX2_comesBefore_51 (by decide) (fun h => ?_) (fun h => ?_)
      · refine qx_iconst (pc := 58) 0 dX2_comesBefore_58 (by decide) ?_
        exact qx_nret h rfl rfl dX2_comesBefore_59
      · refine qx_iconst (pc := 54) 1 dX2_comesBefore_54 (by decide) ?_
        refine qx_goto (pc := 55) 59 dX2_comesBefore_55 (by decide) ?_
        exact qx_nret h rfl rfl dX2_comesBefore_59
end
