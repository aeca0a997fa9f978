section
variable {l : Launch} {D : va_G} {ci : Nat → ClassId} {a z : Nat → Nat}
theorem dX8_count_0 : decode cX8_count 0 = .ok (.iload_n 1, 1) := by decide +kernel
theorem dX8_count_1 : decode cX8_count 1 = .ok (.tableswitch 171 0 12 #[67, 75, 83, 91, 99, 107, 115, 123, 131, 139, 147, 155, 163], 67) := by decide +kernel
theorem dX8_count_68 : decode cX8_count 68 = .ok (.aload_n 0, 1) := by decide +kernel
theorem dX8_count_69 : decode cX8_count 69 = .ok (.getfield 12, 3) := by decide +kernel
theorem dX8_count_72 : decode cX8_count 72 = .ok (.getfield 78, 3) := by decide +kernel
theorem dX8_count_75 : decode cX8_count 75 = .ok (.ireturn, 1) := by decide +kernel
theorem dX8_count_76 : decode cX8_count 76 = .ok (.aload_n 0, 1) := by decide +kernel
theorem dX8_count_77 : decode cX8_count 77 = .ok (.getfield 28, 3) := by decide +kernel
theorem dX8_count_80 : decode cX8_count 80 = .ok (.invokevirtual 128, 3) := by decide +kernel
theorem dX8_count_83 : decode cX8_count 83 = .ok (.ireturn, 1) := by decide +kernel
theorem dX8_count_84 : decode cX8_count 84 = .ok (.aload_n 0, 1) := by decide +kernel
theorem dX8_count_85 : decode cX8_count 85 = .ok (.getfield 28, 3) := by decide +kernel
theorem dX8_count_88 : decode cX8_count 88 = .ok (.invokevirtual 230, 3) := by decide +kernel
theorem dX8_count_91 : decode cX8_count 91 = .ok (.ireturn, 1) := by decide +kernel
theorem dX8_count_92 : decode cX8_count 92 = .ok (.aload_n 0, 1) := by decide +kernel
theorem dX8_count_93 : decode cX8_count 93 = .ok (.getfield 28, 3) := by decide +kernel
theorem dX8_count_96 : decode cX8_count 96 = .ok (.invokevirtual 233, 3) := by decide +kernel
theorem dX8_count_99 : decode cX8_count 99 = .ok (.ireturn, 1) := by decide +kernel
theorem dX8_count_100 : decode cX8_count 100 = .ok (.aload_n 0, 1) := by decide +kernel
theorem dX8_count_101 : decode cX8_count 101 = .ok (.getfield 37, 3) := by decide +kernel
theorem dX8_count_104 : decode cX8_count 104 = .ok (.invokevirtual 236, 3) := by decide +kernel
theorem dX8_count_107 : decode cX8_count 107 = .ok (.ireturn, 1) := by decide +kernel
theorem dX8_count_108 : decode cX8_count 108 = .ok (.aload_n 0, 1) := by decide +kernel
theorem dX8_count_109 : decode cX8_count 109 = .ok (.getfield 37, 3) := by decide +kernel
theorem dX8_count_112 : decode cX8_count 112 = .ok (.invokevirtual 239, 3) := by decide +kernel
theorem dX8_count_115 : decode cX8_count 115 = .ok (.ireturn, 1) := by decide +kernel
theorem dX8_count_116 : decode cX8_count 116 = .ok (.aload_n 0, 1) := by decide +kernel
theorem dX8_count_117 : decode cX8_count 117 = .ok (.getfield 19, 3) := by decide +kernel
theorem dX8_count_120 : decode cX8_count 120 = .ok (.getfield 131, 3) := by decide +kernel
theorem dX8_count_123 : decode cX8_count 123 = .ok (.ireturn, 1) := by decide +kernel
theorem dX8_count_124 : decode cX8_count 124 = .ok (.aload_n 0, 1) := by decide +kernel
theorem dX8_count_125 : decode cX8_count 125 = .ok (.getfield 19, 3) := by decide +kernel
theorem dX8_count_128 : decode cX8_count 128 = .ok (.getfield 134, 3) := by decide +kernel
theorem dX8_count_131 : decode cX8_count 131 = .ok (.ireturn, 1) := by decide +kernel
theorem dX8_count_132 : decode cX8_count 132 = .ok (.aload_n 0, 1) := by decide +kernel
theorem dX8_count_133 : decode cX8_count 133 = .ok (.getfield 19, 3) := by decide +kernel
theorem dX8_count_136 : decode cX8_count 136 = .ok (.getfield 137, 3) := by decide +kernel
theorem dX8_count_139 : decode cX8_count 139 = .ok (.ireturn, 1) := by decide +kernel
theorem dX8_count_140 : decode cX8_count 140 = .ok (.aload_n 0, 1) := by decide +kernel
theorem dX8_count_141 : decode cX8_count 141 = .ok (.getfield 19, 3) := by decide +kernel
theorem dX8_count_144 : decode cX8_count 144 = .ok (.getfield 140, 3) := by decide +kernel
theorem dX8_count_147 : decode cX8_count 147 = .ok (.ireturn, 1) := by decide +kernel
theorem dX8_count_148 : decode cX8_count 148 = .ok (.aload_n 0, 1) := by decide +kernel
theorem dX8_count_149 : decode cX8_count 149 = .ok (.getfield 53, 3) := by decide +kernel
theorem dX8_count_152 : decode cX8_count 152 = .ok (.getfield 201, 3) := by decide +kernel
theorem dX8_count_155 : decode cX8_count 155 = .ok (.ireturn, 1) := by decide +kernel
theorem dX8_count_156 : decode cX8_count 156 = .ok (.aload_n 0, 1) := by decide +kernel
theorem dX8_count_157 : decode cX8_count 157 = .ok (.getfield 60, 3) := by decide +kernel
theorem dX8_count_160 : decode cX8_count 160 = .ok (.getfield 203, 3) := by decide +kernel
theorem dX8_count_163 : decode cX8_count 163 = .ok (.ireturn, 1) := by decide +kernel
theorem dX8_count_164 : decode cX8_count 164 = .ok (.aload_n 0, 1) := by decide +kernel
theorem dX8_count_165 : decode cX8_count 165 = .ok (.getfield 37, 3) := by decide +kernel
theorem dX8_count_168 : decode cX8_count 168 = .ok (.invokevirtual 242, 3) := by decide +kernel
theorem dX8_count_171 : decode cX8_count 171 = .ok (.ireturn, 1) := by decide +kernel
theorem dX8_count_172 : decode cX8_count 172 = .ok (.bipush (-2), 2) := by decide +kernel
theorem dX8_count_174 : decode cX8_count 174 = .ok (.ireturn, 1) := by decide +kernel
theorem dX8_withPoint_0 : decode cX8_withPoint 0 = .ok (.lload_n 1, 1) := by decide +kernel
theorem dX8_withPoint_1 : decode cX8_withPoint 1 = .ok (.lstore 4, 2) := by decide +kernel
theorem dX8_withPoint_3 : decode cX8_withPoint 3 = .ok (.iconst 0, 1) := by decide +kernel
theorem dX8_withPoint_4 : decode cX8_withPoint 4 = .ok (.istore 6, 2) := by decide +kernel
theorem dX8_withPoint_6 : decode cX8_withPoint 6 = .ok (.iload 6, 2) := by decide +kernel
theorem dX8_withPoint_8 : decode cX8_withPoint 8 = .ok (.bipush 9, 2) := by decide +kernel
theorem dX8_withPoint_10 : decode cX8_withPoint 10 = .ok (.if_icmp .ge 26, 3) := by decide +kernel
theorem dX8_withPoint_13 : decode cX8_withPoint 13 = .ok (.ldc2_w 247, 3) := by decide +kernel
theorem dX8_withPoint_16 : decode cX8_withPoint 16 = .ok (.lload 4, 2) := by decide +kernel
theorem dX8_withPoint_18 : decode cX8_withPoint 18 = .ok (.lmul, 1) := by decide +kernel
theorem dX8_withPoint_19 : decode cX8_withPoint 19 = .ok (.aload_n 0, 1) := by decide +kernel
theorem dX8_withPoint_20 : decode cX8_withPoint 20 = .ok (.iload_n 3, 1) := by decide +kernel
theorem dX8_withPoint_21 : decode cX8_withPoint 21 = .ok (.iload 6, 2) := by decide +kernel
theorem dX8_withPoint_23 : decode cX8_withPoint 23 = .ok (.invokevirtual 262, 3) := by decide +kernel
theorem dX8_withPoint_26 : decode cX8_withPoint 26 = .ok (.i2l, 1) := by decide +kernel
theorem dX8_withPoint_27 : decode cX8_withPoint 27 = .ok (.ladd, 1) := by decide +kernel
theorem dX8_withPoint_28 : decode cX8_withPoint 28 = .ok (.lstore 4, 2) := by decide +kernel
theorem dX8_withPoint_30 : decode cX8_withPoint 30 = .ok (.iinc 6 1, 3) := by decide +kernel
theorem dX8_withPoint_33 : decode cX8_withPoint 33 = .ok (.goto (-27), 3) := by decide +kernel
theorem dX8_withPoint_36 : decode cX8_withPoint 36 = .ok (.iconst 0, 1) := by decide +kernel
theorem dX8_withPoint_37 : decode cX8_withPoint 37 = .ok (.istore 6, 2) := by decide +kernel
theorem dX8_withPoint_39 : decode cX8_withPoint 39 = .ok (.iload 6, 2) := by decide +kernel
theorem dX8_withPoint_41 : decode cX8_withPoint 41 = .ok (.bipush 8, 2) := by decide +kernel
theorem dX8_withPoint_43 : decode cX8_withPoint 43 = .ok (.if_icmp .ge 43, 3) := by decide +kernel
theorem dX8_withPoint_46 : decode cX8_withPoint 46 = .ok (.iconst 0, 1) := by decide +kernel
theorem dX8_withPoint_47 : decode cX8_withPoint 47 = .ok (.istore 7, 2) := by decide +kernel
theorem dX8_withPoint_49 : decode cX8_withPoint 49 = .ok (.iload 7, 2) := by decide +kernel
theorem dX8_withPoint_51 : decode cX8_withPoint 51 = .ok (.iconst 5, 1) := by decide +kernel
theorem dX8_withPoint_52 : decode cX8_withPoint 52 = .ok (.if_icmp .ge 28, 3) := by decide +kernel
theorem dX8_withPoint_55 : decode cX8_withPoint 55 = .ok (.ldc2_w 247, 3) := by decide +kernel
theorem dX8_withPoint_58 : decode cX8_withPoint 58 = .ok (.lload 4, 2) := by decide +kernel
theorem dX8_withPoint_60 : decode cX8_withPoint 60 = .ok (.lmul, 1) := by decide +kernel
theorem dX8_withPoint_61 : decode cX8_withPoint 61 = .ok (.aload_n 0, 1) := by decide +kernel
theorem dX8_withPoint_62 : decode cX8_withPoint 62 = .ok (.iload_n 3, 1) := by decide +kernel
theorem dX8_withPoint_63 : decode cX8_withPoint 63 = .ok (.iload 6, 2) := by decide +kernel
theorem dX8_withPoint_65 : decode cX8_withPoint 65 = .ok (.iload 7, 2) := by decide +kernel
theorem dX8_withPoint_67 : decode cX8_withPoint 67 = .ok (.invokevirtual 265, 3) := by decide +kernel
theorem dX8_withPoint_70 : decode cX8_withPoint 70 = .ok (.i2l, 1) := by decide +kernel
theorem dX8_withPoint_71 : decode cX8_withPoint 71 = .ok (.ladd, 1) := by decide +kernel
theorem dX8_withPoint_72 : decode cX8_withPoint 72 = .ok (.lstore 4, 2) := by decide +kernel
theorem dX8_withPoint_74 : decode cX8_withPoint 74 = .ok (.iinc 7 1, 3) := by decide +kernel
theorem dX8_withPoint_77 : decode cX8_withPoint 77 = .ok (.goto (-28), 3) := by decide +kernel
theorem dX8_withPoint_80 : decode cX8_withPoint 80 = .ok (.iinc 6 1, 3) := by decide +kernel
theorem dX8_withPoint_83 : decode cX8_withPoint 83 = .ok (.goto (-44), 3) := by decide +kernel
theorem dX8_withPoint_86 : decode cX8_withPoint 86 = .ok (.lload 4, 2) := by decide +kernel
theorem dX8_withPoint_88 : decode cX8_withPoint 88 = .ok (.lreturn, 1) := by decide +kernel
theorem dX8_digest_0 : decode cX8_digest 0 = .ok (.ldc2_w 245, 3) := by decide +kernel
theorem dX8_digest_3 : decode cX8_digest 3 = .ok (.lstore_n 1, 1) := by decide +kernel
theorem dX8_digest_4 : decode cX8_digest 4 = .ok (.iconst 0, 1) := by decide +kernel
theorem dX8_digest_5 : decode cX8_digest 5 = .ok (.istore_n 3, 1) := by decide +kernel
theorem dX8_digest_6 : decode cX8_digest 6 = .ok (.iload_n 3, 1) := by decide +kernel
theorem dX8_digest_7 : decode cX8_digest 7 = .ok (.bipush 13, 2) := by decide +kernel
theorem dX8_digest_9 : decode cX8_digest 9 = .ok (.if_icmp .ge 22, 3) := by decide +kernel
theorem dX8_digest_12 : decode cX8_digest 12 = .ok (.ldc2_w 247, 3) := by decide +kernel
theorem dX8_digest_15 : decode cX8_digest 15 = .ok (.lload_n 1, 1) := by decide +kernel
theorem dX8_digest_16 : decode cX8_digest 16 = .ok (.lmul, 1) := by decide +kernel
theorem dX8_digest_17 : decode cX8_digest 17 = .ok (.aload_n 0, 1) := by decide +kernel
theorem dX8_digest_18 : decode cX8_digest 18 = .ok (.iload_n 3, 1) := by decide +kernel
theorem dX8_digest_19 : decode cX8_digest 19 = .ok (.invokevirtual 249, 3) := by decide +kernel
theorem dX8_digest_22 : decode cX8_digest 22 = .ok (.i2l, 1) := by decide +kernel
theorem dX8_digest_23 : decode cX8_digest 23 = .ok (.ladd, 1) := by decide +kernel
theorem dX8_digest_24 : decode cX8_digest 24 = .ok (.lstore_n 1, 1) := by decide +kernel
theorem dX8_digest_25 : decode cX8_digest 25 = .ok (.iinc 3 1, 3) := by decide +kernel
theorem dX8_digest_28 : decode cX8_digest 28 = .ok (.goto (-22), 3) := by decide +kernel
theorem dX8_digest_31 : decode cX8_digest 31 = .ok (.iconst 0, 1) := by decide +kernel
theorem dX8_digest_32 : decode cX8_digest 32 = .ok (.istore_n 3, 1) := by decide +kernel
theorem dX8_digest_33 : decode cX8_digest 33 = .ok (.iload_n 3, 1) := by decide +kernel
theorem dX8_digest_34 : decode cX8_digest 34 = .ok (.aload_n 0, 1) := by decide +kernel
theorem dX8_digest_35 : decode cX8_digest 35 = .ok (.getfield 12, 3) := by decide +kernel
theorem dX8_digest_38 : decode cX8_digest 38 = .ok (.getfield 78, 3) := by decide +kernel
theorem dX8_digest_41 : decode cX8_digest 41 = .ok (.if_icmp .ge 16, 3) := by decide +kernel
theorem dX8_digest_44 : decode cX8_digest 44 = .ok (.aload_n 0, 1) := by decide +kernel
theorem dX8_digest_45 : decode cX8_digest 45 = .ok (.lload_n 1, 1) := by decide +kernel
theorem dX8_digest_46 : decode cX8_digest 46 = .ok (.iload_n 3, 1) := by decide +kernel
theorem dX8_digest_47 : decode cX8_digest 47 = .ok (.invokevirtual 252, 3) := by decide +kernel
theorem dX8_digest_50 : decode cX8_digest 50 = .ok (.lstore_n 1, 1) := by decide +kernel
theorem dX8_digest_51 : decode cX8_digest 51 = .ok (.iinc 3 1, 3) := by decide +kernel
theorem dX8_digest_54 : decode cX8_digest 54 = .ok (.goto (-21), 3) := by decide +kernel
theorem dX8_digest_57 : decode cX8_digest 57 = .ok (.iconst 0, 1) := by decide +kernel
theorem dX8_digest_58 : decode cX8_digest 58 = .ok (.istore_n 3, 1) := by decide +kernel
theorem dX8_digest_59 : decode cX8_digest 59 = .ok (.iload_n 3, 1) := by decide +kernel
theorem dX8_digest_60 : decode cX8_digest 60 = .ok (.aload_n 0, 1) := by decide +kernel
theorem dX8_digest_61 : decode cX8_digest 61 = .ok (.getfield 53, 3) := by decide +kernel
theorem dX8_digest_64 : decode cX8_digest 64 = .ok (.getfield 201, 3) := by decide +kernel
theorem dX8_digest_67 : decode cX8_digest 67 = .ok (.if_icmp .ge 39, 3) := by decide +kernel
theorem dX8_digest_70 : decode cX8_digest 70 = .ok (.iconst 0, 1) := by decide +kernel
theorem dX8_digest_71 : decode cX8_digest 71 = .ok (.istore 4, 2) := by decide +kernel
theorem dX8_digest_73 : decode cX8_digest 73 = .ok (.iload 4, 2) := by decide +kernel
theorem dX8_digest_75 : decode cX8_digest 75 = .ok (.iconst 4, 1) := by decide +kernel
theorem dX8_digest_76 : decode cX8_digest 76 = .ok (.if_icmp .ge 24, 3) := by decide +kernel
theorem dX8_digest_79 : decode cX8_digest 79 = .ok (.ldc2_w 247, 3) := by decide +kernel
theorem dX8_digest_82 : decode cX8_digest 82 = .ok (.lload_n 1, 1) := by decide +kernel
theorem dX8_digest_83 : decode cX8_digest 83 = .ok (.lmul, 1) := by decide +kernel
theorem dX8_digest_84 : decode cX8_digest 84 = .ok (.aload_n 0, 1) := by decide +kernel
theorem dX8_digest_85 : decode cX8_digest 85 = .ok (.iload_n 3, 1) := by decide +kernel
theorem dX8_digest_86 : decode cX8_digest 86 = .ok (.iload 4, 2) := by decide +kernel
theorem dX8_digest_88 : decode cX8_digest 88 = .ok (.invokevirtual 256, 3) := by decide +kernel
theorem dX8_digest_91 : decode cX8_digest 91 = .ok (.i2l, 1) := by decide +kernel
theorem dX8_digest_92 : decode cX8_digest 92 = .ok (.ladd, 1) := by decide +kernel
theorem dX8_digest_93 : decode cX8_digest 93 = .ok (.lstore_n 1, 1) := by decide +kernel
theorem dX8_digest_94 : decode cX8_digest 94 = .ok (.iinc 4 1, 3) := by decide +kernel
theorem dX8_digest_97 : decode cX8_digest 97 = .ok (.goto (-24), 3) := by decide +kernel
theorem dX8_digest_100 : decode cX8_digest 100 = .ok (.iinc 3 1, 3) := by decide +kernel
theorem dX8_digest_103 : decode cX8_digest 103 = .ok (.goto (-44), 3) := by decide +kernel
theorem dX8_digest_106 : decode cX8_digest 106 = .ok (.iconst 0, 1) := by decide +kernel
theorem dX8_digest_107 : decode cX8_digest 107 = .ok (.istore_n 3, 1) := by decide +kernel
theorem dX8_digest_108 : decode cX8_digest 108 = .ok (.iload_n 3, 1) := by decide +kernel
theorem dX8_digest_109 : decode cX8_digest 109 = .ok (.aload_n 0, 1) := by decide +kernel
theorem dX8_digest_110 : decode cX8_digest 110 = .ok (.getfield 60, 3) := by decide +kernel
theorem dX8_digest_113 : decode cX8_digest 113 = .ok (.getfield 203, 3) := by decide +kernel
theorem dX8_digest_116 : decode cX8_digest 116 = .ok (.if_icmp .ge 25, 3) := by decide +kernel
theorem dX8_digest_119 : decode cX8_digest 119 = .ok (.ldc2_w 247, 3) := by decide +kernel
theorem dX8_digest_122 : decode cX8_digest 122 = .ok (.lload_n 1, 1) := by decide +kernel
theorem dX8_digest_123 : decode cX8_digest 123 = .ok (.lmul, 1) := by decide +kernel
theorem dX8_digest_124 : decode cX8_digest 124 = .ok (.aload_n 0, 1) := by decide +kernel
theorem dX8_digest_125 : decode cX8_digest 125 = .ok (.getfield 60, 3) := by decide +kernel
theorem dX8_digest_128 : decode cX8_digest 128 = .ok (.iload_n 3, 1) := by decide +kernel
theorem dX8_digest_129 : decode cX8_digest 129 = .ok (.invokevirtual 259, 3) := by decide +kernel
theorem dX8_digest_132 : decode cX8_digest 132 = .ok (.i2l, 1) := by decide +kernel
theorem dX8_digest_133 : decode cX8_digest 133 = .ok (.ladd, 1) := by decide +kernel
theorem dX8_digest_134 : decode cX8_digest 134 = .ok (.lstore_n 1, 1) := by decide +kernel
theorem dX8_digest_135 : decode cX8_digest 135 = .ok (.iinc 3 1, 3) := by decide +kernel
theorem dX8_digest_138 : decode cX8_digest 138 = .ok (.goto (-30), 3) := by decide +kernel
theorem dX8_digest_141 : decode cX8_digest 141 = .ok (.lload_n 1, 1) := by decide +kernel
theorem dX8_digest_142 : decode cX8_digest 142 = .ok (.lreturn, 1) := by decide +kernel
set_option maxHeartbeats 4000000 in
set_option maxRecDepth 100000 in
theorem qLP_count_ok {σ : QS} {x1 : Int32} {r : Int32} (h : qLP_count σ x1 = some r) : qx_E (qx_gC l D ci a z) 6 mX8_count (some (.int r), σ) 0 [(0, .ref (a 0)), (1, .int x1)] [] σ := by
  unfold qLP_count at h
  refine qx_iload_n (pc := 0) 1 dX8_count_0 rfl ?_
  rcases qx_ite h with ⟨hc0, h⟩ | ⟨hc0, h⟩
  · refine qx_tsIn (pc := 1) 68 0 hc0 dX8_count_1 (by decide) (by decide) rfl (by decide) ?_
    refine qx_aload_n (pc := 68) 0 dX8_count_68 rfl ?_
    refine qgC0_0 (pc := 69) qwf_X8_12 dX8_count_69 ?_
    refine qgC1_0 (pc := 72) qwf_X8_78 dX8_count_72 ?_
    exact qx_iret h rfl dX8_count_75
  rcases qx_ite h with ⟨hc1, h⟩ | ⟨hc1, h⟩
  · refine qx_tsIn (pc := 1) 76 1 hc1 dX8_count_1 (by decide) (by decide) rfl (by decide) ?_
    refine qx_aload_n (pc := 76) 0 dX8_count_76 rfl ?_
    refine qgC0_2 (pc := 77) qwf_X8_28 dX8_count_77 ?_
    obtain ⟨r1, hr1, h⟩ := qx_bindE h
    refine qx_callVi (pc := 80) 5 r1 σ [] [] rfl rfl rfl qcm_X3_visiblePoints qcv_X3_visiblePoints qwm_X8_128 rfl (Nat.le_of_ble_eq_true rfl) (Nat.le_of_ble_eq_true rfl) (by decide) dX8_count_80 (qPl_visiblePoints_ok hr1) ?_
    exact qx_iret h rfl dX8_count_83
  rcases qx_ite h with ⟨hc2, h⟩ | ⟨hc2, h⟩
  · refine qx_tsIn (pc := 1) 84 2 hc2 dX8_count_1 (by decide) (by decide) rfl (by decide) ?_
    refine qx_aload_n (pc := 84) 0 dX8_count_84 rfl ?_
    refine qgC0_2 (pc := 85) qwf_X8_28 dX8_count_85 ?_
    obtain ⟨r2, hr2, h⟩ := qx_bindE h
    refine qx_callVi (pc := 88) 5 r2 σ [] [] rfl rfl rfl qcm_X3_manyOfAll qcv_X3_manyOfAll qwm_X8_230 rfl (Nat.le_of_ble_eq_true rfl) (Nat.le_of_ble_eq_true rfl) (by decide) dX8_count_88 (qPl_manyOfAll_ok hr2) ?_
    exact qx_iret h rfl dX8_count_91
  rcases qx_ite h with ⟨hc3, h⟩ | ⟨hc3, h⟩
  · refine qx_tsIn (pc := 1) 92 3 hc3 dX8_count_1 (by decide) (by decide) rfl (by decide) ?_
    refine qx_aload_n (pc := 92) 0 dX8_count_92 rfl ?_
    refine qgC0_2 (pc := 93) qwf_X8_28 dX8_count_93 ?_
    obtain ⟨r3, hr3, h⟩ := qx_bindE h
    refine qx_callVi (pc := 96) 5 r3 σ [] [] rfl rfl rfl qcm_X3_clashingPairs qcv_X3_clashingPairs qwm_X8_233 rfl (Nat.le_of_ble_eq_true rfl) (Nat.le_of_ble_eq_true rfl) (by decide) dX8_count_96 (qPl_clashingPairs_ok hr3) ?_
    exact qx_iret h rfl dX8_count_99
  rcases qx_ite h with ⟨hc4, h⟩ | ⟨hc4, h⟩
  · refine qx_tsIn (pc := 1) 100 4 hc4 dX8_count_1 (by decide) (by decide) rfl (by decide) ?_
    refine qx_aload_n (pc := 100) 0 dX8_count_100 rfl ?_
    refine qgC0_3 (pc := 101) qwf_X8_37 dX8_count_101 ?_
    obtain ⟨r4, hr4, h⟩ := qx_bindE h
    refine qx_callVi (pc := 104) 11 r4 σ [] [] rfl rfl rfl qcm_X1_manyShown qcv_X1_manyShown qwm_X8_236 rfl (Nat.le_of_ble_eq_true rfl) (Nat.le_of_ble_eq_true rfl) (by decide) dX8_count_104 (qLb_manyShown_ok hr4) ?_
    exact qx_iret h rfl dX8_count_107
  rcases qx_ite h with ⟨hc5, h⟩ | ⟨hc5, h⟩
  · refine qx_tsIn (pc := 1) 108 5 hc5 dX8_count_1 (by decide) (by decide) rfl (by decide) ?_
    refine qx_aload_n (pc := 108) 0 dX8_count_108 rfl ?_
    refine qgC0_3 (pc := 109) qwf_X8_37 dX8_count_109 ?_
    obtain ⟨r5, hr5, h⟩ := qx_bindE h
    refine qx_callVi (pc := 112) 11 r5 σ [] [] rfl rfl rfl qcm_X1_sumShown qcv_X1_sumShown qwm_X8_239 rfl (Nat.le_of_ble_eq_true rfl) (Nat.le_of_ble_eq_true rfl) (by decide) dX8_count_112 (qLb_sumShown_ok hr5) ?_
    exact qx_iret h rfl dX8_count_115
  rcases qx_ite h with ⟨hc6, h⟩ | ⟨hc6, h⟩
  · refine qx_tsIn (pc := 1) 116 6 hc6 dX8_count_1 (by decide) (by decide) rfl (by decide) ?_
    refine qx_aload_n (pc := 116) 0 dX8_count_116 rfl ?_
    refine qgC0_1 (pc := 117) qwf_X8_19 dX8_count_117 ?_
    refine qgC4_0 (pc := 120) qwf_X8_131 dX8_count_120 ?_
    exact qx_iret h rfl dX8_count_123
  rcases qx_ite h with ⟨hc7, h⟩ | ⟨hc7, h⟩
  · refine qx_tsIn (pc := 1) 124 7 hc7 dX8_count_1 (by decide) (by decide) rfl (by decide) ?_
    refine qx_aload_n (pc := 124) 0 dX8_count_124 rfl ?_
    refine qgC0_1 (pc := 125) qwf_X8_19 dX8_count_125 ?_
    refine qgC4_1 (pc := 128) qwf_X8_134 dX8_count_128 ?_
    exact qx_iret h rfl dX8_count_131
  rcases qx_ite h with ⟨hc8, h⟩ | ⟨hc8, h⟩
  · refine qx_tsIn (pc := 1) 132 8 hc8 dX8_count_1 (by decide) (by decide) rfl (by decide) ?_
    refine qx_aload_n (pc := 132) 0 dX8_count_132 rfl ?_
    refine qgC0_1 (pc := 133) qwf_X8_19 dX8_count_133 ?_
    refine qgC4_2 (pc := 136) qwf_X8_137 dX8_count_136 ?_
    exact qx_iret h rfl dX8_count_139
  rcases qx_ite h with ⟨hc9, h⟩ | ⟨hc9, h⟩
  · refine qx_tsIn (pc := 1) 140 9 hc9 dX8_count_1 (by decide) (by decide) rfl (by decide) ?_
    refine qx_aload_n (pc := 140) 0 dX8_count_140 rfl ?_
    refine qgC0_1 (pc := 141) qwf_X8_19 dX8_count_141 ?_
    refine qgC4_3 (pc := 144) qwf_X8_140 dX8_count_144 ?_
    exact qx_iret h rfl dX8_count_147
  rcases qx_ite h with ⟨hc10, h⟩ | ⟨hc10, h⟩
  · refine qx_tsIn (pc := 1) 148 10 hc10 dX8_count_1 (by decide) (by decide) rfl (by decide) ?_
    refine qx_aload_n (pc := 148) 0 dX8_count_148 rfl ?_
    refine qgC0_5 (pc := 149) qwf_X8_53 dX8_count_149 ?_
    refine qgC16_0 (pc := 152) qwf_X8_201 dX8_count_152 ?_
    exact qx_iret h rfl dX8_count_155
  rcases qx_ite h with ⟨hc11, h⟩ | ⟨hc11, h⟩
  · refine qx_tsIn (pc := 1) 156 11 hc11 dX8_count_1 (by decide) (by decide) rfl (by decide) ?_
    refine qx_aload_n (pc := 156) 0 dX8_count_156 rfl ?_
    refine qgC0_6 (pc := 157) qwf_X8_60 dX8_count_157 ?_
    refine qgC19_0 (pc := 160) qwf_X8_203 dX8_count_160 ?_
    exact qx_iret h rfl dX8_count_163
  rcases qx_ite h with ⟨hc12, h⟩ | ⟨hc12, h⟩
  · refine qx_tsIn (pc := 1) 164 12 hc12 dX8_count_1 (by decide) (by decide) rfl (by decide) ?_
    refine qx_aload_n (pc := 164) 0 dX8_count_164 rfl ?_
    refine qgC0_3 (pc := 165) qwf_X8_37 dX8_count_165 ?_
    obtain ⟨r6, hr6, h⟩ := qx_bindE h
    refine qx_callVi (pc := 168) 11 r6 σ [] [] rfl rfl rfl qcm_X1_manyThatCanPush qcv_X1_manyThatCanPush qwm_X8_242 rfl (Nat.le_of_ble_eq_true rfl) (Nat.le_of_ble_eq_true rfl) (by decide) dX8_count_168 (qLb_manyThatCanPush_ok hr6) ?_
    exact qx_iret h rfl dX8_count_171
  have ht0 := lv_neT (a := 0) hc0 rfl
  have ht1 := lv_neT (a := 1) hc1 rfl
  have ht2 := lv_neT (a := 2) hc2 rfl
  have ht3 := lv_neT (a := 3) hc3 rfl
  have ht4 := lv_neT (a := 4) hc4 rfl
  have ht5 := lv_neT (a := 5) hc5 rfl
  have ht6 := lv_neT (a := 6) hc6 rfl
  have ht7 := lv_neT (a := 7) hc7 rfl
  have ht8 := lv_neT (a := 8) hc8 rfl
  have ht9 := lv_neT (a := 9) hc9 rfl
  have ht10 := lv_neT (a := 10) hc10 rfl
  have ht11 := lv_neT (a := 11) hc11 rfl
  have ht12 := lv_neT (a := 12) hc12 rfl
  refine qx_tsOut (pc := 1) 172 dX8_count_1 (by omega) (by decide) ?_
  refine qx_bipush (pc := 172) (-2) dX8_count_172 (by decide) ?_
  exact qx_iret h rfl dX8_count_174
set_option maxHeartbeats 4000000 in
set_option maxRecDepth 100000 in
theorem qLP_withPoint_L49_ok {σ : QS} {x3 : Int32} {x6 : Int32} {k39 : Int64 → Int32 → Option (Int64)} (hk39 : ∀ (x4 : Int64) (x6 : Int32) (r : Int64), k39 x4 x6 = some r → qx_E (qx_gC l D ci a z) 5 mX8_withPoint (some (.long r), σ) 39 [(0, .ref (a 0)), (3, .int x3), (4, .long x4), (6, .int x6)] [] σ) : ∀ (n : Nat) (x4 : Int64) (x7 : Int32) (r : Int64), qLP_withPoint_L49 σ x3 x6 k39 n x4 x7 = some r → qx_E (qx_gC l D ci a z) 5 mX8_withPoint (some (.long r), σ) 49 [(0, .ref (a 0)), (3, .int x3), (4, .long x4), (6, .int x6), (7, .int x7)] [] σ := by
  intro n
  induction n with
  | zero =>
    intro x4 x7 r h
    exact (qx_none h).elim
  | succ n ih =>
    intro x4 x7 r h
    unfold qLP_withPoint_L49 at h
    refine qx_iload (pc := 49) 4 dX8_withPoint_49 rfl ?_
    refine qx_iconst (pc := 51) 5 dX8_withPoint_51 (by decide) ?_
    refine qx_icmp_ge (pc := 52) 80 h dX8_withPoint_52 (by decide) (fun h => ?_) (fun h => ?_)
    · refine qx_iinc (pc := 80) (lv' := [(6, .int (x6 + 1)), (0, .ref (a 0)), (3, .int x3), (4, .long x4), (7, .int x7)]) 3 (x6 + 1) dX8_withPoint_80 rfl rfl (Nat.le_of_ble_eq_true rfl) rfl ?_
      refine qx_goto (pc := 83) 39 dX8_withPoint_83 (by decide) ?_
      exact qx_sub [1, 2, 3, 0] rfl (hk39 _ _ _ h)
    · refine qx_ldc2 (pc := 55) 31 dX8_withPoint_55 qwc_X8_247 ?_
      refine qx_lload (pc := 58) 2 dX8_withPoint_58 rfl ?_
      refine qx_lmul (pc := 60) dX8_withPoint_60 ?_
      refine qx_aload_n (pc := 61) 0 dX8_withPoint_61 rfl ?_
      refine qx_iload_n (pc := 62) 1 dX8_withPoint_62 rfl ?_
      refine qx_iload (pc := 63) 3 dX8_withPoint_63 rfl ?_
      refine qx_iload (pc := 65) 4 dX8_withPoint_65 rfl ?_
      obtain ⟨r1, hr1, h⟩ := qx_bindE h
      refine qx_callVi (pc := 67) 0 r1 σ [.int x3, .int x6, .int x7] [.long (31 * x4)] rfl rfl rfl qcm_X8_place qcv_X8_place qwm_X8_265 rfl (Nat.le_of_ble_eq_true rfl) (Nat.le_of_ble_eq_true rfl) (by decide) dX8_withPoint_67 (qLP_place_ok hr1) ?_
      refine qx_i2l (pc := 70) dX8_withPoint_70 ?_
      refine qx_ladd (pc := 71) dX8_withPoint_71 ?_
      refine qx_lstore (pc := 72) (lv' := [(4, .long ((31 * x4) + (r1.toInt64))), (0, .ref (a 0)), (3, .int x3), (6, .int x6), (7, .int x7)]) dX8_withPoint_72 (Nat.le_of_ble_eq_true rfl) rfl ?_
      refine qx_iinc (pc := 74) (lv' := [(7, .int (x7 + 1)), (4, .long ((31 * x4) + (r1.toInt64))), (0, .ref (a 0)), (3, .int x3), (6, .int x6)]) 4 (x7 + 1) dX8_withPoint_74 rfl rfl (Nat.le_of_ble_eq_true rfl) rfl ?_
      refine qx_goto (pc := 77) 49 dX8_withPoint_77 (by decide) ?_
      exact qx_sub [2, 3, 1, 4, 0] rfl (ih _ _ _ h)
set_option maxHeartbeats 4000000 in
set_option maxRecDepth 100000 in
theorem qLP_withPoint_L39_ok {σ : QS} {x3 : Int32} : ∀ (n : Nat) (x4 : Int64) (x6 : Int32) (r : Int64), qLP_withPoint_L39 σ x3 n x4 x6 = some r → qx_E (qx_gC l D ci a z) 5 mX8_withPoint (some (.long r), σ) 39 [(0, .ref (a 0)), (3, .int x3), (4, .long x4), (6, .int x6)] [] σ := by
  intro n
  induction n with
  | zero =>
    intro x4 x6 r h
    exact (qx_none h).elim
  | succ n ih =>
    intro x4 x6 r h
    unfold qLP_withPoint_L39 at h
    refine qx_iload (pc := 39) 3 dX8_withPoint_39 rfl ?_
    refine qx_bipush (pc := 41) 8 dX8_withPoint_41 (by decide) ?_
    refine qx_icmp_ge (pc := 43) 86 h dX8_withPoint_43 (by decide) (fun h => ?_) (fun h => ?_)
    · refine qx_lload (pc := 86) 2 dX8_withPoint_86 rfl ?_
      exact qx_lret h rfl dX8_withPoint_88
    · refine qx_iconst (pc := 46) 0 dX8_withPoint_46 (by decide) ?_
      refine qx_istore (pc := 47) (lv' := [(7, .int 0), (0, .ref (a 0)), (3, .int x3), (4, .long x4), (6, .int x6)]) dX8_withPoint_47 (Nat.le_of_ble_eq_true rfl) rfl ?_
      exact qx_sub [1, 2, 3, 4, 0] rfl (qLP_withPoint_L49_ok ih qx_F _ _ _ h)
set_option maxHeartbeats 4000000 in
set_option maxRecDepth 100000 in
theorem qLP_withPoint_L6_ok {σ : QS} {x3 : Int32} : ∀ (n : Nat) (x4 : Int64) (x6 : Int32) (r : Int64), qLP_withPoint_L6 σ x3 n x4 x6 = some r → qx_E (qx_gC l D ci a z) 5 mX8_withPoint (some (.long r), σ) 6 [(0, .ref (a 0)), (3, .int x3), (4, .long x4), (6, .int x6)] [] σ := by
  intro n
  induction n with
  | zero =>
    intro x4 x6 r h
    exact (qx_none h).elim
  | succ n ih =>
    intro x4 x6 r h
    unfold qLP_withPoint_L6 at h
    refine qx_iload (pc := 6) 3 dX8_withPoint_6 rfl ?_
    refine qx_bipush (pc := 8) 9 dX8_withPoint_8 (by decide) ?_
    refine qx_icmp_ge (pc := 10) 36 h dX8_withPoint_10 (by decide) (fun h => ?_) (fun h => ?_)
    · refine qx_iconst (pc := 36) 0 dX8_withPoint_36 (by decide) ?_
      refine qx_istore (pc := 37) (lv' := [(6, .int 0), (0, .ref (a 0)), (3, .int x3), (4, .long x4)]) dX8_withPoint_37 (Nat.le_of_ble_eq_true rfl) rfl ?_
      exact qx_sub [1, 2, 3, 0] rfl (qLP_withPoint_L39_ok qx_F _ _ _ h)
    · refine qx_ldc2 (pc := 13) 31 dX8_withPoint_13 qwc_X8_247 ?_
      refine qx_lload (pc := 16) 2 dX8_withPoint_16 rfl ?_
      refine qx_lmul (pc := 18) dX8_withPoint_18 ?_
      refine qx_aload_n (pc := 19) 0 dX8_withPoint_19 rfl ?_
      refine qx_iload_n (pc := 20) 1 dX8_withPoint_20 rfl ?_
      refine qx_iload (pc := 21) 3 dX8_withPoint_21 rfl ?_
      obtain ⟨r2, hr2, h⟩ := qx_bindE h
      refine qx_callVi (pc := 23) 0 r2 σ [.int x3, .int x6] [.long (31 * x4)] rfl rfl rfl qcm_X8_point qcv_X8_point qwm_X8_262 rfl (Nat.le_of_ble_eq_true rfl) (Nat.le_of_ble_eq_true rfl) (by decide) dX8_withPoint_23 (qLP_point_ok hr2) ?_
      refine qx_i2l (pc := 26) dX8_withPoint_26 ?_
      refine qx_ladd (pc := 27) dX8_withPoint_27 ?_
      refine qx_lstore (pc := 28) (lv' := [(4, .long ((31 * x4) + (r2.toInt64))), (0, .ref (a 0)), (3, .int x3), (6, .int x6)]) dX8_withPoint_28 (Nat.le_of_ble_eq_true rfl) rfl ?_
      refine qx_iinc (pc := 30) (lv' := [(6, .int (x6 + 1)), (4, .long ((31 * x4) + (r2.toInt64))), (0, .ref (a 0)), (3, .int x3)]) 3 (x6 + 1) dX8_withPoint_30 rfl rfl (Nat.le_of_ble_eq_true rfl) rfl ?_
      refine qx_goto (pc := 33) 6 dX8_withPoint_33 (by decide) ?_
      exact qx_sub [2, 3, 1, 0] rfl (ih _ _ _ h)
set_option maxHeartbeats 4000000 in
set_option maxRecDepth 100000 in
theorem qLP_withPoint_ok {σ : QS} {x1 : Int64} {x3 : Int32} {r : Int64} (h : qLP_withPoint σ x1 x3 = some r) : qx_E (qx_gC l D ci a z) 5 mX8_withPoint (some (.long r), σ) 0 [(0, .ref (a 0)), (1, .long x1), (3, .int x3)] [] σ := by
  unfold qLP_withPoint at h
  refine qx_lload_n (pc := 0) 1 dX8_withPoint_0 rfl ?_
  refine qx_lstore (pc := 1) (lv' := [(4, .long x1), (0, .ref (a 0)), (1, .long x1), (3, .int x3)]) dX8_withPoint_1 (Nat.le_of_ble_eq_true rfl) rfl ?_
  refine qx_iconst (pc := 3) 0 dX8_withPoint_3 (by decide) ?_
  refine qx_istore (pc := 4) (lv' := [(6, .int 0), (4, .long x1), (0, .ref (a 0)), (1, .long x1), (3, .int x3)]) dX8_withPoint_4 (Nat.le_of_ble_eq_true rfl) rfl ?_
  exact qx_sub [2, 4, 1, 0] rfl (qLP_withPoint_L6_ok qx_F _ _ _ h)
set_option maxHeartbeats 4000000 in
set_option maxRecDepth 100000 in
theorem qLP_digest_L73_ok {σ : QS} {x3 : Int32} {k59 : Int64 → Int32 → Option (Int64)} (hk59 : ∀ (x1 : Int64) (x3 : Int32) (r : Int64), k59 x1 x3 = some r → qx_E (qx_gC l D ci a z) 7 mX8_digest (some (.long r), σ) 59 [(0, .ref (a 0)), (1, .long x1), (3, .int x3)] [] σ) : ∀ (n : Nat) (x1 : Int64) (x4 : Int32) (r : Int64), qLP_digest_L73 σ x3 k59 n x1 x4 = some r → qx_E (qx_gC l D ci a z) 7 mX8_digest (some (.long r), σ) 73 [(0, .ref (a 0)), (1, .long x1), (3, .int x3), (4, .int x4)] [] σ := by
  intro n
  induction n with
  | zero =>
    intro x1 x4 r h
    exact (qx_none h).elim
  | succ n ih =>
    intro x1 x4 r h
    unfold qLP_digest_L73 at h
    refine qx_iload (pc := 73) 3 dX8_digest_73 rfl ?_
    refine qx_iconst (pc := 75) 4 dX8_digest_75 (by decide) ?_
    refine qx_icmp_ge (pc := 76) 100 h dX8_digest_76 (by decide) (fun h => ?_) (fun h => ?_)
    · refine qx_iinc (pc := 100) (lv' := [(3, .int (x3 + 1)), (0, .ref (a 0)), (1, .long x1), (4, .int x4)]) 2 (x3 + 1) dX8_digest_100 rfl rfl (Nat.le_of_ble_eq_true rfl) rfl ?_
      refine qx_goto (pc := 103) 59 dX8_digest_103 (by decide) ?_
      exact qx_sub [1, 2, 0] rfl (hk59 _ _ _ h)
    · refine qx_ldc2 (pc := 79) 31 dX8_digest_79 qwc_X8_247 ?_
      refine qx_lload_n (pc := 82) 1 dX8_digest_82 rfl ?_
      refine qx_lmul (pc := 83) dX8_digest_83 ?_
      refine qx_aload_n (pc := 84) 0 dX8_digest_84 rfl ?_
      refine qx_iload_n (pc := 85) 2 dX8_digest_85 rfl ?_
      refine qx_iload (pc := 86) 3 dX8_digest_86 rfl ?_
      obtain ⟨r1, hr1, h⟩ := qx_bindE h
      refine qx_callVi (pc := 88) 0 r1 σ [.int x3, .int x4] [.long (31 * x1)] rfl rfl rfl qcm_X8_leader qcv_X8_leader qwm_X8_256 rfl (Nat.le_of_ble_eq_true rfl) (Nat.le_of_ble_eq_true rfl) (by decide) dX8_digest_88 (qLP_leader_ok hr1) ?_
      refine qx_i2l (pc := 91) dX8_digest_91 ?_
      refine qx_ladd (pc := 92) dX8_digest_92 ?_
      refine qx_lstore_n (pc := 93) (lv' := [(1, .long ((31 * x1) + (r1.toInt64))), (0, .ref (a 0)), (3, .int x3), (4, .int x4)]) dX8_digest_93 (Nat.le_of_ble_eq_true rfl) rfl ?_
      refine qx_iinc (pc := 94) (lv' := [(4, .int (x4 + 1)), (1, .long ((31 * x1) + (r1.toInt64))), (0, .ref (a 0)), (3, .int x3)]) 3 (x4 + 1) dX8_digest_94 rfl rfl (Nat.le_of_ble_eq_true rfl) rfl ?_
      refine qx_goto (pc := 97) 73 dX8_digest_97 (by decide) ?_
      exact qx_sub [2, 1, 3, 0] rfl (ih _ _ _ h)
set_option maxHeartbeats 4000000 in
set_option maxRecDepth 100000 in
theorem qLP_digest_L108_ok {σ : QS} : ∀ (n : Nat) (x1 : Int64) (x3 : Int32) (r : Int64), qLP_digest_L108 σ n x1 x3 = some r → qx_E (qx_gC l D ci a z) 7 mX8_digest (some (.long r), σ) 108 [(0, .ref (a 0)), (1, .long x1), (3, .int x3)] [] σ := by
  intro n
  induction n with
  | zero =>
    intro x1 x3 r h
    exact (qx_none h).elim
  | succ n ih =>
    intro x1 x3 r h
    unfold qLP_digest_L108 at h
    refine qx_iload_n (pc := 108) 2 dX8_digest_108 rfl ?_
    refine qx_aload_n (pc := 109) 0 dX8_digest_109 rfl ?_
    refine qgC0_6 (pc := 110) qwf_X8_60 dX8_digest_110 ?_
    refine qgC19_0 (pc := 113) qwf_X8_203 dX8_digest_113 ?_
    refine qx_icmp_ge (pc := 116) 141 h dX8_digest_116 (by decide) (fun h => ?_) (fun h => ?_)
    · refine qx_lload_n (pc := 141) 1 dX8_digest_141 rfl ?_
      exact qx_lret h rfl dX8_digest_142
    · refine qx_ldc2 (pc := 119) 31 dX8_digest_119 qwc_X8_247 ?_
      refine qx_lload_n (pc := 122) 1 dX8_digest_122 rfl ?_
      refine qx_lmul (pc := 123) dX8_digest_123 ?_
      refine qx_aload_n (pc := 124) 0 dX8_digest_124 rfl ?_
      refine qgC0_6 (pc := 125) qwf_X8_60 dX8_digest_125 ?_
      refine qx_iload_n (pc := 128) 2 dX8_digest_128 rfl ?_
      obtain ⟨r2, hr2, h⟩ := qx_bindE h
      refine qx_callVi (pc := 129) 19 r2 σ [.int x3] [.long (31 * x1)] rfl rfl rfl qcm_X6_at qcv_X6_at qwm_X8_259 rfl (Nat.le_of_ble_eq_true rfl) (Nat.le_of_ble_eq_true rfl) (by decide) dX8_digest_129 (qTx_at_ok hr2) ?_
      refine qx_i2l (pc := 132) dX8_digest_132 ?_
      refine qx_ladd (pc := 133) dX8_digest_133 ?_
      refine qx_lstore_n (pc := 134) (lv' := [(1, .long ((31 * x1) + (r2.toInt64))), (0, .ref (a 0)), (3, .int x3)]) dX8_digest_134 (Nat.le_of_ble_eq_true rfl) rfl ?_
      refine qx_iinc (pc := 135) (lv' := [(3, .int (x3 + 1)), (1, .long ((31 * x1) + (r2.toInt64))), (0, .ref (a 0))]) 2 (x3 + 1) dX8_digest_135 rfl rfl (Nat.le_of_ble_eq_true rfl) rfl ?_
      refine qx_goto (pc := 138) 108 dX8_digest_138 (by decide) ?_
      exact qx_sub [2, 1, 0] rfl (ih _ _ _ h)
set_option maxHeartbeats 4000000 in
set_option maxRecDepth 100000 in
theorem qLP_digest_L59_ok {σ : QS} : ∀ (n : Nat) (x1 : Int64) (x3 : Int32) (r : Int64), qLP_digest_L59 σ n x1 x3 = some r → qx_E (qx_gC l D ci a z) 7 mX8_digest (some (.long r), σ) 59 [(0, .ref (a 0)), (1, .long x1), (3, .int x3)] [] σ := by
  intro n
  induction n with
  | zero =>
    intro x1 x3 r h
    exact (qx_none h).elim
  | succ n ih =>
    intro x1 x3 r h
    unfold qLP_digest_L59 at h
    refine qx_iload_n (pc := 59) 2 dX8_digest_59 rfl ?_
    refine qx_aload_n (pc := 60) 0 dX8_digest_60 rfl ?_
    refine qgC0_5 (pc := 61) qwf_X8_53 dX8_digest_61 ?_
    refine qgC16_0 (pc := 64) qwf_X8_201 dX8_digest_64 ?_
    refine qx_icmp_ge (pc := 67) 106 h dX8_digest_67 (by decide) (fun h => ?_) (fun h => ?_)
    · refine qx_iconst (pc := 106) 0 dX8_digest_106 (by decide) ?_
      refine qx_istore_n (pc := 107) (lv' := [(3, .int 0), (0, .ref (a 0)), (1, .long x1)]) dX8_digest_107 (Nat.le_of_ble_eq_true rfl) rfl ?_
      exact qx_sub [1, 2, 0] rfl (qLP_digest_L108_ok qx_F _ _ _ h)
    · refine qx_iconst (pc := 70) 0 dX8_digest_70 (by decide) ?_
      refine qx_istore (pc := 71) (lv' := [(4, .int 0), (0, .ref (a 0)), (1, .long x1), (3, .int x3)]) dX8_digest_71 (Nat.le_of_ble_eq_true rfl) rfl ?_
      exact qx_sub [1, 2, 3, 0] rfl (qLP_digest_L73_ok ih qx_F _ _ _ h)
set_option maxHeartbeats 4000000 in
set_option maxRecDepth 100000 in
theorem qLP_digest_L33_ok {σ : QS} : ∀ (n : Nat) (x1 : Int64) (x3 : Int32) (r : Int64), qLP_digest_L33 σ n x1 x3 = some r → qx_E (qx_gC l D ci a z) 7 mX8_digest (some (.long r), σ) 33 [(0, .ref (a 0)), (1, .long x1), (3, .int x3)] [] σ := by
  intro n
  induction n with
  | zero =>
    intro x1 x3 r h
    exact (qx_none h).elim
  | succ n ih =>
    intro x1 x3 r h
    unfold qLP_digest_L33 at h
    refine qx_iload_n (pc := 33) 2 dX8_digest_33 rfl ?_
    refine qx_aload_n (pc := 34) 0 dX8_digest_34 rfl ?_
    refine qgC0_0 (pc := 35) qwf_X8_12 dX8_digest_35 ?_
    refine qgC1_0 (pc := 38) qwf_X8_78 dX8_digest_38 ?_
    refine qx_icmp_ge (pc := 41) 57 h dX8_digest_41 (by decide) (fun h => ?_) (fun h => ?_)
    · refine qx_iconst (pc := 57) 0 dX8_digest_57 (by decide) ?_
      refine qx_istore_n (pc := 58) (lv' := [(3, .int 0), (0, .ref (a 0)), (1, .long x1)]) dX8_digest_58 (Nat.le_of_ble_eq_true rfl) rfl ?_
      exact qx_sub [1, 2, 0] rfl (qLP_digest_L59_ok qx_F _ _ _ h)
    · refine qx_aload_n (pc := 44) 0 dX8_digest_44 rfl ?_
      refine qx_lload_n (pc := 45) 1 dX8_digest_45 rfl ?_
      refine qx_iload_n (pc := 46) 2 dX8_digest_46 rfl ?_
      obtain ⟨r3, hr3, h⟩ := qx_bindE h
      refine qx_callVl (pc := 47) 0 r3 σ [.long x1, .int x3] [] rfl rfl rfl qcm_X8_withPoint qcv_X8_withPoint qwm_X8_252 rfl (Nat.le_of_ble_eq_true rfl) (Nat.le_of_ble_eq_true rfl) (by decide) dX8_digest_47 (qLP_withPoint_ok hr3) ?_
      refine qx_lstore_n (pc := 50) (lv' := [(1, .long r3), (0, .ref (a 0)), (3, .int x3)]) dX8_digest_50 (Nat.le_of_ble_eq_true rfl) rfl ?_
      refine qx_iinc (pc := 51) (lv' := [(3, .int (x3 + 1)), (1, .long r3), (0, .ref (a 0))]) 2 (x3 + 1) dX8_digest_51 rfl rfl (Nat.le_of_ble_eq_true rfl) rfl ?_
      refine qx_goto (pc := 54) 33 dX8_digest_54 (by decide) ?_
      exact qx_sub [2, 1, 0] rfl (ih _ _ _ h)
set_option maxHeartbeats 4000000 in
set_option maxRecDepth 100000 in
theorem qLP_digest_L6_ok {σ : QS} : ∀ (n : Nat) (x1 : Int64) (x3 : Int32) (r : Int64), qLP_digest_L6 σ n x1 x3 = some r → qx_E (qx_gC l D ci a z) 7 mX8_digest (some (.long r), σ) 6 [(0, .ref (a 0)), (1, .long x1), (3, .int x3)] [] σ := by
  intro n
  induction n with
  | zero =>
    intro x1 x3 r h
    exact (qx_none h).elim
  | succ n ih =>
    intro x1 x3 r h
    unfold qLP_digest_L6 at h
    refine qx_iload_n (pc := 6) 2 dX8_digest_6 rfl ?_
    refine qx_bipush (pc := 7) 13 dX8_digest_7 (by decide) ?_
    refine qx_icmp_ge (pc := 9) 31 h dX8_digest_9 (by decide) (fun h => ?_) (fun h => ?_)
    · refine qx_iconst (pc := 31) 0 dX8_digest_31 (by decide) ?_
      refine qx_istore_n (pc := 32) (lv' := [(3, .int 0), (0, .ref (a 0)), (1, .long x1)]) dX8_digest_32 (Nat.le_of_ble_eq_true rfl) rfl ?_
      exact qx_sub [1, 2, 0] rfl (qLP_digest_L33_ok qx_F _ _ _ h)
    · refine qx_ldc2 (pc := 12) 31 dX8_digest_12 qwc_X8_247 ?_
      refine qx_lload_n (pc := 15) 1 dX8_digest_15 rfl ?_
      refine qx_lmul (pc := 16) dX8_digest_16 ?_
      refine qx_aload_n (pc := 17) 0 dX8_digest_17 rfl ?_
      refine qx_iload_n (pc := 18) 2 dX8_digest_18 rfl ?_
      obtain ⟨r4, hr4, h⟩ := qx_bindE h
      refine qx_callVi (pc := 19) 0 r4 σ [.int x3] [.long (31 * x1)] rfl rfl rfl qcm_X8_count qcv_X8_count qwm_X8_249 rfl (Nat.le_of_ble_eq_true rfl) (Nat.le_of_ble_eq_true rfl) (by decide) dX8_digest_19 (qLP_count_ok hr4) ?_
      refine qx_i2l (pc := 22) dX8_digest_22 ?_
      refine qx_ladd (pc := 23) dX8_digest_23 ?_
      refine qx_lstore_n (pc := 24) (lv' := [(1, .long ((31 * x1) + (r4.toInt64))), (0, .ref (a 0)), (3, .int x3)]) dX8_digest_24 (Nat.le_of_ble_eq_true rfl) rfl ?_
      refine qx_iinc (pc := 25) (lv' := [(3, .int (x3 + 1)), (1, .long ((31 * x1) + (r4.toInt64))), (0, .ref (a 0))]) 2 (x3 + 1) dX8_digest_25 rfl rfl (Nat.le_of_ble_eq_true rfl) rfl ?_
      refine qx_goto (pc := 28) 6 dX8_digest_28 (by decide) ?_
      exact qx_sub [2, 1, 0] rfl (ih _ _ _ h)
set_option maxHeartbeats 4000000 in
set_option maxRecDepth 100000 in
theorem qLP_digest_ok {σ : QS} {r : Int64} (h : qLP_digest σ = some r) : qx_E (qx_gC l D ci a z) 7 mX8_digest (some (.long r), σ) 0 [(0, .ref (a 0))] [] σ := by
  unfold qLP_digest at h
  refine qx_ldc2 (pc := 0) 325 dX8_digest_0 qwc_X8_245 ?_
  refine qx_lstore_n (pc := 3) (lv' := [(1, .long 325), (0, .ref (a 0))]) dX8_digest_3 (Nat.le_of_ble_eq_true rfl) rfl ?_
  refine qx_iconst (pc := 4) 0 dX8_digest_4 (by decide) ?_
  refine qx_istore_n (pc := 5) (lv' := [(3, .int 0), (1, .long 325), (0, .ref (a 0))]) dX8_digest_5 (Nat.le_of_ble_eq_true rfl) rfl ?_
  exact qx_sub [2, 1, 0] rfl (qLP_digest_L6_ok qx_F _ _ _ h)
end
