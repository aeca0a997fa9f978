section
variable {l : Launch} {D : va_G} {ci : Nat → ClassId} {a z : Nat → Nat}
theorem dX9_digest_0 : decode cX9_digest 0 = .ok (.aload_n 0, 1) := by decide +kernel
theorem dX9_digest_1 : decode cX9_digest 1 = .ok (.invokevirtual 83, 3) := by decide +kernel
theorem dX9_digest_4 : decode cX9_digest 4 = .ok (.aload_n 0, 1) := by decide +kernel
theorem dX9_digest_5 : decode cX9_digest 5 = .ok (.ldc2_w 278, 3) := by decide +kernel
theorem dX9_digest_8 : decode cX9_digest 8 = .ok (.putfield 274, 3) := by decide +kernel
theorem dX9_digest_11 : decode cX9_digest 11 = .ok (.iconst 0, 1) := by decide +kernel
theorem dX9_digest_12 : decode cX9_digest 12 = .ok (.istore_n 1, 1) := by decide +kernel
theorem dX9_digest_13 : decode cX9_digest 13 = .ok (.iload_n 1, 1) := by decide +kernel
theorem dX9_digest_14 : decode cX9_digest 14 = .ok (.bipush 13, 2) := by decide +kernel
theorem dX9_digest_16 : decode cX9_digest 16 = .ok (.if_icmp .ge 19, 3) := by decide +kernel
theorem dX9_digest_19 : decode cX9_digest 19 = .ok (.aload_n 0, 1) := by decide +kernel
theorem dX9_digest_20 : decode cX9_digest 20 = .ok (.aload_n 0, 1) := by decide +kernel
theorem dX9_digest_21 : decode cX9_digest 21 = .ok (.iload_n 1, 1) := by decide +kernel
theorem dX9_digest_22 : decode cX9_digest 22 = .ok (.invokevirtual 269, 3) := by decide +kernel
theorem dX9_digest_25 : decode cX9_digest 25 = .ok (.i2l, 1) := by decide +kernel
theorem dX9_digest_26 : decode cX9_digest 26 = .ok (.invokevirtual 280, 3) := by decide +kernel
theorem dX9_digest_29 : decode cX9_digest 29 = .ok (.iinc 1 1, 3) := by decide +kernel
theorem dX9_digest_32 : decode cX9_digest 32 = .ok (.goto (-19), 3) := by decide +kernel
theorem dX9_digest_35 : decode cX9_digest 35 = .ok (.iconst 0, 1) := by decide +kernel
theorem dX9_digest_36 : decode cX9_digest 36 = .ok (.istore_n 1, 1) := by decide +kernel
theorem dX9_digest_37 : decode cX9_digest 37 = .ok (.iload_n 1, 1) := by decide +kernel
theorem dX9_digest_38 : decode cX9_digest 38 = .ok (.aload_n 0, 1) := by decide +kernel
theorem dX9_digest_39 : decode cX9_digest 39 = .ok (.getfield 48, 3) := by decide +kernel
theorem dX9_digest_42 : decode cX9_digest 42 = .ok (.if_icmp .ge 64, 3) := by decide +kernel
theorem dX9_digest_45 : decode cX9_digest 45 = .ok (.iconst 0, 1) := by decide +kernel
theorem dX9_digest_46 : decode cX9_digest 46 = .ok (.istore_n 2, 1) := by decide +kernel
theorem dX9_digest_47 : decode cX9_digest 47 = .ok (.iload_n 2, 1) := by decide +kernel
theorem dX9_digest_48 : decode cX9_digest 48 = .ok (.bipush 9, 2) := by decide +kernel
theorem dX9_digest_50 : decode cX9_digest 50 = .ok (.if_icmp .ge 20, 3) := by decide +kernel
theorem dX9_digest_53 : decode cX9_digest 53 = .ok (.aload_n 0, 1) := by decide +kernel
theorem dX9_digest_54 : decode cX9_digest 54 = .ok (.aload_n 0, 1) := by decide +kernel
theorem dX9_digest_55 : decode cX9_digest 55 = .ok (.iload_n 1, 1) := by decide +kernel
theorem dX9_digest_56 : decode cX9_digest 56 = .ok (.iload_n 2, 1) := by decide +kernel
theorem dX9_digest_57 : decode cX9_digest 57 = .ok (.invokevirtual 118, 3) := by decide +kernel
theorem dX9_digest_60 : decode cX9_digest 60 = .ok (.i2l, 1) := by decide +kernel
theorem dX9_digest_61 : decode cX9_digest 61 = .ok (.invokevirtual 280, 3) := by decide +kernel
theorem dX9_digest_64 : decode cX9_digest 64 = .ok (.iinc 2 1, 3) := by decide +kernel
theorem dX9_digest_67 : decode cX9_digest 67 = .ok (.goto (-20), 3) := by decide +kernel
theorem dX9_digest_70 : decode cX9_digest 70 = .ok (.iconst 0, 1) := by decide +kernel
theorem dX9_digest_71 : decode cX9_digest 71 = .ok (.istore_n 2, 1) := by decide +kernel
theorem dX9_digest_72 : decode cX9_digest 72 = .ok (.iload_n 2, 1) := by decide +kernel
theorem dX9_digest_73 : decode cX9_digest 73 = .ok (.bipush 40, 2) := by decide +kernel
theorem dX9_digest_75 : decode cX9_digest 75 = .ok (.if_icmp .ge 25, 3) := by decide +kernel
theorem dX9_digest_78 : decode cX9_digest 78 = .ok (.aload_n 0, 1) := by decide +kernel
theorem dX9_digest_79 : decode cX9_digest 79 = .ok (.aload_n 0, 1) := by decide +kernel
theorem dX9_digest_80 : decode cX9_digest 80 = .ok (.iload_n 1, 1) := by decide +kernel
theorem dX9_digest_81 : decode cX9_digest 81 = .ok (.iload_n 2, 1) := by decide +kernel
theorem dX9_digest_82 : decode cX9_digest 82 = .ok (.iconst 5, 1) := by decide +kernel
theorem dX9_digest_83 : decode cX9_digest 83 = .ok (.idiv, 1) := by decide +kernel
theorem dX9_digest_84 : decode cX9_digest 84 = .ok (.iload_n 2, 1) := by decide +kernel
theorem dX9_digest_85 : decode cX9_digest 85 = .ok (.iconst 5, 1) := by decide +kernel
theorem dX9_digest_86 : decode cX9_digest 86 = .ok (.irem, 1) := by decide +kernel
theorem dX9_digest_87 : decode cX9_digest 87 = .ok (.invokevirtual 145, 3) := by decide +kernel
theorem dX9_digest_90 : decode cX9_digest 90 = .ok (.i2l, 1) := by decide +kernel
theorem dX9_digest_91 : decode cX9_digest 91 = .ok (.invokevirtual 280, 3) := by decide +kernel
theorem dX9_digest_94 : decode cX9_digest 94 = .ok (.iinc 2 1, 3) := by decide +kernel
theorem dX9_digest_97 : decode cX9_digest 97 = .ok (.goto (-25), 3) := by decide +kernel
theorem dX9_digest_100 : decode cX9_digest 100 = .ok (.iinc 1 1, 3) := by decide +kernel
theorem dX9_digest_103 : decode cX9_digest 103 = .ok (.goto (-66), 3) := by decide +kernel
theorem dX9_digest_106 : decode cX9_digest 106 = .ok (.iconst 0, 1) := by decide +kernel
theorem dX9_digest_107 : decode cX9_digest 107 = .ok (.istore_n 1, 1) := by decide +kernel
theorem dX9_digest_108 : decode cX9_digest 108 = .ok (.iload_n 1, 1) := by decide +kernel
theorem dX9_digest_109 : decode cX9_digest 109 = .ok (.iconst 4, 1) := by decide +kernel
theorem dX9_digest_110 : decode cX9_digest 110 = .ok (.aload_n 0, 1) := by decide +kernel
theorem dX9_digest_111 : decode cX9_digest 111 = .ok (.getfield 182, 3) := by decide +kernel
theorem dX9_digest_114 : decode cX9_digest 114 = .ok (.imul, 1) := by decide +kernel
theorem dX9_digest_115 : decode cX9_digest 115 = .ok (.if_icmp .ge 20, 3) := by decide +kernel
theorem dX9_digest_118 : decode cX9_digest 118 = .ok (.aload_n 0, 1) := by decide +kernel
theorem dX9_digest_119 : decode cX9_digest 119 = .ok (.aload_n 0, 1) := by decide +kernel
theorem dX9_digest_120 : decode cX9_digest 120 = .ok (.getfield 33, 3) := by decide +kernel
theorem dX9_digest_123 : decode cX9_digest 123 = .ok (.iload_n 1, 1) := by decide +kernel
theorem dX9_digest_124 : decode cX9_digest 124 = .ok (.iaload, 1) := by decide +kernel
theorem dX9_digest_125 : decode cX9_digest 125 = .ok (.i2l, 1) := by decide +kernel
theorem dX9_digest_126 : decode cX9_digest 126 = .ok (.invokevirtual 280, 3) := by decide +kernel
theorem dX9_digest_129 : decode cX9_digest 129 = .ok (.iinc 1 1, 3) := by decide +kernel
theorem dX9_digest_132 : decode cX9_digest 132 = .ok (.goto (-24), 3) := by decide +kernel
theorem dX9_digest_135 : decode cX9_digest 135 = .ok (.iconst 0, 1) := by decide +kernel
theorem dX9_digest_136 : decode cX9_digest 136 = .ok (.istore_n 1, 1) := by decide +kernel
theorem dX9_digest_137 : decode cX9_digest 137 = .ok (.iload_n 1, 1) := by decide +kernel
theorem dX9_digest_138 : decode cX9_digest 138 = .ok (.aload_n 0, 1) := by decide +kernel
theorem dX9_digest_139 : decode cX9_digest 139 = .ok (.getfield 189, 3) := by decide +kernel
theorem dX9_digest_142 : decode cX9_digest 142 = .ok (.if_icmp .ge 20, 3) := by decide +kernel
theorem dX9_digest_145 : decode cX9_digest 145 = .ok (.aload_n 0, 1) := by decide +kernel
theorem dX9_digest_146 : decode cX9_digest 146 = .ok (.aload_n 0, 1) := by decide +kernel
theorem dX9_digest_147 : decode cX9_digest 147 = .ok (.getfield 39, 3) := by decide +kernel
theorem dX9_digest_150 : decode cX9_digest 150 = .ok (.iload_n 1, 1) := by decide +kernel
theorem dX9_digest_151 : decode cX9_digest 151 = .ok (.iaload, 1) := by decide +kernel
theorem dX9_digest_152 : decode cX9_digest 152 = .ok (.i2l, 1) := by decide +kernel
theorem dX9_digest_153 : decode cX9_digest 153 = .ok (.invokevirtual 280, 3) := by decide +kernel
theorem dX9_digest_156 : decode cX9_digest 156 = .ok (.iinc 1 1, 3) := by decide +kernel
theorem dX9_digest_159 : decode cX9_digest 159 = .ok (.goto (-22), 3) := by decide +kernel
theorem dX9_digest_162 : decode cX9_digest 162 = .ok (.aload_n 0, 1) := by decide +kernel
theorem dX9_digest_163 : decode cX9_digest 163 = .ok (.getfield 274, 3) := by decide +kernel
theorem dX9_digest_166 : decode cX9_digest 166 = .ok (.lreturn, 1) := by decide +kernel
set_option maxHeartbeats 4000000 in
set_option maxRecDepth 100000 in
theorem qM_digest_L72_ok {x1 : Int32} {k37 : QS → Int32 → Option (Int64 × QS)} (hk37 : ∀ (σ : QS) (x1 : Int32) (r : Int64 × QS), k37 σ x1 = some r → qx_E (qx_gM l D ci a) 7 mX9_digest (some (.long r.1), r.2) 37 [(0, .ref (a 0)), (1, .int x1)] [] σ) : ∀ (n : Nat) (σ : QS) (x2 : Int32) (r : Int64 × QS), qM_digest_L72 x1 k37 n σ x2 = some r → qx_E (qx_gM l D ci a) 7 mX9_digest (some (.long r.1), r.2) 72 [(0, .ref (a 0)), (1, .int x1), (2, .int x2)] [] σ := by
  intro n
  induction n with
  | zero =>
    intro σ x2 r h
    exact (qx_none h).elim
  | succ n ih =>
    intro σ x2 r h
    unfold qM_digest_L72 at h
    refine qx_iload_n (pc := 72) 2 dX9_digest_72 rfl ?_
    refine qx_bipush (pc := 73) 40 dX9_digest_73 (by decide) ?_
    refine qx_icmp_ge (pc := 75) 100 h dX9_digest_75 (by decide) (fun h => ?_) (fun h => ?_)
    · refine qx_iinc (pc := 100) (lv' := [(1, .int (x1 + 1)), (0, .ref (a 0)), (2, .int x2)]) 1 (x1 + 1) dX9_digest_100 rfl rfl (Nat.le_of_ble_eq_true rfl) rfl ?_
      refine qx_goto (pc := 103) 37 dX9_digest_103 (by decide) ?_
      exact qx_sub [1, 0] rfl (hk37 _ _ _ h)
    · refine qx_aload_n (pc := 78) 0 dX9_digest_78 rfl ?_
      refine qx_aload_n (pc := 79) 0 dX9_digest_79 rfl ?_
      refine qx_iload_n (pc := 80) 1 dX9_digest_80 rfl ?_
      refine qx_iload_n (pc := 81) 2 dX9_digest_81 rfl ?_
      refine qx_iconst (pc := 82) 5 dX9_digest_82 (by decide) ?_
      refine qx_idiv (pc := 83) dX9_digest_83 (by decide) ?_
      refine qx_iload_n (pc := 84) 2 dX9_digest_84 rfl ?_
      refine qx_iconst (pc := 85) 5 dX9_digest_85 (by decide) ?_
      refine qx_irem (pc := 86) dX9_digest_86 (by decide) ?_
      obtain ⟨r1, hr1, h⟩ := qx_bindE h
      refine qx_callVi (pc := 87) 0 r1 σ [.int x1, .int (x2 / 5), .int (x2 - x2 / 5 * 5)] [.ref (a 0)] rfl rfl rfl qcm_X9_placePart qcv_X9_placePart qwm_X9_145 rfl (Nat.le_of_ble_eq_true rfl) (Nat.le_of_ble_eq_true rfl) (by decide) dX9_digest_87 (qM_placePart_ok hr1) ?_
      refine qx_i2l (pc := 90) dX9_digest_90 ?_
      obtain ⟨r2, hr2, h⟩ := qx_bindE h
      refine qx_callVv (pc := 91) 0 r2 [.long (r1.toInt64)] [] rfl rfl rfl qcm_X9_mixes qcv_X9_mixes qwm_X9_280 rfl (Nat.le_of_ble_eq_true rfl) (Nat.le_of_ble_eq_true rfl) (by decide) dX9_digest_91 (qM_mixes_ok hr2) ?_
      refine qx_iinc (pc := 94) (lv' := [(2, .int (x2 + 1)), (0, .ref (a 0)), (1, .int x1)]) 2 (x2 + 1) dX9_digest_94 rfl rfl (Nat.le_of_ble_eq_true rfl) rfl ?_
      refine qx_goto (pc := 97) 72 dX9_digest_97 (by decide) ?_
      exact qx_sub [1, 2, 0] rfl (ih _ _ _ h)
set_option maxHeartbeats 4000000 in
set_option maxRecDepth 100000 in
theorem qM_digest_L47_ok {x1 : Int32} {k37 : QS → Int32 → Option (Int64 × QS)} (hk37 : ∀ (σ : QS) (x1 : Int32) (r : Int64 × QS), k37 σ x1 = some r → qx_E (qx_gM l D ci a) 7 mX9_digest (some (.long r.1), r.2) 37 [(0, .ref (a 0)), (1, .int x1)] [] σ) : ∀ (n : Nat) (σ : QS) (x2 : Int32) (r : Int64 × QS), qM_digest_L47 x1 k37 n σ x2 = some r → qx_E (qx_gM l D ci a) 7 mX9_digest (some (.long r.1), r.2) 47 [(0, .ref (a 0)), (1, .int x1), (2, .int x2)] [] σ := by
  intro n
  induction n with
  | zero =>
    intro σ x2 r h
    exact (qx_none h).elim
  | succ n ih =>
    intro σ x2 r h
    unfold qM_digest_L47 at h
    refine qx_iload_n (pc := 47) 2 dX9_digest_47 rfl ?_
    refine qx_bipush (pc := 48) 9 dX9_digest_48 (by decide) ?_
    refine qx_icmp_ge (pc := 50) 70 h dX9_digest_50 (by decide) (fun h => ?_) (fun h => ?_)
    · refine qx_iconst (pc := 70) 0 dX9_digest_70 (by decide) ?_
      refine qx_istore_n (pc := 71) (lv' := [(2, .int 0), (0, .ref (a 0)), (1, .int x1)]) dX9_digest_71 (Nat.le_of_ble_eq_true rfl) rfl ?_
      exact qx_sub [1, 2, 0] rfl (qM_digest_L72_ok hk37 qx_F _ _ _ h)
    · refine qx_aload_n (pc := 53) 0 dX9_digest_53 rfl ?_
      refine qx_aload_n (pc := 54) 0 dX9_digest_54 rfl ?_
      refine qx_iload_n (pc := 55) 1 dX9_digest_55 rfl ?_
      refine qx_iload_n (pc := 56) 2 dX9_digest_56 rfl ?_
      obtain ⟨r3, hr3, h⟩ := qx_bindE h
      refine qx_callVi (pc := 57) 0 r3 σ [.int x1, .int x2] [.ref (a 0)] rfl rfl rfl qcm_X9_part qcv_X9_part qwm_X9_118 rfl (Nat.le_of_ble_eq_true rfl) (Nat.le_of_ble_eq_true rfl) (by decide) dX9_digest_57 (qM_part_ok hr3) ?_
      refine qx_i2l (pc := 60) dX9_digest_60 ?_
      obtain ⟨r4, hr4, h⟩ := qx_bindE h
      refine qx_callVv (pc := 61) 0 r4 [.long (r3.toInt64)] [] rfl rfl rfl qcm_X9_mixes qcv_X9_mixes qwm_X9_280 rfl (Nat.le_of_ble_eq_true rfl) (Nat.le_of_ble_eq_true rfl) (by decide) dX9_digest_61 (qM_mixes_ok hr4) ?_
      refine qx_iinc (pc := 64) (lv' := [(2, .int (x2 + 1)), (0, .ref (a 0)), (1, .int x1)]) 2 (x2 + 1) dX9_digest_64 rfl rfl (Nat.le_of_ble_eq_true rfl) rfl ?_
      refine qx_goto (pc := 67) 47 dX9_digest_67 (by decide) ?_
      exact qx_sub [1, 2, 0] rfl (ih _ _ _ h)
set_option maxHeartbeats 4000000 in
set_option maxRecDepth 100000 in
theorem qM_digest_L137_ok : ∀ (n : Nat) (σ : QS) (x1 : Int32) (r : Int64 × QS), qM_digest_L137 n σ x1 = some r → qx_E (qx_gM l D ci a) 7 mX9_digest (some (.long r.1), r.2) 137 [(0, .ref (a 0)), (1, .int x1)] [] σ := by
  intro n
  induction n with
  | zero =>
    intro σ x1 r h
    exact (qx_none h).elim
  | succ n ih =>
    intro σ x1 r h
    unfold qM_digest_L137 at h
    refine qx_iload_n (pc := 137) 1 dX9_digest_137 rfl ?_
    refine qx_aload_n (pc := 138) 0 dX9_digest_138 rfl ?_
    refine qgM0_14 (pc := 139) qwf_X9_189 dX9_digest_139 ?_
    refine qx_icmp_ge (pc := 142) 162 h dX9_digest_142 (by decide) (fun h => ?_) (fun h => ?_)
    · refine qx_aload_n (pc := 162) 0 dX9_digest_162 rfl ?_
      refine qgM0_20 (pc := 163) qwf_X9_274 dX9_digest_163 ?_
      exact qx_lretS h rfl dX9_digest_166
    · refine qx_aload_n (pc := 145) 0 dX9_digest_145 rfl ?_
      refine qx_aload_n (pc := 146) 0 dX9_digest_146 rfl ?_
      refine qgM0_13 (pc := 147) qwf_X9_39 dX9_digest_147 ?_
      refine qx_iload_n (pc := 150) 1 dX9_digest_150 rfl ?_
      refine qlM8 (pc := 151) h dX9_digest_151 (fun h => ?_)
      refine qx_i2l (pc := 152) dX9_digest_152 ?_
      obtain ⟨r5, hr5, h⟩ := qx_bindE h
      refine qx_callVv (pc := 153) 0 r5 [.long ((σ.1 8 x1.toNatClampNeg).toInt64)] [] rfl rfl rfl qcm_X9_mixes qcv_X9_mixes qwm_X9_280 rfl (Nat.le_of_ble_eq_true rfl) (Nat.le_of_ble_eq_true rfl) (by decide) dX9_digest_153 (qM_mixes_ok hr5) ?_
      refine qx_iinc (pc := 156) (lv' := [(1, .int (x1 + 1)), (0, .ref (a 0))]) 1 (x1 + 1) dX9_digest_156 rfl rfl (Nat.le_of_ble_eq_true rfl) rfl ?_
      refine qx_goto (pc := 159) 137 dX9_digest_159 (by decide) ?_
      exact qx_sub [1, 0] rfl (ih _ _ _ h)
set_option maxHeartbeats 4000000 in
set_option maxRecDepth 100000 in
theorem qM_digest_L108_ok : ∀ (n : Nat) (σ : QS) (x1 : Int32) (r : Int64 × QS), qM_digest_L108 n σ x1 = some r → qx_E (qx_gM l D ci a) 7 mX9_digest (some (.long r.1), r.2) 108 [(0, .ref (a 0)), (1, .int x1)] [] σ := by
  intro n
  induction n with
  | zero =>
    intro σ x1 r h
    exact (qx_none h).elim
  | succ n ih =>
    intro σ x1 r h
    unfold qM_digest_L108 at h
    refine qx_iload_n (pc := 108) 1 dX9_digest_108 rfl ?_
    refine qx_iconst (pc := 109) 4 dX9_digest_109 (by decide) ?_
    refine qx_aload_n (pc := 110) 0 dX9_digest_110 rfl ?_
    refine qgM0_11 (pc := 111) qwf_X9_182 dX9_digest_111 ?_
    refine qx_imul (pc := 114) dX9_digest_114 ?_
    refine qx_icmp_ge (pc := 115) 135 h dX9_digest_115 (by decide) (fun h => ?_) (fun h => ?_)
    · refine qx_iconst (pc := 135) 0 dX9_digest_135 (by decide) ?_
      refine qx_istore_n (pc := 136) (lv' := [(1, .int 0), (0, .ref (a 0))]) dX9_digest_136 (Nat.le_of_ble_eq_true rfl) rfl ?_
      exact qx_sub [1, 0] rfl (qM_digest_L137_ok qx_F _ _ _ h)
    · refine qx_aload_n (pc := 118) 0 dX9_digest_118 rfl ?_
      refine qx_aload_n (pc := 119) 0 dX9_digest_119 rfl ?_
      refine qgM0_10 (pc := 120) qwf_X9_33 dX9_digest_120 ?_
      refine qx_iload_n (pc := 123) 1 dX9_digest_123 rfl ?_
      refine qlM6 (pc := 124) h dX9_digest_124 (fun h => ?_)
      refine qx_i2l (pc := 125) dX9_digest_125 ?_
      obtain ⟨r6, hr6, h⟩ := qx_bindE h
      refine qx_callVv (pc := 126) 0 r6 [.long ((σ.1 6 x1.toNatClampNeg).toInt64)] [] rfl rfl rfl qcm_X9_mixes qcv_X9_mixes qwm_X9_280 rfl (Nat.le_of_ble_eq_true rfl) (Nat.le_of_ble_eq_true rfl) (by decide) dX9_digest_126 (qM_mixes_ok hr6) ?_
      refine qx_iinc (pc := 129) (lv' := [(1, .int (x1 + 1)), (0, .ref (a 0))]) 1 (x1 + 1) dX9_digest_129 rfl rfl (Nat.le_of_ble_eq_true rfl) rfl ?_
      refine qx_goto (pc := 132) 108 dX9_digest_132 (by decide) ?_
      exact qx_sub [1, 0] rfl (ih _ _ _ h)
set_option maxHeartbeats 4000000 in
set_option maxRecDepth 100000 in
theorem qM_digest_L37_ok : ∀ (n : Nat) (σ : QS) (x1 : Int32) (r : Int64 × QS), qM_digest_L37 n σ x1 = some r → qx_E (qx_gM l D ci a) 7 mX9_digest (some (.long r.1), r.2) 37 [(0, .ref (a 0)), (1, .int x1)] [] σ := by
  intro n
  induction n with
  | zero =>
    intro σ x1 r h
    exact (qx_none h).elim
  | succ n ih =>
    intro σ x1 r h
    unfold qM_digest_L37 at h
    refine qx_iload_n (pc := 37) 1 dX9_digest_37 rfl ?_
    refine qx_aload_n (pc := 38) 0 dX9_digest_38 rfl ?_
    refine qgM0_1 (pc := 39) qwf_X9_48 dX9_digest_39 ?_
    refine qx_icmp_ge (pc := 42) 106 h dX9_digest_42 (by decide) (fun h => ?_) (fun h => ?_)
    · refine qx_iconst (pc := 106) 0 dX9_digest_106 (by decide) ?_
      refine qx_istore_n (pc := 107) (lv' := [(1, .int 0), (0, .ref (a 0))]) dX9_digest_107 (Nat.le_of_ble_eq_true rfl) rfl ?_
      exact qx_sub [1, 0] rfl (qM_digest_L108_ok qx_F _ _ _ h)
    · refine qx_iconst (pc := 45) 0 dX9_digest_45 (by decide) ?_
      refine qx_istore_n (pc := 46) (lv' := [(2, .int 0), (0, .ref (a 0)), (1, .int x1)]) dX9_digest_46 (Nat.le_of_ble_eq_true rfl) rfl ?_
      exact qx_sub [1, 2, 0] rfl (qM_digest_L47_ok ih qx_F _ _ _ h)
set_option maxHeartbeats 4000000 in
set_option maxRecDepth 100000 in
theorem qM_digest_L13_ok : ∀ (n : Nat) (σ : QS) (x1 : Int32) (r : Int64 × QS), qM_digest_L13 n σ x1 = some r → qx_E (qx_gM l D ci a) 7 mX9_digest (some (.long r.1), r.2) 13 [(0, .ref (a 0)), (1, .int x1)] [] σ := by
  intro n
  induction n with
  | zero =>
    intro σ x1 r h
    exact (qx_none h).elim
  | succ n ih =>
    intro σ x1 r h
    unfold qM_digest_L13 at h
    refine qx_iload_n (pc := 13) 1 dX9_digest_13 rfl ?_
    refine qx_bipush (pc := 14) 13 dX9_digest_14 (by decide) ?_
    refine qx_icmp_ge (pc := 16) 35 h dX9_digest_16 (by decide) (fun h => ?_) (fun h => ?_)
    · refine qx_iconst (pc := 35) 0 dX9_digest_35 (by decide) ?_
      refine qx_istore_n (pc := 36) (lv' := [(1, .int 0), (0, .ref (a 0))]) dX9_digest_36 (Nat.le_of_ble_eq_true rfl) rfl ?_
      exact qx_sub [1, 0] rfl (qM_digest_L37_ok qx_F _ _ _ h)
    · refine qx_aload_n (pc := 19) 0 dX9_digest_19 rfl ?_
      refine qx_aload_n (pc := 20) 0 dX9_digest_20 rfl ?_
      refine qx_iload_n (pc := 21) 1 dX9_digest_21 rfl ?_
      obtain ⟨r7, hr7, h⟩ := qx_bindE h
      refine qx_callVi (pc := 22) 0 r7 σ [.int x1] [.ref (a 0)] rfl rfl rfl qcm_X9_number qcv_X9_number qwm_X9_269 rfl (Nat.le_of_ble_eq_true rfl) (Nat.le_of_ble_eq_true rfl) (by decide) dX9_digest_22 (qM_number_ok hr7) ?_
      refine qx_i2l (pc := 25) dX9_digest_25 ?_
      obtain ⟨r8, hr8, h⟩ := qx_bindE h
      refine qx_callVv (pc := 26) 0 r8 [.long (r7.toInt64)] [] rfl rfl rfl qcm_X9_mixes qcv_X9_mixes qwm_X9_280 rfl (Nat.le_of_ble_eq_true rfl) (Nat.le_of_ble_eq_true rfl) (by decide) dX9_digest_26 (qM_mixes_ok hr8) ?_
      refine qx_iinc (pc := 29) (lv' := [(1, .int (x1 + 1)), (0, .ref (a 0))]) 1 (x1 + 1) dX9_digest_29 rfl rfl (Nat.le_of_ble_eq_true rfl) rfl ?_
      refine qx_goto (pc := 32) 13 dX9_digest_32 (by decide) ?_
      exact qx_sub [1, 0] rfl (ih _ _ _ h)
set_option maxHeartbeats 4000000 in
set_option maxRecDepth 100000 in
theorem qM_digest_ok {σ : QS} {r : Int64 × QS} (h : qM_digest σ = some r) : qx_E (qx_gM l D ci a) 7 mX9_digest (some (.long r.1), r.2) 0 [(0, .ref (a 0))] [] σ := by
  unfold qM_digest at h
  refine qx_aload_n (pc := 0) 0 dX9_digest_0 rfl ?_
  obtain ⟨r9, hr9, h⟩ := qx_bindE h
  refine qx_callVv (pc := 1) 0 r9 [] [] rfl rfl rfl qcm_X9_findsAll qcv_X9_findsAll qwm_X9_83 rfl (Nat.le_of_ble_eq_true rfl) (Nat.le_of_ble_eq_true rfl) (by decide) dX9_digest_1 (qM_findsAll_ok hr9) ?_
  refine qx_aload_n (pc := 4) 0 dX9_digest_4 rfl ?_
  refine qx_ldc2 (pc := 5) 325 dX9_digest_5 qwc_X9_278 ?_
  refine qpM0_20 (pc := 8) qwf_X9_274 dX9_digest_8 ?_
  refine qx_iconst (pc := 11) 0 dX9_digest_11 (by decide) ?_
  refine qx_istore_n (pc := 12) (lv' := [(1, .int 0), (0, .ref (a 0))]) dX9_digest_12 (Nat.le_of_ble_eq_true rfl) rfl ?_
  exact qx_sub [1, 0] rfl (qM_digest_L13_ok qx_F _ _ _ h)
end
