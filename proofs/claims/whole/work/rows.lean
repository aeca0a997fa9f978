section
-- ===== PART A: goes FIRST, ahead of the names: the tables' words, and 'selects' of the private methods out of them =====
/-- a private method of a class that the tables say can be made, by its rows of tables_1 -/
def lw_okq (q : MethodName × Nat) : Prop := (q.1.cls ≠ "java/lang/invoke/MethodHandle" ∧ q.1.cls ≠ "java/lang/invoke/VarHandle") ∧ Cond.instantiable q.1.cls q.2 ∈ tables_1 ∧ Cond.privateMethod q.1 ∈ tables_1 ∧ Cond.instanceMethod q.1 ∈ tables_1
theorem lw_p0 : lw_okq (⟨"LabelPlacer", "renew", "()I"⟩, 8) := ⟨⟨by decide +kernel, by decide +kernel⟩, List.mem_of_getElem? (i := 18) (by decide +kernel), List.mem_of_getElem? (i := 264) (by decide +kernel), List.mem_of_getElem? (i := 265) (by decide +kernel)⟩
theorem lw_p1 : lw_okq (⟨"LabelPlacer$Places", "findLeft", "(II)I"⟩, 7) := ⟨⟨by decide +kernel, by decide +kernel⟩, List.mem_of_getElem? (i := 72) (by decide +kernel), List.mem_of_getElem? (i := 276) (by decide +kernel), List.mem_of_getElem? (i := 277) (by decide +kernel)⟩
theorem lw_p2 : lw_okq (⟨"LabelPlacer$Places", "findBottom", "(II)I"⟩, 7) := ⟨⟨by decide +kernel, by decide +kernel⟩, List.mem_of_getElem? (i := 72) (by decide +kernel), List.mem_of_getElem? (i := 281) (by decide +kernel), List.mem_of_getElem? (i := 282) (by decide +kernel)⟩
theorem lw_p3 : lw_okq (⟨"LabelPlacer$Places", "isGood", "(II)Z"⟩, 7) := ⟨⟨by decide +kernel, by decide +kernel⟩, List.mem_of_getElem? (i := 72) (by decide +kernel), List.mem_of_getElem? (i := 285) (by decide +kernel), List.mem_of_getElem? (i := 286) (by decide +kernel)⟩
theorem lw_p4 : lw_okq (⟨"LabelPlacer$Labels", "isShown", "(I)Z"⟩, 3) := ⟨⟨by decide +kernel, by decide +kernel⟩, List.mem_of_getElem? (i := 101) (by decide +kernel), List.mem_of_getElem? (i := 310) (by decide +kernel), List.mem_of_getElem? (i := 311) (by decide +kernel)⟩
theorem lw_p5 : lw_okq (⟨"LabelPlacer$Labels", "showOnLeastFree", "(I)Z"⟩, 3) := ⟨⟨by decide +kernel, by decide +kernel⟩, List.mem_of_getElem? (i := 101) (by decide +kernel), List.mem_of_getElem? (i := 402) (by decide +kernel), List.mem_of_getElem? (i := 403) (by decide +kernel)⟩
theorem lw_p6 : lw_okq (⟨"LabelPlacer$Places", "clashesBefore", "(III)I"⟩, 7) := ⟨⟨by decide +kernel, by decide +kernel⟩, List.mem_of_getElem? (i := 72) (by decide +kernel), List.mem_of_getElem? (i := 428) (by decide +kernel), List.mem_of_getElem? (i := 429) (by decide +kernel)⟩
theorem lw_p7 : lw_okq (⟨"LabelPlacer$Labels", "showByMoving", "(I)Z"⟩, 3) := ⟨⟨by decide +kernel, by decide +kernel⟩, List.mem_of_getElem? (i := 101) (by decide +kernel), List.mem_of_getElem? (i := 463) (by decide +kernel), List.mem_of_getElem? (i := 464) (by decide +kernel)⟩
theorem lw_p8 : lw_okq (⟨"LabelPlacer$Labels", "firstClashing", "(II)I"⟩, 3) := ⟨⟨by decide +kernel, by decide +kernel⟩, List.mem_of_getElem? (i := 101) (by decide +kernel), List.mem_of_getElem? (i := 467) (by decide +kernel), List.mem_of_getElem? (i := 468) (by decide +kernel)⟩
theorem lw_p9 : lw_okq (⟨"LabelPlacer$Labels", "moveAside", "(III)Z"⟩, 3) := ⟨⟨by decide +kernel, by decide +kernel⟩, List.mem_of_getElem? (i := 101) (by decide +kernel), List.mem_of_getElem? (i := 471) (by decide +kernel), List.mem_of_getElem? (i := 472) (by decide +kernel)⟩
theorem lw_p10 : lw_okq (⟨"LabelPlacer$Labels", "pushFirst", "()Z"⟩, 3) := ⟨⟨by decide +kernel, by decide +kernel⟩, List.mem_of_getElem? (i := 101) (by decide +kernel), List.mem_of_getElem? (i := 483) (by decide +kernel), List.mem_of_getElem? (i := 484) (by decide +kernel)⟩
theorem lw_p11 : lw_okq (⟨"LabelPlacer$Labels", "sideToPush", "(I)I"⟩, 3) := ⟨⟨by decide +kernel, by decide +kernel⟩, List.mem_of_getElem? (i := 101) (by decide +kernel), List.mem_of_getElem? (i := 487) (by decide +kernel), List.mem_of_getElem? (i := 488) (by decide +kernel)⟩
theorem lw_p12 : lw_okq (⟨"LabelPlacer$Labels", "outranksClashing", "(II)Z"⟩, 3) := ⟨⟨by decide +kernel, by decide +kernel⟩, List.mem_of_getElem? (i := 101) (by decide +kernel), List.mem_of_getElem? (i := 491) (by decide +kernel), List.mem_of_getElem? (i := 492) (by decide +kernel)⟩
theorem lw_p13 : lw_okq (⟨"LabelPlacer$Labels", "hideClashing", "(II)V"⟩, 3) := ⟨⟨by decide +kernel, by decide +kernel⟩, List.mem_of_getElem? (i := 101) (by decide +kernel), List.mem_of_getElem? (i := 496) (by decide +kernel), List.mem_of_getElem? (i := 497) (by decide +kernel)⟩
theorem lw_p14 : lw_okq (⟨"LabelPlacer$Search", "gatherCandidates", "()Z"⟩, 5) := ⟨⟨by decide +kernel, by decide +kernel⟩, List.mem_of_getElem? (i := 120) (by decide +kernel), List.mem_of_getElem? (i := 522) (by decide +kernel), List.mem_of_getElem? (i := 523) (by decide +kernel)⟩
theorem lw_p15 : lw_okq (⟨"LabelPlacer$Search", "maskOfClashes", "(II)J"⟩, 5) := ⟨⟨by decide +kernel, by decide +kernel⟩, List.mem_of_getElem? (i := 120) (by decide +kernel), List.mem_of_getElem? (i := 529) (by decide +kernel), List.mem_of_getElem? (i := 530) (by decide +kernel)⟩
def lw_privs_1 : List (MethodName × Nat) := [(⟨"LabelPlacer", "renew", "()I"⟩, 8), (⟨"LabelPlacer$Places", "findLeft", "(II)I"⟩, 7), (⟨"LabelPlacer$Places", "findBottom", "(II)I"⟩, 7), (⟨"LabelPlacer$Places", "isGood", "(II)Z"⟩, 7), (⟨"LabelPlacer$Labels", "isShown", "(I)Z"⟩, 3), (⟨"LabelPlacer$Labels", "showOnLeastFree", "(I)Z"⟩, 3), (⟨"LabelPlacer$Places", "clashesBefore", "(III)I"⟩, 7), (⟨"LabelPlacer$Labels", "showByMoving", "(I)Z"⟩, 3), (⟨"LabelPlacer$Labels", "firstClashing", "(II)I"⟩, 3), (⟨"LabelPlacer$Labels", "moveAside", "(III)Z"⟩, 3), (⟨"LabelPlacer$Labels", "pushFirst", "()Z"⟩, 3), (⟨"LabelPlacer$Labels", "sideToPush", "(I)I"⟩, 3), (⟨"LabelPlacer$Labels", "outranksClashing", "(II)Z"⟩, 3), (⟨"LabelPlacer$Labels", "hideClashing", "(II)V"⟩, 3), (⟨"LabelPlacer$Search", "gatherCandidates", "()Z"⟩, 5), (⟨"LabelPlacer$Search", "maskOfClashes", "(II)J"⟩, 5)]
theorem lw_r1 : ∀ q ∈ lw_privs_1, lw_okq q := List.forall_mem_cons.mpr ⟨lw_p0, List.forall_mem_cons.mpr ⟨lw_p1, List.forall_mem_cons.mpr ⟨lw_p2, List.forall_mem_cons.mpr ⟨lw_p3, List.forall_mem_cons.mpr ⟨lw_p4, List.forall_mem_cons.mpr ⟨lw_p5, List.forall_mem_cons.mpr ⟨lw_p6, List.forall_mem_cons.mpr ⟨lw_p7, List.forall_mem_cons.mpr ⟨lw_p8, List.forall_mem_cons.mpr ⟨lw_p9, List.forall_mem_cons.mpr ⟨lw_p10, List.forall_mem_cons.mpr ⟨lw_p11, List.forall_mem_cons.mpr ⟨lw_p12, List.forall_mem_cons.mpr ⟨lw_p13, List.forall_mem_cons.mpr ⟨lw_p14, List.forall_mem_cons.mpr ⟨lw_p15, fun _ h => absurd h List.not_mem_nil⟩⟩⟩⟩⟩⟩⟩⟩⟩⟩⟩⟩⟩⟩⟩⟩
theorem lw_p16 : lw_okq (⟨"LabelPlacer$Search", "sumInReach", "(IJ)I"⟩, 5) := ⟨⟨by decide +kernel, by decide +kernel⟩, List.mem_of_getElem? (i := 120) (by decide +kernel), List.mem_of_getElem? (i := 540) (by decide +kernel), List.mem_of_getElem? (i := 541) (by decide +kernel)⟩
theorem lw_p17 : lw_okq (⟨"LabelPlacer$Search", "priorityOf", "(I)I"⟩, 5) := ⟨⟨by decide +kernel, by decide +kernel⟩, List.mem_of_getElem? (i := 120) (by decide +kernel), List.mem_of_getElem? (i := 545) (by decide +kernel), List.mem_of_getElem? (i := 546) (by decide +kernel)⟩
theorem lw_p18 : lw_okq (⟨"LabelPlacer$Lines", "gatherWaiting", "()I"⟩, 6) := ⟨⟨by decide +kernel, by decide +kernel⟩, List.mem_of_getElem? (i := 143) (by decide +kernel), List.mem_of_getElem? (i := 559) (by decide +kernel), List.mem_of_getElem? (i := 560) (by decide +kernel)⟩
theorem lw_p19 : lw_okq (⟨"LabelPlacer$Lines", "comesBefore", "(II)Z"⟩, 6) := ⟨⟨by decide +kernel, by decide +kernel⟩, List.mem_of_getElem? (i := 143) (by decide +kernel), List.mem_of_getElem? (i := 564) (by decide +kernel), List.mem_of_getElem? (i := 565) (by decide +kernel)⟩
theorem lw_p20 : lw_okq (⟨"LabelPlacer$Lines", "slotRow", "(I)I"⟩, 6) := ⟨⟨by decide +kernel, by decide +kernel⟩, List.mem_of_getElem? (i := 143) (by decide +kernel), List.mem_of_getElem? (i := 569) (by decide +kernel), List.mem_of_getElem? (i := 570) (by decide +kernel)⟩
theorem lw_p21 : lw_okq (⟨"LabelPlacer$Lines", "keep", "(I)V"⟩, 6) := ⟨⟨by decide +kernel, by decide +kernel⟩, List.mem_of_getElem? (i := 143) (by decide +kernel), List.mem_of_getElem? (i := 577) (by decide +kernel), List.mem_of_getElem? (i := 578) (by decide +kernel)⟩
theorem lw_p22 : lw_okq (⟨"LabelPlacer$Command", "skipBlanks", "(LLabelPlacer$Text;)V"⟩, 3) := ⟨⟨by decide +kernel, by decide +kernel⟩, List.mem_of_getElem? (i := 185) (by decide +kernel), List.mem_of_getElem? (i := 616) (by decide +kernel), List.mem_of_getElem? (i := 617) (by decide +kernel)⟩
theorem lw_p23 : lw_okq (⟨"LabelPlacer$Command", "readNumber", "(LLabelPlacer$Text;I)Z"⟩, 3) := ⟨⟨by decide +kernel, by decide +kernel⟩, List.mem_of_getElem? (i := 185) (by decide +kernel), List.mem_of_getElem? (i := 692) (by decide +kernel), List.mem_of_getElem? (i := 693) (by decide +kernel)⟩
theorem lw_p24 : lw_okq (⟨"LabelPlacer", "withPoint", "(JI)J"⟩, 8) := ⟨⟨by decide +kernel, by decide +kernel⟩, List.mem_of_getElem? (i := 18) (by decide +kernel), List.mem_of_getElem? (i := 732) (by decide +kernel), List.mem_of_getElem? (i := 733) (by decide +kernel)⟩
theorem lw_p25 : lw_okq (⟨"LabelPlacerModel", "pointAt", "(II)I"⟩, 21) := ⟨⟨by decide +kernel, by decide +kernel⟩, List.mem_of_getElem? (i := 740) (by decide +kernel), List.mem_of_getElem? (i := 825) (by decide +kernel), List.mem_of_getElem? (i := 826) (by decide +kernel)⟩
theorem lw_p26 : lw_okq (⟨"LabelPlacerModel", "settles", "()V"⟩, 21) := ⟨⟨by decide +kernel, by decide +kernel⟩, List.mem_of_getElem? (i := 740) (by decide +kernel), List.mem_of_getElem? (i := 829) (by decide +kernel), List.mem_of_getElem? (i := 830) (by decide +kernel)⟩
theorem lw_p27 : lw_okq (⟨"LabelPlacerModel", "findsAll", "()V"⟩, 21) := ⟨⟨by decide +kernel, by decide +kernel⟩, List.mem_of_getElem? (i := 740) (by decide +kernel), List.mem_of_getElem? (i := 833) (by decide +kernel), List.mem_of_getElem? (i := 834) (by decide +kernel)⟩
theorem lw_p28 : lw_okq (⟨"LabelPlacerModel", "finds", "(II)Z"⟩, 21) := ⟨⟨by decide +kernel, by decide +kernel⟩, List.mem_of_getElem? (i := 740) (by decide +kernel), List.mem_of_getElem? (i := 837) (by decide +kernel), List.mem_of_getElem? (i := 838) (by decide +kernel)⟩
theorem lw_p29 : lw_okq (⟨"LabelPlacerModel", "left", "(II)I"⟩, 21) := ⟨⟨by decide +kernel, by decide +kernel⟩, List.mem_of_getElem? (i := 740) (by decide +kernel), List.mem_of_getElem? (i := 841) (by decide +kernel), List.mem_of_getElem? (i := 842) (by decide +kernel)⟩
theorem lw_p30 : lw_okq (⟨"LabelPlacerModel", "bottom", "(II)I"⟩, 21) := ⟨⟨by decide +kernel, by decide +kernel⟩, List.mem_of_getElem? (i := 740) (by decide +kernel), List.mem_of_getElem? (i := 845) (by decide +kernel), List.mem_of_getElem? (i := 846) (by decide +kernel)⟩
theorem lw_p31 : lw_okq (⟨"LabelPlacerModel", "isVisible", "(I)Z"⟩, 21) := ⟨⟨by decide +kernel, by decide +kernel⟩, List.mem_of_getElem? (i := 740) (by decide +kernel), List.mem_of_getElem? (i := 849) (by decide +kernel), List.mem_of_getElem? (i := 850) (by decide +kernel)⟩
def lw_privs_2 : List (MethodName × Nat) := [(⟨"LabelPlacer$Search", "sumInReach", "(IJ)I"⟩, 5), (⟨"LabelPlacer$Search", "priorityOf", "(I)I"⟩, 5), (⟨"LabelPlacer$Lines", "gatherWaiting", "()I"⟩, 6), (⟨"LabelPlacer$Lines", "comesBefore", "(II)Z"⟩, 6), (⟨"LabelPlacer$Lines", "slotRow", "(I)I"⟩, 6), (⟨"LabelPlacer$Lines", "keep", "(I)V"⟩, 6), (⟨"LabelPlacer$Command", "skipBlanks", "(LLabelPlacer$Text;)V"⟩, 3), (⟨"LabelPlacer$Command", "readNumber", "(LLabelPlacer$Text;I)Z"⟩, 3), (⟨"LabelPlacer", "withPoint", "(JI)J"⟩, 8), (⟨"LabelPlacerModel", "pointAt", "(II)I"⟩, 21), (⟨"LabelPlacerModel", "settles", "()V"⟩, 21), (⟨"LabelPlacerModel", "findsAll", "()V"⟩, 21), (⟨"LabelPlacerModel", "finds", "(II)Z"⟩, 21), (⟨"LabelPlacerModel", "left", "(II)I"⟩, 21), (⟨"LabelPlacerModel", "bottom", "(II)I"⟩, 21), (⟨"LabelPlacerModel", "isVisible", "(I)Z"⟩, 21)]
theorem lw_r2 : ∀ q ∈ lw_privs_2, lw_okq q := List.forall_mem_cons.mpr ⟨lw_p16, List.forall_mem_cons.mpr ⟨lw_p17, List.forall_mem_cons.mpr ⟨lw_p18, List.forall_mem_cons.mpr ⟨lw_p19, List.forall_mem_cons.mpr ⟨lw_p20, List.forall_mem_cons.mpr ⟨lw_p21, List.forall_mem_cons.mpr ⟨lw_p22, List.forall_mem_cons.mpr ⟨lw_p23, List.forall_mem_cons.mpr ⟨lw_p24, List.forall_mem_cons.mpr ⟨lw_p25, List.forall_mem_cons.mpr ⟨lw_p26, List.forall_mem_cons.mpr ⟨lw_p27, List.forall_mem_cons.mpr ⟨lw_p28, List.forall_mem_cons.mpr ⟨lw_p29, List.forall_mem_cons.mpr ⟨lw_p30, List.forall_mem_cons.mpr ⟨lw_p31, fun _ h => absurd h List.not_mem_nil⟩⟩⟩⟩⟩⟩⟩⟩⟩⟩⟩⟩⟩⟩⟩⟩
theorem lw_p32 : lw_okq (⟨"LabelPlacerModel", "covers", "(IIII)Z"⟩, 21) := ⟨⟨by decide +kernel, by decide +kernel⟩, List.mem_of_getElem? (i := 740) (by decide +kernel), List.mem_of_getElem? (i := 853) (by decide +kernel), List.mem_of_getElem? (i := 854) (by decide +kernel)⟩
theorem lw_p33 : lw_okq (⟨"LabelPlacerModel", "isPoint", "(I)Z"⟩, 21) := ⟨⟨by decide +kernel, by decide +kernel⟩, List.mem_of_getElem? (i := 740) (by decide +kernel), List.mem_of_getElem? (i := 861) (by decide +kernel), List.mem_of_getElem? (i := 862) (by decide +kernel)⟩
theorem lw_p34 : lw_okq (⟨"LabelPlacerModel", "clashes", "(III)I"⟩, 21) := ⟨⟨by decide +kernel, by decide +kernel⟩, List.mem_of_getElem? (i := 740) (by decide +kernel), List.mem_of_getElem? (i := 869) (by decide +kernel), List.mem_of_getElem? (i := 870) (by decide +kernel)⟩
theorem lw_p35 : lw_okq (⟨"LabelPlacerModel", "meet", "(IIII)Z"⟩, 21) := ⟨⟨by decide +kernel, by decide +kernel⟩, List.mem_of_getElem? (i := 740) (by decide +kernel), List.mem_of_getElem? (i := 873) (by decide +kernel), List.mem_of_getElem? (i := 874) (by decide +kernel)⟩
theorem lw_p36 : lw_okq (⟨"LabelPlacerModel", "part", "(II)I"⟩, 21) := ⟨⟨by decide +kernel, by decide +kernel⟩, List.mem_of_getElem? (i := 740) (by decide +kernel), List.mem_of_getElem? (i := 882) (by decide +kernel), List.mem_of_getElem? (i := 883) (by decide +kernel)⟩
theorem lw_p37 : lw_okq (⟨"LabelPlacerModel", "placesOf", "(I)I"⟩, 21) := ⟨⟨by decide +kernel, by decide +kernel⟩, List.mem_of_getElem? (i := 740) (by decide +kernel), List.mem_of_getElem? (i := 886) (by decide +kernel), List.mem_of_getElem? (i := 887) (by decide +kernel)⟩
theorem lw_p38 : lw_okq (⟨"LabelPlacerModel", "visible", "()I"⟩, 21) := ⟨⟨by decide +kernel, by decide +kernel⟩, List.mem_of_getElem? (i := 740) (by decide +kernel), List.mem_of_getElem? (i := 896) (by decide +kernel), List.mem_of_getElem? (i := 897) (by decide +kernel)⟩
theorem lw_p39 : lw_okq (⟨"LabelPlacerModel", "shown", "()I"⟩, 21) := ⟨⟨by decide +kernel, by decide +kernel⟩, List.mem_of_getElem? (i := 740) (by decide +kernel), List.mem_of_getElem? (i := 904) (by decide +kernel), List.mem_of_getElem? (i := 905) (by decide +kernel)⟩
theorem lw_p40 : lw_okq (⟨"LabelPlacerModel", "orders", "()V"⟩, 21) := ⟨⟨by decide +kernel, by decide +kernel⟩, List.mem_of_getElem? (i := 740) (by decide +kernel), List.mem_of_getElem? (i := 912) (by decide +kernel), List.mem_of_getElem? (i := 913) (by decide +kernel)⟩
theorem lw_p41 : lw_okq (⟨"LabelPlacerModel", "wants", "(I)Z"⟩, 21) := ⟨⟨by decide +kernel, by decide +kernel⟩, List.mem_of_getElem? (i := 740) (by decide +kernel), List.mem_of_getElem? (i := 916) (by decide +kernel), List.mem_of_getElem? (i := 917) (by decide +kernel)⟩
theorem lw_p42 : lw_okq (⟨"LabelPlacerModel", "placePart", "(III)I"⟩, 21) := ⟨⟨by decide +kernel, by decide +kernel⟩, List.mem_of_getElem? (i := 740) (by decide +kernel), List.mem_of_getElem? (i := 929) (by decide +kernel), List.mem_of_getElem? (i := 930) (by decide +kernel)⟩
theorem lw_p43 : lw_okq (⟨"LabelPlacerModel", "meets", "(II)I"⟩, 21) := ⟨⟨by decide +kernel, by decide +kernel⟩, List.mem_of_getElem? (i := 740) (by decide +kernel), List.mem_of_getElem? (i := 933) (by decide +kernel), List.mem_of_getElem? (i := 934) (by decide +kernel)⟩
theorem lw_p44 : lw_okq (⟨"LabelPlacerModel", "makesRoom", "(II)Z"⟩, 21) := ⟨⟨by decide +kernel, by decide +kernel⟩, List.mem_of_getElem? (i := 740) (by decide +kernel), List.mem_of_getElem? (i := 950) (by decide +kernel), List.mem_of_getElem? (i := 951) (by decide +kernel)⟩
theorem lw_p45 : lw_okq (⟨"LabelPlacerModel", "clashing", "(II)I"⟩, 21) := ⟨⟨by decide +kernel, by decide +kernel⟩, List.mem_of_getElem? (i := 740) (by decide +kernel), List.mem_of_getElem? (i := 954) (by decide +kernel), List.mem_of_getElem? (i := 955) (by decide +kernel)⟩
theorem lw_p46 : lw_okq (⟨"LabelPlacerModel", "escapes", "(III)I"⟩, 21) := ⟨⟨by decide +kernel, by decide +kernel⟩, List.mem_of_getElem? (i := 740) (by decide +kernel), List.mem_of_getElem? (i := 958) (by decide +kernel), List.mem_of_getElem? (i := 959) (by decide +kernel)⟩
theorem lw_p47 : lw_okq (⟨"LabelPlacerModel", "pushes", "()Z"⟩, 21) := ⟨⟨by decide +kernel, by decide +kernel⟩, List.mem_of_getElem? (i := 740) (by decide +kernel), List.mem_of_getElem? (i := 966) (by decide +kernel), List.mem_of_getElem? (i := 967) (by decide +kernel)⟩
def lw_privs_3 : List (MethodName × Nat) := [(⟨"LabelPlacerModel", "covers", "(IIII)Z"⟩, 21), (⟨"LabelPlacerModel", "isPoint", "(I)Z"⟩, 21), (⟨"LabelPlacerModel", "clashes", "(III)I"⟩, 21), (⟨"LabelPlacerModel", "meet", "(IIII)Z"⟩, 21), (⟨"LabelPlacerModel", "part", "(II)I"⟩, 21), (⟨"LabelPlacerModel", "placesOf", "(I)I"⟩, 21), (⟨"LabelPlacerModel", "visible", "()I"⟩, 21), (⟨"LabelPlacerModel", "shown", "()I"⟩, 21), (⟨"LabelPlacerModel", "orders", "()V"⟩, 21), (⟨"LabelPlacerModel", "wants", "(I)Z"⟩, 21), (⟨"LabelPlacerModel", "placePart", "(III)I"⟩, 21), (⟨"LabelPlacerModel", "meets", "(II)I"⟩, 21), (⟨"LabelPlacerModel", "makesRoom", "(II)Z"⟩, 21), (⟨"LabelPlacerModel", "clashing", "(II)I"⟩, 21), (⟨"LabelPlacerModel", "escapes", "(III)I"⟩, 21), (⟨"LabelPlacerModel", "pushes", "()Z"⟩, 21)]
theorem lw_r3 : ∀ q ∈ lw_privs_3, lw_okq q := List.forall_mem_cons.mpr ⟨lw_p32, List.forall_mem_cons.mpr ⟨lw_p33, List.forall_mem_cons.mpr ⟨lw_p34, List.forall_mem_cons.mpr ⟨lw_p35, List.forall_mem_cons.mpr ⟨lw_p36, List.forall_mem_cons.mpr ⟨lw_p37, List.forall_mem_cons.mpr ⟨lw_p38, List.forall_mem_cons.mpr ⟨lw_p39, List.forall_mem_cons.mpr ⟨lw_p40, List.forall_mem_cons.mpr ⟨lw_p41, List.forall_mem_cons.mpr ⟨lw_p42, List.forall_mem_cons.mpr ⟨lw_p43, List.forall_mem_cons.mpr ⟨lw_p44, List.forall_mem_cons.mpr ⟨lw_p45, List.forall_mem_cons.mpr ⟨lw_p46, List.forall_mem_cons.mpr ⟨lw_p47, fun _ h => absurd h List.not_mem_nil⟩⟩⟩⟩⟩⟩⟩⟩⟩⟩⟩⟩⟩⟩⟩⟩
theorem lw_p48 : lw_okq (⟨"LabelPlacerModel", "strongest", "(I)I"⟩, 21) := ⟨⟨by decide +kernel, by decide +kernel⟩, List.mem_of_getElem? (i := 740) (by decide +kernel), List.mem_of_getElem? (i := 970) (by decide +kernel), List.mem_of_getElem? (i := 971) (by decide +kernel)⟩
theorem lw_p49 : lw_okq (⟨"LabelPlacerModel", "isStronger", "(II)Z"⟩, 21) := ⟨⟨by decide +kernel, by decide +kernel⟩, List.mem_of_getElem? (i := 740) (by decide +kernel), List.mem_of_getElem? (i := 974) (by decide +kernel), List.mem_of_getElem? (i := 975) (by decide +kernel)⟩
theorem lw_p50 : lw_okq (⟨"LabelPlacerModel", "fitsWith", "(I)Z"⟩, 21) := ⟨⟨by decide +kernel, by decide +kernel⟩, List.mem_of_getElem? (i := 740) (by decide +kernel), List.mem_of_getElem? (i := 990) (by decide +kernel), List.mem_of_getElem? (i := 991) (by decide +kernel)⟩
theorem lw_p51 : lw_okq (⟨"LabelPlacerModel", "sum", "(I)I"⟩, 21) := ⟨⟨by decide +kernel, by decide +kernel⟩, List.mem_of_getElem? (i := 740) (by decide +kernel), List.mem_of_getElem? (i := 994) (by decide +kernel), List.mem_of_getElem? (i := 995) (by decide +kernel)⟩
theorem lw_p52 : lw_okq (⟨"LabelPlacerModel", "isAhead", "(II)Z"⟩, 21) := ⟨⟨by decide +kernel, by decide +kernel⟩, List.mem_of_getElem? (i := 740) (by decide +kernel), List.mem_of_getElem? (i := 1002) (by decide +kernel), List.mem_of_getElem? (i := 1003) (by decide +kernel)⟩
theorem lw_p53 : lw_okq (⟨"LabelPlacerModel", "reads", "()I"⟩, 21) := ⟨⟨by decide +kernel, by decide +kernel⟩, List.mem_of_getElem? (i := 740) (by decide +kernel), List.mem_of_getElem? (i := 1024) (by decide +kernel), List.mem_of_getElem? (i := 1025) (by decide +kernel)⟩
theorem lw_p54 : lw_okq (⟨"LabelPlacerModel", "skips", "()V"⟩, 21) := ⟨⟨by decide +kernel, by decide +kernel⟩, List.mem_of_getElem? (i := 740) (by decide +kernel), List.mem_of_getElem? (i := 1028) (by decide +kernel), List.mem_of_getElem? (i := 1029) (by decide +kernel)⟩
theorem lw_p55 : lw_okq (⟨"LabelPlacerModel", "next", "()I"⟩, 21) := ⟨⟨by decide +kernel, by decide +kernel⟩, List.mem_of_getElem? (i := 740) (by decide +kernel), List.mem_of_getElem? (i := 1032) (by decide +kernel), List.mem_of_getElem? (i := 1033) (by decide +kernel)⟩
theorem lw_p56 : lw_okq (⟨"LabelPlacerModel", "readsWord", "()V"⟩, 21) := ⟨⟨by decide +kernel, by decide +kernel⟩, List.mem_of_getElem? (i := 740) (by decide +kernel), List.mem_of_getElem? (i := 1036) (by decide +kernel), List.mem_of_getElem? (i := 1037) (by decide +kernel)⟩
theorem lw_p57 : lw_okq (⟨"LabelPlacerModel", "command", "()I"⟩, 21) := ⟨⟨by decide +kernel, by decide +kernel⟩, List.mem_of_getElem? (i := 740) (by decide +kernel), List.mem_of_getElem? (i := 1042) (by decide +kernel), List.mem_of_getElem? (i := 1043) (by decide +kernel)⟩
theorem lw_p58 : lw_okq (⟨"LabelPlacerModel", "isWord", "(IIIIIII)Z"⟩, 21) := ⟨⟨by decide +kernel, by decide +kernel⟩, List.mem_of_getElem? (i := 740) (by decide +kernel), List.mem_of_getElem? (i := 1046) (by decide +kernel), List.mem_of_getElem? (i := 1047) (by decide +kernel)⟩
theorem lw_p59 : lw_okq (⟨"LabelPlacerModel", "fails", "(I)V"⟩, 21) := ⟨⟨by decide +kernel, by decide +kernel⟩, List.mem_of_getElem? (i := 740) (by decide +kernel), List.mem_of_getElem? (i := 1050) (by decide +kernel), List.mem_of_getElem? (i := 1051) (by decide +kernel)⟩
theorem lw_p60 : lw_okq (⟨"LabelPlacerModel", "readsNumber", "()I"⟩, 21) := ⟨⟨by decide +kernel, by decide +kernel⟩, List.mem_of_getElem? (i := 740) (by decide +kernel), List.mem_of_getElem? (i := 1054) (by decide +kernel), List.mem_of_getElem? (i := 1055) (by decide +kernel)⟩
theorem lw_p61 : lw_okq (⟨"LabelPlacerModel", "readsWhole", "()I"⟩, 21) := ⟨⟨by decide +kernel, by decide +kernel⟩, List.mem_of_getElem? (i := 740) (by decide +kernel), List.mem_of_getElem? (i := 1060) (by decide +kernel), List.mem_of_getElem? (i := 1061) (by decide +kernel)⟩
theorem lw_p62 : lw_okq (⟨"LabelPlacerModel", "number", "(I)I"⟩, 21) := ⟨⟨by decide +kernel, by decide +kernel⟩, List.mem_of_getElem? (i := 740) (by decide +kernel), List.mem_of_getElem? (i := 1074) (by decide +kernel), List.mem_of_getElem? (i := 1075) (by decide +kernel)⟩
theorem lw_p63 : lw_okq (⟨"LabelPlacerModel", "places", "()I"⟩, 21) := ⟨⟨by decide +kernel, by decide +kernel⟩, List.mem_of_getElem? (i := 740) (by decide +kernel), List.mem_of_getElem? (i := 1078) (by decide +kernel), List.mem_of_getElem? (i := 1079) (by decide +kernel)⟩
def lw_privs_4 : List (MethodName × Nat) := [(⟨"LabelPlacerModel", "strongest", "(I)I"⟩, 21), (⟨"LabelPlacerModel", "isStronger", "(II)Z"⟩, 21), (⟨"LabelPlacerModel", "fitsWith", "(I)Z"⟩, 21), (⟨"LabelPlacerModel", "sum", "(I)I"⟩, 21), (⟨"LabelPlacerModel", "isAhead", "(II)Z"⟩, 21), (⟨"LabelPlacerModel", "reads", "()I"⟩, 21), (⟨"LabelPlacerModel", "skips", "()V"⟩, 21), (⟨"LabelPlacerModel", "next", "()I"⟩, 21), (⟨"LabelPlacerModel", "readsWord", "()V"⟩, 21), (⟨"LabelPlacerModel", "command", "()I"⟩, 21), (⟨"LabelPlacerModel", "isWord", "(IIIIIII)Z"⟩, 21), (⟨"LabelPlacerModel", "fails", "(I)V"⟩, 21), (⟨"LabelPlacerModel", "readsNumber", "()I"⟩, 21), (⟨"LabelPlacerModel", "readsWhole", "()I"⟩, 21), (⟨"LabelPlacerModel", "number", "(I)I"⟩, 21), (⟨"LabelPlacerModel", "places", "()I"⟩, 21)]
theorem lw_r4 : ∀ q ∈ lw_privs_4, lw_okq q := List.forall_mem_cons.mpr ⟨lw_p48, List.forall_mem_cons.mpr ⟨lw_p49, List.forall_mem_cons.mpr ⟨lw_p50, List.forall_mem_cons.mpr ⟨lw_p51, List.forall_mem_cons.mpr ⟨lw_p52, List.forall_mem_cons.mpr ⟨lw_p53, List.forall_mem_cons.mpr ⟨lw_p54, List.forall_mem_cons.mpr ⟨lw_p55, List.forall_mem_cons.mpr ⟨lw_p56, List.forall_mem_cons.mpr ⟨lw_p57, List.forall_mem_cons.mpr ⟨lw_p58, List.forall_mem_cons.mpr ⟨lw_p59, List.forall_mem_cons.mpr ⟨lw_p60, List.forall_mem_cons.mpr ⟨lw_p61, List.forall_mem_cons.mpr ⟨lw_p62, List.forall_mem_cons.mpr ⟨lw_p63, fun _ h => absurd h List.not_mem_nil⟩⟩⟩⟩⟩⟩⟩⟩⟩⟩⟩⟩⟩⟩⟩⟩
theorem lw_p64 : lw_okq (⟨"LabelPlacerModel", "pairs", "()I"⟩, 21) := ⟨⟨by decide +kernel, by decide +kernel⟩, List.mem_of_getElem? (i := 740) (by decide +kernel), List.mem_of_getElem? (i := 1082) (by decide +kernel), List.mem_of_getElem? (i := 1083) (by decide +kernel)⟩
theorem lw_p65 : lw_okq (⟨"LabelPlacerModel", "priorities", "()I"⟩, 21) := ⟨⟨by decide +kernel, by decide +kernel⟩, List.mem_of_getElem? (i := 740) (by decide +kernel), List.mem_of_getElem? (i := 1086) (by decide +kernel), List.mem_of_getElem? (i := 1087) (by decide +kernel)⟩
theorem lw_p66 : lw_okq (⟨"LabelPlacerModel", "pushing", "()I"⟩, 21) := ⟨⟨by decide +kernel, by decide +kernel⟩, List.mem_of_getElem? (i := 740) (by decide +kernel), List.mem_of_getElem? (i := 1090) (by decide +kernel), List.mem_of_getElem? (i := 1091) (by decide +kernel)⟩
theorem lw_p67 : lw_okq (⟨"LabelPlacerModel", "mixes", "(J)V"⟩, 21) := ⟨⟨by decide +kernel, by decide +kernel⟩, List.mem_of_getElem? (i := 740) (by decide +kernel), List.mem_of_getElem? (i := 1099) (by decide +kernel), List.mem_of_getElem? (i := 1100) (by decide +kernel)⟩
def lw_privs_5 : List (MethodName × Nat) := [(⟨"LabelPlacerModel", "pairs", "()I"⟩, 21), (⟨"LabelPlacerModel", "priorities", "()I"⟩, 21), (⟨"LabelPlacerModel", "pushing", "()I"⟩, 21), (⟨"LabelPlacerModel", "mixes", "(J)V"⟩, 21)]
theorem lw_r5 : ∀ q ∈ lw_privs_5, lw_okq q := List.forall_mem_cons.mpr ⟨lw_p64, List.forall_mem_cons.mpr ⟨lw_p65, List.forall_mem_cons.mpr ⟨lw_p66, List.forall_mem_cons.mpr ⟨lw_p67, fun _ h => absurd h List.not_mem_nil⟩⟩⟩⟩
def lw_privs : List (MethodName × Nat) := lw_privs_1 ++ (lw_privs_2 ++ (lw_privs_3 ++ (lw_privs_4 ++ (lw_privs_5))))
def lw_tbl : List Cond := k2_sels lw_privs ++ tables_1
theorem lw_privs_ok : ∀ q ∈ lw_privs, lw_okq q := by
  show ∀ q ∈ lw_privs_1 ++ (lw_privs_2 ++ (lw_privs_3 ++ (lw_privs_4 ++ (lw_privs_5)))), lw_okq q
  exact List.forall_mem_append.mpr ⟨lw_r1, List.forall_mem_append.mpr ⟨lw_r2, List.forall_mem_append.mpr ⟨lw_r3, List.forall_mem_append.mpr ⟨lw_r4, lw_r5⟩⟩⟩⟩
end
section
/-! ===== BEGIN printed: names, fields, word lists, decode rows ===== -/
def RX0 : String := "LabelPlacer$Command"
def TX0 : u_T := fun k => match k with
  | 0 => ("LabelPlacer$Command", "kind", "I", false)
  | 1 => ("LabelPlacer$Command", "numbers", "[I", true)
  | _ => ("LabelPlacer$Command", "next", "I", false)
def tyX0 : Nat → FieldType := fun k => match k with
  | 0 => .int
  | 1 => .array .int
  | _ => .int
abbrev wsX00 : List Cond := u_ws RX0 TX0 3
theorem nmX0 : ∀ a, a < 3 → ∀ b, b < 3 → a ≠ b → (TX0 a).2.1 ≠ (TX0 b).2.1 := by decide +kernel
theorem tyX0_ok : ∀ k, k < 3 → parseFieldDescriptor (TX0 k).2.2.1 = some (tyX0 k) := by decide +kernel
abbrev cX0_init : ByteArray := prog_2_method_1_code
def yX0_init : MethodName := ⟨RX0, "<init>", "()V"⟩
abbrev cX0_read : ByteArray := prog_2_method_2_code
def yX0_read : MethodName := ⟨RX0, "read", "(LLabelPlacer$Text;)I"⟩
abbrev cX0_kindOf : ByteArray := prog_2_method_3_code
def yX0_kindOf : MethodName := ⟨RX0, "kindOf", "(LLabelPlacer$Text;II)I"⟩
abbrev cX0_skipBlanks : ByteArray := prog_2_method_4_code
def yX0_skipBlanks : MethodName := ⟨RX0, "skipBlanks", "(LLabelPlacer$Text;)V"⟩
abbrev cX0_readNumber : ByteArray := prog_2_method_5_code
def yX0_readNumber : MethodName := ⟨RX0, "readNumber", "(LLabelPlacer$Text;I)Z"⟩
def RX1 : String := "LabelPlacer$Labels"
def TX1 : u_T := fun k => match k with
  | 0 => ("LabelPlacer$Labels", "points", "LLabelPlacer$Points;", true)
  | 1 => ("LabelPlacer$Labels", "places", "LLabelPlacer$Places;", true)
  | _ => ("LabelPlacer$Labels", "shown", "[I", true)
def tyX1 : Nat → FieldType := fun k => match k with
  | 0 => .object "LabelPlacer$Points"
  | 1 => .object "LabelPlacer$Places"
  | _ => .array .int
abbrev wsX10 : List Cond := u_ws RX1 TX1 3
theorem nmX1 : ∀ a, a < 3 → ∀ b, b < 3 → a ≠ b → (TX1 a).2.1 ≠ (TX1 b).2.1 := by decide +kernel
theorem tyX1_ok : ∀ k, k < 3 → parseFieldDescriptor (TX1 k).2.2.1 = some (tyX1 k) := by decide +kernel
abbrev cX1_init : ByteArray := prog_3_method_1_code
def yX1_init : MethodName := ⟨RX1, "<init>", "(LLabelPlacer$Points;LLabelPlacer$Places;)V"⟩
abbrev cX1_sideOf : ByteArray := prog_3_method_2_code
def yX1_sideOf : MethodName := ⟨RX1, "sideOf", "(I)I"⟩
abbrev cX1_put : ByteArray := prog_3_method_3_code
def yX1_put : MethodName := ⟨RX1, "put", "(II)V"⟩
abbrev cX1_hide : ByteArray := prog_3_method_4_code
def yX1_hide : MethodName := ⟨RX1, "hide", "(I)V"⟩
abbrev cX1_isShown : ByteArray := prog_3_method_5_code
def yX1_isShown : MethodName := ⟨RX1, "isShown", "(I)Z"⟩
abbrev cX1_closeGap : ByteArray := prog_3_method_6_code
def yX1_closeGap : MethodName := ⟨RX1, "closeGap", "(I)V"⟩
abbrev cX1_dropLost : ByteArray := prog_3_method_7_code
def yX1_dropLost : MethodName := ⟨RX1, "dropLost", "()I"⟩
abbrev cX1_hideIfClashing : ByteArray := prog_3_method_8_code
def yX1_hideIfClashing : MethodName := ⟨RX1, "hideIfClashing", "(I)V"⟩
abbrev cX1_hideEach : ByteArray := prog_3_method_9_code
def yX1_hideEach : MethodName := ⟨RX1, "hideEach", "()I"⟩
abbrev cX1_manyShown : ByteArray := prog_3_method_10_code
def yX1_manyShown : MethodName := ⟨RX1, "manyShown", "()I"⟩
abbrev cX1_sumShown : ByteArray := prog_3_method_11_code
def yX1_sumShown : MethodName := ⟨RX1, "sumShown", "()I"⟩
abbrev cX1_ownerOf : ByteArray := prog_3_method_12_code
def yX1_ownerOf : MethodName := ⟨RX1, "ownerOf", "(II)I"⟩
abbrev cX1_lacksLabel : ByteArray := prog_3_method_13_code
def yX1_lacksLabel : MethodName := ⟨RX1, "lacksLabel", "(I)Z"⟩
abbrev cX1_clashing : ByteArray := prog_3_method_14_code
def yX1_clashing : MethodName := ⟨RX1, "clashing", "(II)I"⟩
abbrev cX1_isFree : ByteArray := prog_3_method_15_code
def yX1_isFree : MethodName := ⟨RX1, "isFree", "(II)Z"⟩
abbrev cX1_addFree : ByteArray := prog_3_method_16_code
def yX1_addFree : MethodName := ⟨RX1, "addFree", "()I"⟩
abbrev cX1_showOnLeastFree : ByteArray := prog_3_method_17_code
def yX1_showOnLeastFree : MethodName := ⟨RX1, "showOnLeastFree", "(I)Z"⟩
abbrev cX1_makeRoom : ByteArray := prog_3_method_18_code
def yX1_makeRoom : MethodName := ⟨RX1, "makeRoom", "()I"⟩
abbrev cX1_showByMoving : ByteArray := prog_3_method_19_code
def yX1_showByMoving : MethodName := ⟨RX1, "showByMoving", "(I)Z"⟩
abbrev cX1_firstClashing : ByteArray := prog_3_method_20_code
def yX1_firstClashing : MethodName := ⟨RX1, "firstClashing", "(II)I"⟩
abbrev cX1_moveAside : ByteArray := prog_3_method_21_code
def yX1_moveAside : MethodName := ⟨RX1, "moveAside", "(III)Z"⟩
abbrev cX1_pushAway : ByteArray := prog_3_method_22_code
def yX1_pushAway : MethodName := ⟨RX1, "pushAway", "()I"⟩
abbrev cX1_pushFirst : ByteArray := prog_3_method_23_code
def yX1_pushFirst : MethodName := ⟨RX1, "pushFirst", "()Z"⟩
abbrev cX1_sideToPush : ByteArray := prog_3_method_24_code
def yX1_sideToPush : MethodName := ⟨RX1, "sideToPush", "(I)I"⟩
abbrev cX1_outranksClashing : ByteArray := prog_3_method_25_code
def yX1_outranksClashing : MethodName := ⟨RX1, "outranksClashing", "(II)Z"⟩
abbrev cX1_hideClashing : ByteArray := prog_3_method_26_code
def yX1_hideClashing : MethodName := ⟨RX1, "hideClashing", "(II)V"⟩
abbrev cX1_manyThatCanPush : ByteArray := prog_3_method_27_code
def yX1_manyThatCanPush : MethodName := ⟨RX1, "manyThatCanPush", "()I"⟩
def RX2 : String := "LabelPlacer$Lines"
def TX2 : u_T := fun k => match k with
  | 0 => ("LabelPlacer$Lines", "many", "I", false)
  | 1 => ("LabelPlacer$Lines", "points", "LLabelPlacer$Points;", true)
  | 2 => ("LabelPlacer$Lines", "window", "LLabelPlacer$Window;", true)
  | 3 => ("LabelPlacer$Lines", "labels", "LLabelPlacer$Labels;", true)
  | 4 => ("LabelPlacer$Lines", "kept", "[I", true)
  | _ => ("LabelPlacer$Lines", "waiting", "[I", true)
def tyX2 : Nat → FieldType := fun k => match k with
  | 0 => .int
  | 1 => .object "LabelPlacer$Points"
  | 2 => .object "LabelPlacer$Window"
  | 3 => .object "LabelPlacer$Labels"
  | 4 => .array .int
  | _ => .array .int
abbrev wsX20 : List Cond := u_ws RX2 TX2 6
theorem nmX2 : ∀ a, a < 6 → ∀ b, b < 6 → a ≠ b → (TX2 a).2.1 ≠ (TX2 b).2.1 := by decide +kernel
theorem tyX2_ok : ∀ k, k < 6 → parseFieldDescriptor (TX2 k).2.2.1 = some (tyX2 k) := by decide +kernel
abbrev cX2_init : ByteArray := prog_4_method_1_code
def yX2_init : MethodName := ⟨RX2, "<init>", "(LLabelPlacer$Points;LLabelPlacer$Window;LLabelPlacer$Labels;)V"⟩
abbrev cX2_get : ByteArray := prog_4_method_2_code
def yX2_get : MethodName := ⟨RX2, "get", "(II)I"⟩
abbrev cX2_lay : ByteArray := prog_4_method_3_code
def yX2_lay : MethodName := ⟨RX2, "lay", "()I"⟩
abbrev cX2_slotRow : ByteArray := prog_4_method_4_code
def yX2_slotRow : MethodName := ⟨RX2, "slotRow", "(I)I"⟩
abbrev cX2_gatherWaiting : ByteArray := prog_4_method_5_code
def yX2_gatherWaiting : MethodName := ⟨RX2, "gatherWaiting", "()I"⟩
abbrev cX2_comesBefore : ByteArray := prog_4_method_6_code
def yX2_comesBefore : MethodName := ⟨RX2, "comesBefore", "(II)Z"⟩
abbrev cX2_keep : ByteArray := prog_4_method_7_code
def yX2_keep : MethodName := ⟨RX2, "keep", "(I)V"⟩
def RX3 : String := "LabelPlacer$Places"
def TX3 : u_T := fun k => match k with
  | 0 => ("LabelPlacer$Places", "points", "LLabelPlacer$Points;", true)
  | 1 => ("LabelPlacer$Places", "window", "LLabelPlacer$Window;", true)
  | 2 => ("LabelPlacer$Places", "left", "[I", true)
  | 3 => ("LabelPlacer$Places", "bottom", "[I", true)
  | 4 => ("LabelPlacer$Places", "right", "[I", true)
  | 5 => ("LabelPlacer$Places", "top", "[I", true)
  | _ => ("LabelPlacer$Places", "good", "[Z", true)
def tyX3 : Nat → FieldType := fun k => match k with
  | 0 => .object "LabelPlacer$Points"
  | 1 => .object "LabelPlacer$Window"
  | 2 => .array .int
  | 3 => .array .int
  | 4 => .array .int
  | 5 => .array .int
  | _ => .array .boolean
abbrev wsX30 : List Cond := u_ws RX3 TX3 7
theorem nmX3 : ∀ a, a < 7 → ∀ b, b < 7 → a ≠ b → (TX3 a).2.1 ≠ (TX3 b).2.1 := by decide +kernel
theorem tyX3_ok : ∀ k, k < 7 → parseFieldDescriptor (TX3 k).2.2.1 = some (tyX3 k) := by decide +kernel
abbrev cX3_init : ByteArray := prog_5_method_1_code
def yX3_init : MethodName := ⟨RX3, "<init>", "(LLabelPlacer$Points;LLabelPlacer$Window;)V"⟩
abbrev cX3_findAll : ByteArray := prog_5_method_2_code
def yX3_findAll : MethodName := ⟨RX3, "findAll", "()V"⟩
abbrev cX3_findLeft : ByteArray := prog_5_method_3_code
def yX3_findLeft : MethodName := ⟨RX3, "findLeft", "(II)I"⟩
abbrev cX3_findBottom : ByteArray := prog_5_method_4_code
def yX3_findBottom : MethodName := ⟨RX3, "findBottom", "(II)I"⟩
abbrev cX3_isGood : ByteArray := prog_5_method_5_code
def yX3_isGood : MethodName := ⟨RX3, "isGood", "(II)Z"⟩
abbrev cX3_isVisible : ByteArray := prog_5_method_6_code
def yX3_isVisible : MethodName := ⟨RX3, "isVisible", "(I)Z"⟩
abbrev cX3_visiblePoints : ByteArray := prog_5_method_7_code
def yX3_visiblePoints : MethodName := ⟨RX3, "visiblePoints", "()I"⟩
abbrev cX3_isPlace : ByteArray := prog_5_method_8_code
def yX3_isPlace : MethodName := ⟨RX3, "isPlace", "(II)Z"⟩
abbrev cX3_leftOf : ByteArray := prog_5_method_9_code
def yX3_leftOf : MethodName := ⟨RX3, "leftOf", "(II)I"⟩
abbrev cX3_bottomOf : ByteArray := prog_5_method_10_code
def yX3_bottomOf : MethodName := ⟨RX3, "bottomOf", "(II)I"⟩
abbrev cX3_covers : ByteArray := prog_5_method_11_code
def yX3_covers : MethodName := ⟨RX3, "covers", "(IIII)Z"⟩
abbrev cX3_manyOf : ByteArray := prog_5_method_12_code
def yX3_manyOf : MethodName := ⟨RX3, "manyOf", "(I)I"⟩
abbrev cX3_manyOfAll : ByteArray := prog_5_method_13_code
def yX3_manyOfAll : MethodName := ⟨RX3, "manyOfAll", "()I"⟩
abbrev cX3_doClash : ByteArray := prog_5_method_14_code
def yX3_doClash : MethodName := ⟨RX3, "doClash", "(IIII)Z"⟩
abbrev cX3_clashesOf : ByteArray := prog_5_method_15_code
def yX3_clashesOf : MethodName := ⟨RX3, "clashesOf", "(II)I"⟩
abbrev cX3_clashesBefore : ByteArray := prog_5_method_16_code
def yX3_clashesBefore : MethodName := ⟨RX3, "clashesBefore", "(III)I"⟩
abbrev cX3_clashingPairs : ByteArray := prog_5_method_17_code
def yX3_clashingPairs : MethodName := ⟨RX3, "clashingPairs", "()I"⟩
def RX4 : String := "LabelPlacer$Points"
def TX4 : u_T := fun k => match k with
  | 0 => ("LabelPlacer$Points", "many", "I", false)
  | 1 => ("LabelPlacer$Points", "values", "[I", true)
  | _ => ("LabelPlacer$Points", "order", "[I", true)
def tyX4 : Nat → FieldType := fun k => match k with
  | 0 => .int
  | 1 => .array .int
  | _ => .array .int
abbrev wsX40 : List Cond := u_ws RX4 TX4 3
theorem nmX4 : ∀ a, a < 3 → ∀ b, b < 3 → a ≠ b → (TX4 a).2.1 ≠ (TX4 b).2.1 := by decide +kernel
theorem tyX4_ok : ∀ k, k < 3 → parseFieldDescriptor (TX4 k).2.2.1 = some (tyX4 k) := by decide +kernel
abbrev cX4_init : ByteArray := prog_6_method_1_code
def yX4_init : MethodName := ⟨RX4, "<init>", "()V"⟩
abbrev cX4_allows : ByteArray := prog_6_method_2_code
def yX4_allows : MethodName := ⟨RX4, "allows", "(II)Z"⟩
abbrev cX4_has : ByteArray := prog_6_method_3_code
def yX4_has : MethodName := ⟨RX4, "has", "(I)Z"⟩
abbrev cX4_get : ByteArray := prog_6_method_4_code
def yX4_get : MethodName := ⟨RX4, "get", "(II)I"⟩
abbrev cX4_put : ByteArray := prog_6_method_5_code
def yX4_put : MethodName := ⟨RX4, "put", "(III)V"⟩
abbrev cX4_append : ByteArray := prog_6_method_6_code
def yX4_append : MethodName := ⟨RX4, "append", "(II)I"⟩
abbrev cX4_closeGap : ByteArray := prog_6_method_7_code
def yX4_closeGap : MethodName := ⟨RX4, "closeGap", "(I)V"⟩
abbrev cX4_isAt : ByteArray := prog_6_method_8_code
def yX4_isAt : MethodName := ⟨RX4, "isAt", "(II)Z"⟩
abbrev cX4_isIn : ByteArray := prog_6_method_9_code
def yX4_isIn : MethodName := ⟨RX4, "isIn", "(IIII)Z"⟩
abbrev cX4_putInOrder : ByteArray := prog_6_method_10_code
def yX4_putInOrder : MethodName := ⟨RX4, "putInOrder", "()V"⟩
abbrev cX4_inOrder : ByteArray := prog_6_method_11_code
def yX4_inOrder : MethodName := ⟨RX4, "inOrder", "(I)I"⟩
def RX5 : String := "LabelPlacer$Search"
def TX5 : u_T := fun k => match k with
  | 0 => ("LabelPlacer$Search", "points", "LLabelPlacer$Points;", true)
  | 1 => ("LabelPlacer$Search", "places", "LLabelPlacer$Places;", true)
  | 2 => ("LabelPlacer$Search", "candidates", "[I", true)
  | 3 => ("LabelPlacer$Search", "clashMasks", "[J", true)
  | _ => ("LabelPlacer$Search", "many", "I", false)
def tyX5 : Nat → FieldType := fun k => match k with
  | 0 => .object "LabelPlacer$Points"
  | 1 => .object "LabelPlacer$Places"
  | 2 => .array .int
  | 3 => .array .long
  | _ => .int
abbrev wsX50 : List Cond := u_ws RX5 TX5 5
theorem nmX5 : ∀ a, a < 5 → ∀ b, b < 5 → a ≠ b → (TX5 a).2.1 ≠ (TX5 b).2.1 := by decide +kernel
theorem tyX5_ok : ∀ k, k < 5 → parseFieldDescriptor (TX5 k).2.2.1 = some (tyX5 k) := by decide +kernel
abbrev cX5_init : ByteArray := prog_7_method_1_code
def yX5_init : MethodName := ⟨RX5, "<init>", "(LLabelPlacer$Points;LLabelPlacer$Places;)V"⟩
abbrev cX5_greatestSum : ByteArray := prog_7_method_2_code
def yX5_greatestSum : MethodName := ⟨RX5, "greatestSum", "()I"⟩
abbrev cX5_gatherCandidates : ByteArray := prog_7_method_3_code
def yX5_gatherCandidates : MethodName := ⟨RX5, "gatherCandidates", "()Z"⟩
abbrev cX5_maskOfClashes : ByteArray := prog_7_method_4_code
def yX5_maskOfClashes : MethodName := ⟨RX5, "maskOfClashes", "(II)J"⟩
abbrev cX5_bestFrom : ByteArray := prog_7_method_5_code
def yX5_bestFrom : MethodName := ⟨RX5, "bestFrom", "(LLabelPlacer$Search;IJII)I"⟩
abbrev cX5_sumInReach : ByteArray := prog_7_method_6_code
def yX5_sumInReach : MethodName := ⟨RX5, "sumInReach", "(IJ)I"⟩
abbrev cX5_priorityOf : ByteArray := prog_7_method_7_code
def yX5_priorityOf : MethodName := ⟨RX5, "priorityOf", "(I)I"⟩
def RX6 : String := "LabelPlacer$Text"
def TX6 : u_T := fun k => match k with
  | 0 => ("LabelPlacer$Text", "length", "I", false)
  | _ => ("LabelPlacer$Text", "bytes", "[B", true)
def tyX6 : Nat → FieldType := fun k => match k with
  | 0 => .int
  | _ => .array .byte
abbrev wsX60 : List Cond := u_ws RX6 TX6 2
theorem nmX6 : ∀ a, a < 2 → ∀ b, b < 2 → a ≠ b → (TX6 a).2.1 ≠ (TX6 b).2.1 := by decide +kernel
theorem tyX6_ok : ∀ k, k < 2 → parseFieldDescriptor (TX6 k).2.2.1 = some (tyX6 k) := by decide +kernel
abbrev cX6_init : ByteArray := prog_8_method_1_code
def yX6_init : MethodName := ⟨RX6, "<init>", "()V"⟩
abbrev cX6_append : ByteArray := prog_8_method_2_code
def yX6_append : MethodName := ⟨RX6, "append", "(I)V"⟩
abbrev cX6_at : ByteArray := prog_8_method_3_code
def yX6_at : MethodName := ⟨RX6, "at", "(I)I"⟩
abbrev cX6_isDigit : ByteArray := prog_8_method_4_code
def yX6_isDigit : MethodName := ⟨RX6, "isDigit", "(I)Z"⟩
abbrev cX6_isSmallLetter : ByteArray := prog_8_method_5_code
def yX6_isSmallLetter : MethodName := ⟨RX6, "isSmallLetter", "(I)Z"⟩
abbrev cX6_isWord : ByteArray := prog_8_method_6_code
def yX6_isWord : MethodName := ⟨RX6, "isWord", "(IILjava/lang/String;)Z"⟩
def RX7 : String := "LabelPlacer$Window"
def TX7 : u_T := fun k => match k with
  | 0 => ("LabelPlacer$Window", "x", "I", false)
  | 1 => ("LabelPlacer$Window", "y", "I", false)
  | 2 => ("LabelPlacer$Window", "width", "I", false)
  | _ => ("LabelPlacer$Window", "height", "I", false)
def tyX7 : Nat → FieldType := fun k => match k with
  | 0 => .int
  | 1 => .int
  | 2 => .int
  | _ => .int
abbrev wsX70 : List Cond := u_ws RX7 TX7 4
theorem nmX7 : ∀ a, a < 4 → ∀ b, b < 4 → a ≠ b → (TX7 a).2.1 ≠ (TX7 b).2.1 := by decide +kernel
theorem tyX7_ok : ∀ k, k < 4 → parseFieldDescriptor (TX7 k).2.2.1 = some (tyX7 k) := by decide +kernel
abbrev cX7_init : ByteArray := prog_9_method_1_code
def yX7_init : MethodName := ⟨RX7, "<init>", "()V"⟩
abbrev cX7_allows : ByteArray := prog_9_method_2_code
def yX7_allows : MethodName := ⟨RX7, "allows", "(JJII)Z"⟩
abbrev cX7_put : ByteArray := prog_9_method_3_code
def yX7_put : MethodName := ⟨RX7, "put", "(IIII)V"⟩
abbrev cX7_holds : ByteArray := prog_9_method_4_code
def yX7_holds : MethodName := ⟨RX7, "holds", "(IIII)Z"⟩
abbrev cX7_greatestX : ByteArray := prog_9_method_5_code
def yX7_greatestX : MethodName := ⟨RX7, "greatestX", "()I"⟩
abbrev cX7_greatestY : ByteArray := prog_9_method_6_code
def yX7_greatestY : MethodName := ⟨RX7, "greatestY", "()I"⟩
def RX8 : String := "LabelPlacer"
def TX8 : u_T := fun k => match k with
  | 0 => ("LabelPlacer", "points", "LLabelPlacer$Points;", true)
  | 1 => ("LabelPlacer", "window", "LLabelPlacer$Window;", true)
  | 2 => ("LabelPlacer", "places", "LLabelPlacer$Places;", true)
  | 3 => ("LabelPlacer", "labels", "LLabelPlacer$Labels;", true)
  | 4 => ("LabelPlacer", "search", "LLabelPlacer$Search;", true)
  | 5 => ("LabelPlacer", "lines", "LLabelPlacer$Lines;", true)
  | 6 => ("LabelPlacer", "text", "LLabelPlacer$Text;", true)
  | _ => ("LabelPlacer", "command", "LLabelPlacer$Command;", true)
def tyX8 : Nat → FieldType := fun k => match k with
  | 0 => .object "LabelPlacer$Points"
  | 1 => .object "LabelPlacer$Window"
  | 2 => .object "LabelPlacer$Places"
  | 3 => .object "LabelPlacer$Labels"
  | 4 => .object "LabelPlacer$Search"
  | 5 => .object "LabelPlacer$Lines"
  | 6 => .object "LabelPlacer$Text"
  | _ => .object "LabelPlacer$Command"
abbrev wsX80 : List Cond := u_ws RX8 TX8 8
theorem nmX8 : ∀ a, a < 8 → ∀ b, b < 8 → a ≠ b → (TX8 a).2.1 ≠ (TX8 b).2.1 := by decide +kernel
theorem tyX8_ok : ∀ k, k < 8 → parseFieldDescriptor (TX8 k).2.2.1 = some (tyX8 k) := by decide +kernel
abbrev cX8_init : ByteArray := prog_1_method_1_code
def yX8_init : MethodName := ⟨RX8, "<init>", "()V"⟩
abbrev cX8_addPoint : ByteArray := prog_1_method_2_code
def yX8_addPoint : MethodName := ⟨RX8, "addPoint", "(IIIIII)I"⟩
abbrev cX8_removePoint : ByteArray := prog_1_method_3_code
def yX8_removePoint : MethodName := ⟨RX8, "removePoint", "(I)I"⟩
abbrev cX8_setPoint : ByteArray := prog_1_method_4_code
def yX8_setPoint : MethodName := ⟨RX8, "setPoint", "(III)I"⟩
abbrev cX8_point : ByteArray := prog_1_method_5_code
def yX8_point : MethodName := ⟨RX8, "point", "(II)I"⟩
abbrev cX8_setWindow : ByteArray := prog_1_method_6_code
def yX8_setWindow : MethodName := ⟨RX8, "setWindow", "(IIII)I"⟩
abbrev cX8_pan : ByteArray := prog_1_method_7_code
def yX8_pan : MethodName := ⟨RX8, "pan", "(II)I"⟩
abbrev cX8_renew : ByteArray := prog_1_method_8_code
def yX8_renew : MethodName := ⟨RX8, "renew", "()I"⟩
abbrev cX8_place : ByteArray := prog_1_method_9_code
def yX8_place : MethodName := ⟨RX8, "place", "(III)I"⟩
abbrev cX8_clash : ByteArray := prog_1_method_10_code
def yX8_clash : MethodName := ⟨RX8, "clash", "(IIII)I"⟩
abbrev cX8_labelAt : ByteArray := prog_1_method_11_code
def yX8_labelAt : MethodName := ⟨RX8, "labelAt", "(II)I"⟩
abbrev cX8_isSide : ByteArray := prog_1_method_12_code
def yX8_isSide : MethodName := ⟨RX8, "isSide", "(I)Z"⟩
abbrev cX8_fill : ByteArray := prog_1_method_13_code
def yX8_fill : MethodName := ⟨RX8, "fill", "()I"⟩
abbrev cX8_improve : ByteArray := prog_1_method_14_code
def yX8_improve : MethodName := ⟨RX8, "improve", "()I"⟩
abbrev cX8_push : ByteArray := prog_1_method_15_code
def yX8_push : MethodName := ⟨RX8, "push", "()I"⟩
abbrev cX8_show : ByteArray := prog_1_method_16_code
def yX8_show : MethodName := ⟨RX8, "show", "(II)I"⟩
abbrev cX8_hideAll : ByteArray := prog_1_method_17_code
def yX8_hideAll : MethodName := ⟨RX8, "hideAll", "()I"⟩
abbrev cX8_greatest : ByteArray := prog_1_method_18_code
def yX8_greatest : MethodName := ⟨RX8, "greatest", "()I"⟩
abbrev cX8_leaders : ByteArray := prog_1_method_19_code
def yX8_leaders : MethodName := ⟨RX8, "leaders", "()I"⟩
abbrev cX8_leader : ByteArray := prog_1_method_20_code
def yX8_leader : MethodName := ⟨RX8, "leader", "(II)I"⟩
abbrev cX8_type : ByteArray := prog_1_method_21_code
def yX8_type : MethodName := ⟨RX8, "type", "(I)I"⟩
abbrev cX8_clear : ByteArray := prog_1_method_22_code
def yX8_clear : MethodName := ⟨RX8, "clear", "()I"⟩
abbrev cX8_run : ByteArray := prog_1_method_23_code
def yX8_run : MethodName := ⟨RX8, "run", "()I"⟩
abbrev cX8_count : ByteArray := prog_1_method_24_code
def yX8_count : MethodName := ⟨RX8, "count", "(I)I"⟩
abbrev cX8_digest : ByteArray := prog_1_method_25_code
def yX8_digest : MethodName := ⟨RX8, "digest", "()J"⟩
abbrev cX8_withPoint : ByteArray := prog_1_method_26_code
def yX8_withPoint : MethodName := ⟨RX8, "withPoint", "(JI)J"⟩
def RX9 : String := "LabelPlacerModel"
def TX9 : u_T := fun k => match k with
  | 0 => ("LabelPlacerModel", "m", "[I", true)
  | 1 => ("LabelPlacerModel", "many", "I", false)
  | 2 => ("LabelPlacerModel", "wx", "I", false)
  | 3 => ("LabelPlacerModel", "wy", "I", false)
  | 4 => ("LabelPlacerModel", "ww", "I", false)
  | 5 => ("LabelPlacerModel", "wh", "I", false)
  | 6 => ("LabelPlacerModel", "place", "[Z", true)
  | 7 => ("LabelPlacerModel", "order", "[I", true)
  | 8 => ("LabelPlacerModel", "tried", "[I", true)
  | 9 => ("LabelPlacerModel", "those", "[I", true)
  | 10 => ("LabelPlacerModel", "leader", "[I", true)
  | 11 => ("LabelPlacerModel", "leaders", "I", false)
  | 12 => ("LabelPlacerModel", "queue", "[I", true)
  | 13 => ("LabelPlacerModel", "text", "[I", true)
  | 14 => ("LabelPlacerModel", "textLength", "I", false)
  | 15 => ("LabelPlacerModel", "at", "I", false)
  | 16 => ("LabelPlacerModel", "fault", "I", false)
  | 17 => ("LabelPlacerModel", "word", "[I", true)
  | 18 => ("LabelPlacerModel", "letters", "I", false)
  | 19 => ("LabelPlacerModel", "read", "[I", true)
  | _ => ("LabelPlacerModel", "hash", "J", false)
def tyX9 : Nat → FieldType := fun k => match k with
  | 0 => .array .int
  | 1 => .int
  | 2 => .int
  | 3 => .int
  | 4 => .int
  | 5 => .int
  | 6 => .array .boolean
  | 7 => .array .int
  | 8 => .array .int
  | 9 => .array .int
  | 10 => .array .int
  | 11 => .int
  | 12 => .array .int
  | 13 => .array .int
  | 14 => .int
  | 15 => .int
  | 16 => .int
  | 17 => .array .int
  | 18 => .int
  | 19 => .array .int
  | _ => .long
abbrev wsX90 : List Cond := u_ws RX9 TX9 21
theorem nmX9 : ∀ a, a < 21 → ∀ b, b < 21 → a ≠ b → (TX9 a).2.1 ≠ (TX9 b).2.1 := by decide +kernel
theorem tyX9_ok : ∀ k, k < 21 → parseFieldDescriptor (TX9 k).2.2.1 = some (tyX9 k) := by decide +kernel
abbrev cX9_init : ByteArray := prog_11_method_1_code
def yX9_init : MethodName := ⟨RX9, "<init>", "()V"⟩
abbrev cX9_in : ByteArray := prog_11_method_2_code
def yX9_in : MethodName := ⟨RX9, "in", "(JJJ)Z"⟩
abbrev cX9_isPoint : ByteArray := prog_11_method_3_code
def yX9_isPoint : MethodName := ⟨RX9, "isPoint", "(I)Z"⟩
abbrev cX9_isVisible : ByteArray := prog_11_method_4_code
def yX9_isVisible : MethodName := ⟨RX9, "isVisible", "(I)Z"⟩
abbrev cX9_left : ByteArray := prog_11_method_5_code
def yX9_left : MethodName := ⟨RX9, "left", "(II)I"⟩
abbrev cX9_bottom : ByteArray := prog_11_method_6_code
def yX9_bottom : MethodName := ⟨RX9, "bottom", "(II)I"⟩
abbrev cX9_covers : ByteArray := prog_11_method_7_code
def yX9_covers : MethodName := ⟨RX9, "covers", "(IIII)Z"⟩
abbrev cX9_finds : ByteArray := prog_11_method_8_code
def yX9_finds : MethodName := ⟨RX9, "finds", "(II)Z"⟩
abbrev cX9_findsAll : ByteArray := prog_11_method_9_code
def yX9_findsAll : MethodName := ⟨RX9, "findsAll", "()V"⟩
abbrev cX9_meet : ByteArray := prog_11_method_10_code
def yX9_meet : MethodName := ⟨RX9, "meet", "(IIII)Z"⟩
abbrev cX9_clashes : ByteArray := prog_11_method_11_code
def yX9_clashes : MethodName := ⟨RX9, "clashes", "(III)I"⟩
abbrev cX9_clashing : ByteArray := prog_11_method_12_code
def yX9_clashing : MethodName := ⟨RX9, "clashing", "(II)I"⟩
abbrev cX9_settles : ByteArray := prog_11_method_13_code
def yX9_settles : MethodName := ⟨RX9, "settles", "()V"⟩
abbrev cX9_shown : ByteArray := prog_11_method_14_code
def yX9_shown : MethodName := ⟨RX9, "shown", "()I"⟩
abbrev cX9_orders : ByteArray := prog_11_method_15_code
def yX9_orders : MethodName := ⟨RX9, "orders", "()V"⟩
abbrev cX9_isProperty : ByteArray := prog_11_method_16_code
def yX9_isProperty : MethodName := ⟨RX9, "isProperty", "(II)Z"⟩
abbrev cX9_pointAt : ByteArray := prog_11_method_17_code
def yX9_pointAt : MethodName := ⟨RX9, "pointAt", "(II)I"⟩
abbrev cX9_addPoint : ByteArray := prog_11_method_18_code
def yX9_addPoint : MethodName := ⟨RX9, "addPoint", "(IIIIII)I"⟩
abbrev cX9_removePoint : ByteArray := prog_11_method_19_code
def yX9_removePoint : MethodName := ⟨RX9, "removePoint", "(I)I"⟩
abbrev cX9_setPoint : ByteArray := prog_11_method_20_code
def yX9_setPoint : MethodName := ⟨RX9, "setPoint", "(III)I"⟩
abbrev cX9_placesOf : ByteArray := prog_11_method_21_code
def yX9_placesOf : MethodName := ⟨RX9, "placesOf", "(I)I"⟩
abbrev cX9_part : ByteArray := prog_11_method_22_code
def yX9_part : MethodName := ⟨RX9, "part", "(II)I"⟩
abbrev cX9_point : ByteArray := prog_11_method_23_code
def yX9_point : MethodName := ⟨RX9, "point", "(II)I"⟩
abbrev cX9_visible : ByteArray := prog_11_method_24_code
def yX9_visible : MethodName := ⟨RX9, "visible", "()I"⟩
abbrev cX9_setWindow : ByteArray := prog_11_method_25_code
def yX9_setWindow : MethodName := ⟨RX9, "setWindow", "(IIII)I"⟩
abbrev cX9_pan : ByteArray := prog_11_method_26_code
def yX9_pan : MethodName := ⟨RX9, "pan", "(II)I"⟩
abbrev cX9_meets : ByteArray := prog_11_method_27_code
def yX9_meets : MethodName := ⟨RX9, "meets", "(II)I"⟩
abbrev cX9_placePart : ByteArray := prog_11_method_28_code
def yX9_placePart : MethodName := ⟨RX9, "placePart", "(III)I"⟩
abbrev cX9_isSide : ByteArray := prog_11_method_29_code
def yX9_isSide : MethodName := ⟨RX9, "isSide", "(I)Z"⟩
abbrev cX9_place : ByteArray := prog_11_method_30_code
def yX9_place : MethodName := ⟨RX9, "place", "(III)I"⟩
abbrev cX9_clash : ByteArray := prog_11_method_31_code
def yX9_clash : MethodName := ⟨RX9, "clash", "(IIII)I"⟩
abbrev cX9_labelAt : ByteArray := prog_11_method_32_code
def yX9_labelAt : MethodName := ⟨RX9, "labelAt", "(II)I"⟩
abbrev cX9_wants : ByteArray := prog_11_method_33_code
def yX9_wants : MethodName := ⟨RX9, "wants", "(I)Z"⟩
abbrev cX9_fill : ByteArray := prog_11_method_34_code
def yX9_fill : MethodName := ⟨RX9, "fill", "()I"⟩
abbrev cX9_escapes : ByteArray := prog_11_method_35_code
def yX9_escapes : MethodName := ⟨RX9, "escapes", "(III)I"⟩
abbrev cX9_makesRoom : ByteArray := prog_11_method_36_code
def yX9_makesRoom : MethodName := ⟨RX9, "makesRoom", "(II)Z"⟩
abbrev cX9_improve : ByteArray := prog_11_method_37_code
def yX9_improve : MethodName := ⟨RX9, "improve", "()I"⟩
abbrev cX9_isStronger : ByteArray := prog_11_method_38_code
def yX9_isStronger : MethodName := ⟨RX9, "isStronger", "(II)Z"⟩
abbrev cX9_strongest : ByteArray := prog_11_method_39_code
def yX9_strongest : MethodName := ⟨RX9, "strongest", "(I)I"⟩
abbrev cX9_pushes : ByteArray := prog_11_method_40_code
def yX9_pushes : MethodName := ⟨RX9, "pushes", "()Z"⟩
abbrev cX9_push : ByteArray := prog_11_method_41_code
def yX9_push : MethodName := ⟨RX9, "push", "()I"⟩
abbrev cX9_show : ByteArray := prog_11_method_42_code
def yX9_show : MethodName := ⟨RX9, "show", "(II)I"⟩
abbrev cX9_hideAll : ByteArray := prog_11_method_43_code
def yX9_hideAll : MethodName := ⟨RX9, "hideAll", "()I"⟩
abbrev cX9_fitsWith : ByteArray := prog_11_method_44_code
def yX9_fitsWith : MethodName := ⟨RX9, "fitsWith", "(I)Z"⟩
abbrev cX9_greatest : ByteArray := prog_11_method_45_code
def yX9_greatest : MethodName := ⟨RX9, "greatest", "()I"⟩
abbrev cX9_sum : ByteArray := prog_11_method_46_code
def yX9_sum : MethodName := ⟨RX9, "sum", "(I)I"⟩
abbrev cX9_isAhead : ByteArray := prog_11_method_47_code
def yX9_isAhead : MethodName := ⟨RX9, "isAhead", "(II)Z"⟩
abbrev cX9_leaders : ByteArray := prog_11_method_48_code
def yX9_leaders : MethodName := ⟨RX9, "leaders", "()I"⟩
abbrev cX9_leader : ByteArray := prog_11_method_49_code
def yX9_leader : MethodName := ⟨RX9, "leader", "(II)I"⟩
abbrev cX9_type : ByteArray := prog_11_method_50_code
def yX9_type : MethodName := ⟨RX9, "type", "(I)I"⟩
abbrev cX9_clear : ByteArray := prog_11_method_51_code
def yX9_clear : MethodName := ⟨RX9, "clear", "()I"⟩
abbrev cX9_next : ByteArray := prog_11_method_52_code
def yX9_next : MethodName := ⟨RX9, "next", "()I"⟩
abbrev cX9_skips : ByteArray := prog_11_method_53_code
def yX9_skips : MethodName := ⟨RX9, "skips", "()V"⟩
abbrev cX9_fails : ByteArray := prog_11_method_54_code
def yX9_fails : MethodName := ⟨RX9, "fails", "(I)V"⟩
abbrev cX9_readsWord : ByteArray := prog_11_method_55_code
def yX9_readsWord : MethodName := ⟨RX9, "readsWord", "()V"⟩
abbrev cX9_isWord : ByteArray := prog_11_method_56_code
def yX9_isWord : MethodName := ⟨RX9, "isWord", "(IIIIIII)Z"⟩
abbrev cX9_command : ByteArray := prog_11_method_57_code
def yX9_command : MethodName := ⟨RX9, "command", "()I"⟩
abbrev cX9_readsNumber : ByteArray := prog_11_method_58_code
def yX9_readsNumber : MethodName := ⟨RX9, "readsNumber", "()I"⟩
abbrev cX9_readsWhole : ByteArray := prog_11_method_59_code
def yX9_readsWhole : MethodName := ⟨RX9, "readsWhole", "()I"⟩
abbrev cX9_reads : ByteArray := prog_11_method_60_code
def yX9_reads : MethodName := ⟨RX9, "reads", "()I"⟩
abbrev cX9_run : ByteArray := prog_11_method_61_code
def yX9_run : MethodName := ⟨RX9, "run", "()I"⟩
abbrev cX9_places : ByteArray := prog_11_method_62_code
def yX9_places : MethodName := ⟨RX9, "places", "()I"⟩
abbrev cX9_pairs : ByteArray := prog_11_method_63_code
def yX9_pairs : MethodName := ⟨RX9, "pairs", "()I"⟩
abbrev cX9_priorities : ByteArray := prog_11_method_64_code
def yX9_priorities : MethodName := ⟨RX9, "priorities", "()I"⟩
abbrev cX9_pushing : ByteArray := prog_11_method_65_code
def yX9_pushing : MethodName := ⟨RX9, "pushing", "()I"⟩
abbrev cX9_number : ByteArray := prog_11_method_66_code
def yX9_number : MethodName := ⟨RX9, "number", "(I)I"⟩
abbrev cX9_count : ByteArray := prog_11_method_67_code
def yX9_count : MethodName := ⟨RX9, "count", "(I)I"⟩
abbrev cX9_mixes : ByteArray := prog_11_method_68_code
def yX9_mixes : MethodName := ⟨RX9, "mixes", "(J)V"⟩
abbrev cX9_digest : ByteArray := prog_11_method_69_code
def yX9_digest : MethodName := ⟨RX9, "digest", "()J"⟩
def RJx145de : String := "java/io/Serializable"
def TJx145de : u_T := fun k => match k with
  | _ => ("", "", "", false)
def tyJx145de : Nat → FieldType := fun k => match k with
  | _ => .int
abbrev wsJx145de0 : List Cond := u_ws RJx145de TJx145de 0
theorem nmJx145de : ∀ a, a < 0 → ∀ b, b < 0 → a ≠ b → (TJx145de a).2.1 ≠ (TJx145de b).2.1 := by decide +kernel
theorem tyJx145de_ok : ∀ k, k < 0 → parseFieldDescriptor (TJx145de k).2.2.1 = some (tyJx145de k) := by decide +kernel
def RJx9f9b0 : String := "java/lang/CharSequence"
def TJx9f9b0 : u_T := fun k => match k with
  | _ => ("", "", "", false)
def tyJx9f9b0 : Nat → FieldType := fun k => match k with
  | _ => .int
abbrev wsJx9f9b00 : List Cond := u_ws RJx9f9b0 TJx9f9b0 0
theorem nmJx9f9b0 : ∀ a, a < 0 → ∀ b, b < 0 → a ≠ b → (TJx9f9b0 a).2.1 ≠ (TJx9f9b0 b).2.1 := by decide +kernel
theorem tyJx9f9b0_ok : ∀ k, k < 0 → parseFieldDescriptor (TJx9f9b0 k).2.2.1 = some (tyJx9f9b0 k) := by decide +kernel
def RJxb160c : String := "java/lang/Comparable"
def TJxb160c : u_T := fun k => match k with
  | _ => ("", "", "", false)
def tyJxb160c : Nat → FieldType := fun k => match k with
  | _ => .int
abbrev wsJxb160c0 : List Cond := u_ws RJxb160c TJxb160c 0
theorem nmJxb160c : ∀ a, a < 0 → ∀ b, b < 0 → a ≠ b → (TJxb160c a).2.1 ≠ (TJxb160c b).2.1 := by decide +kernel
theorem tyJxb160c_ok : ∀ k, k < 0 → parseFieldDescriptor (TJxb160c k).2.2.1 = some (tyJxb160c k) := by decide +kernel
def RJ9 : String := "java/lang/Math"
def TJ9 : u_T := fun k => match k with
  | _ => ("", "", "", false)
def tyJ9 : Nat → FieldType := fun k => match k with
  | _ => .int
abbrev wsJ90 : List Cond := u_ws RJ9 TJ9 0
theorem nmJ9 : ∀ a, a < 0 → ∀ b, b < 0 → a ≠ b → (TJ9 a).2.1 ≠ (TJ9 b).2.1 := by decide +kernel
theorem tyJ9_ok : ∀ k, k < 0 → parseFieldDescriptor (TJ9 k).2.2.1 = some (tyJ9 k) := by decide +kernel
abbrev cJ9_abs_0f7a4 : ByteArray := prog_12_method_59_code
def yJ9_abs_0f7a4 : MethodName := ⟨RJ9, "abs", "(I)I"⟩
abbrev cJ9_max_7cf53 : ByteArray := prog_12_method_65_code
def yJ9_max_7cf53 : MethodName := ⟨RJ9, "max", "(II)I"⟩
def RJ0 : String := "java/lang/String"
def TJ0 : u_T := fun k => match k with
  | _ => ("", "", "", false)
def tyJ0 : Nat → FieldType := fun k => match k with
  | _ => .int
abbrev wsJ00 : List Cond := u_ws RJ0 TJ0 0
theorem nmJ0 : ∀ a, a < 0 → ∀ b, b < 0 → a ≠ b → (TJ0 a).2.1 ≠ (TJ0 b).2.1 := by decide +kernel
theorem tyJ0_ok : ∀ k, k < 0 → parseFieldDescriptor (TJ0 k).2.2.1 = some (tyJ0 k) := by decide +kernel
abbrev cJ0_length_8abf5 : ByteArray := prog_13_method_54_code
def yJ0_length_8abf5 : MethodName := ⟨RJ0, "length", "()I"⟩
abbrev cJ0_charAt_5068e : ByteArray := prog_13_method_56_code
def yJ0_charAt_5068e : MethodName := ⟨RJ0, "charAt", "(I)C"⟩
abbrev cJ0_coder_7d493 : ByteArray := prog_13_method_152_code
def yJ0_coder_7d493 : MethodName := ⟨RJ0, "coder", "()B"⟩
abbrev cJ0_isLatin1_aae02 : ByteArray := prog_13_method_154_code
def yJ0_isLatin1_aae02 : MethodName := ⟨RJ0, "isLatin1", "()Z"⟩
abbrev cJ0_checkIndex_df160 : ByteArray := prog_13_method_155_code
def yJ0_checkIndex_df160 : MethodName := ⟨RJ0, "checkIndex", "(II)V"⟩
def RJ1 : String := "java/lang/StringLatin1"
def TJ1 : u_T := fun k => match k with
  | _ => ("", "", "", false)
def tyJ1 : Nat → FieldType := fun k => match k with
  | _ => .int
abbrev wsJ10 : List Cond := u_ws RJ1 TJ1 0
theorem nmJ1 : ∀ a, a < 0 → ∀ b, b < 0 → a ≠ b → (TJ1 a).2.1 ≠ (TJ1 b).2.1 := by decide +kernel
theorem tyJ1_ok : ∀ k, k < 0 → parseFieldDescriptor (TJ1 k).2.2.1 = some (tyJ1 k) := by decide +kernel
abbrev cJ1_charAt_3b067 : ByteArray := prog_14_method_2_code
def yJ1_charAt_3b067 : MethodName := ⟨RJ1, "charAt", "([BI)C"⟩
def RJ2 : String := "java/lang/StringUTF16"
def TJ2 : u_T := fun k => match k with
  | _ => ("", "", "", false)
def tyJ2 : Nat → FieldType := fun k => match k with
  | _ => .int
abbrev wsJ20 : List Cond := u_ws RJ2 TJ2 0
theorem nmJ2 : ∀ a, a < 0 → ∀ b, b < 0 → a ≠ b → (TJ2 a).2.1 ≠ (TJ2 b).2.1 := by decide +kernel
theorem tyJ2_ok : ∀ k, k < 0 → parseFieldDescriptor (TJ2 k).2.2.1 = some (tyJ2 k) := by decide +kernel
abbrev cJ2_getChar_3b067 : ByteArray := prog_15_method_5_code
def yJ2_getChar_3b067 : MethodName := ⟨RJ2, "getChar", "([BI)C"⟩
abbrev cJ2_length_9d52b : ByteArray := prog_15_method_6_code
def yJ2_length_9d52b : MethodName := ⟨RJ2, "length", "([B)I"⟩
abbrev cJ2_charAt_3b067 : ByteArray := prog_15_method_83_code
def yJ2_charAt_3b067 : MethodName := ⟨RJ2, "charAt", "([BI)C"⟩
abbrev cJ2_checkIndex_2214a : ByteArray := prog_15_method_91_code
def yJ2_checkIndex_2214a : MethodName := ⟨RJ2, "checkIndex", "(I[B)V"⟩
def RJxfd54e : String := "java/lang/constant/Constable"
def TJxfd54e : u_T := fun k => match k with
  | _ => ("", "", "", false)
def tyJxfd54e : Nat → FieldType := fun k => match k with
  | _ => .int
abbrev wsJxfd54e0 : List Cond := u_ws RJxfd54e TJxfd54e 0
theorem nmJxfd54e : ∀ a, a < 0 → ∀ b, b < 0 → a ≠ b → (TJxfd54e a).2.1 ≠ (TJxfd54e b).2.1 := by decide +kernel
theorem tyJxfd54e_ok : ∀ k, k < 0 → parseFieldDescriptor (TJxfd54e k).2.2.1 = some (tyJxfd54e k) := by decide +kernel
def RJx3cf43 : String := "java/lang/constant/ConstantDesc"
def TJx3cf43 : u_T := fun k => match k with
  | _ => ("", "", "", false)
def tyJx3cf43 : Nat → FieldType := fun k => match k with
  | _ => .int
abbrev wsJx3cf430 : List Cond := u_ws RJx3cf43 TJx3cf43 0
theorem nmJx3cf43 : ∀ a, a < 0 → ∀ b, b < 0 → a ≠ b → (TJx3cf43 a).2.1 ≠ (TJx3cf43 b).2.1 := by decide +kernel
theorem tyJx3cf43_ok : ∀ k, k < 0 → parseFieldDescriptor (TJx3cf43 k).2.2.1 = some (tyJx3cf43 k) := by decide +kernel
def RJ7 : String := "java/util/Arrays"
def TJ7 : u_T := fun k => match k with
  | _ => ("", "", "", false)
def tyJ7 : Nat → FieldType := fun k => match k with
  | _ => .int
abbrev wsJ70 : List Cond := u_ws RJ7 TJ7 0
theorem nmJ7 : ∀ a, a < 0 → ∀ b, b < 0 → a ≠ b → (TJ7 a).2.1 ≠ (TJ7 b).2.1 := by decide +kernel
theorem tyJ7_ok : ∀ k, k < 0 → parseFieldDescriptor (TJ7 k).2.2.1 = some (tyJ7 k) := by decide +kernel
abbrev cJ7_fill_53178 : ByteArray := prog_16_method_103_code
def yJ7_fill_53178 : MethodName := ⟨RJ7, "fill", "([II)V"⟩
def RJ3 : String := "jdk/internal/util/Preconditions"
def TJ3 : u_T := fun k => match k with
  | _ => ("", "", "", false)
def tyJ3 : Nat → FieldType := fun k => match k with
  | _ => .int
abbrev wsJ30 : List Cond := u_ws RJ3 TJ3 0
theorem nmJ3 : ∀ a, a < 0 → ∀ b, b < 0 → a ≠ b → (TJ3 a).2.1 ≠ (TJ3 b).2.1 := by decide +kernel
theorem tyJ3_ok : ∀ k, k < 0 → parseFieldDescriptor (TJ3 k).2.2.1 = some (tyJ3 k) := by decide +kernel
abbrev cJ3_checkIndex_8e157 : ByteArray := prog_17_method_11_code
def yJ3_checkIndex_8e157 : MethodName := ⟨RJ3, "checkIndex", "(IILjava/util/function/BiFunction;)I"⟩
def RL : String := "LabelPlacerLaw"
abbrev cL_law : ByteArray := code
def yL_law : MethodName := ⟨RL, "law", "([I)Z"⟩
abbrev vwCl : List vw_C := [(RX0, TX0, 3), (RX1, TX1, 3), (RX2, TX2, 6), (RX3, TX3, 7), (RX4, TX4, 3), (RX5, TX5, 5), (RX6, TX6, 2), (RX7, TX7, 4), (RX8, TX8, 8), (RX9, TX9, 21)]
/-- the words that stay good over calls -/
def qx_tb : List Cond := lw_tbl.filter goodWord
theorem inX0 : ∀ w ∈ wsX00, w ∈ qx_tb := by decide +kernel
theorem inX1 : ∀ w ∈ wsX10, w ∈ qx_tb := by decide +kernel
theorem inX2 : ∀ w ∈ wsX20, w ∈ qx_tb := by decide +kernel
theorem inX3 : ∀ w ∈ wsX30, w ∈ qx_tb := by decide +kernel
theorem inX4 : ∀ w ∈ wsX40, w ∈ qx_tb := by decide +kernel
theorem inX5 : ∀ w ∈ wsX50, w ∈ qx_tb := by decide +kernel
theorem inX6 : ∀ w ∈ wsX60, w ∈ qx_tb := by decide +kernel
theorem inX7 : ∀ w ∈ wsX70, w ∈ qx_tb := by decide +kernel
theorem inX8 : ∀ w ∈ wsX80, w ∈ qx_tb := by decide +kernel
theorem inX9 : ∀ w ∈ wsX90, w ∈ qx_tb := by decide +kernel
theorem qx_tbOf {w : Cond} (h : w ∈ lw_tbl) (h2 : goodWord w = true) : w ∈ qx_tb := List.mem_filter.mpr ⟨h, h2⟩
theorem qx_tbIn {w : Cond} (h : w ∈ qx_tb) : w ∈ lw_tbl := (List.mem_filter.mp h).1
theorem qx_goodIn {w : Cond} (h : w ∈ qx_tb) : GoodIn qx_tb (w :: qx_tb) := fun v hv => by
  have h1 : v ∈ qx_tb := by
    rcases List.mem_cons.mp hv with rfl | h2
    · exact h
    · exact h2
  exact ⟨h1, good_of_word (List.mem_filter.mp h1).2⟩
end
section
/-! THE LAYER: a method runs from a picture of the cells to another, in numbers alone -/
/-- the numbers of a world: of each cell its ints, of each cell its longs -/
abbrev QS : Type := (Nat → Nat → Int32) × (Nat → Nat → Int64)
def qx_up (σ : QS) (c i : Nat) (v : Int32) : QS := (fun k => if k = c then upd (σ.1 c) i v else σ.1 k, σ.2)
def qx_upl (σ : QS) (c i : Nat) (v : Int64) : QS := (σ.1, fun k => if k = c then vp_updL (σ.2 c) i v else σ.2 k)
/-- launch, class numbers, array classes, the cells of the numbers, whose cells they are, what is said of old cells -/
abbrev QG : Type := Launch × va_G × List (ClassId × FieldType) × (QS → va_W) × (Nat → Prop) × (State → Heap → Prop)
/-- a method: name, code, locals, type -/
abbrev QM : Type := MethodName × ByteArray × Nat × Option FieldType
def qx_rm (d : Nat) : Room := { frames := d, cells := 0, slots := 0, locals := 60 * d }
def qx_ws (M : QM) : List Cond := .code M.1 M.2.1 M.2.2.1 M.2.2.2 :: qx_tb
/-- what is said of old cells stays -/
def qx_Zok (g : QG) : Prop := (∀ (u U : State) (H : Heap), U.vm = u.vm → g.2.2.2.2.2 u H → g.2.2.2.2.2 U H) ∧ (∀ (u U : State) (H : Heap), u.WarmedH U.vm → g.2.2.2.2.2 u H → g.2.2.2.2.2 U H) ∧ (∀ (U : State) (H H1 : Heap), (∀ q : Nat, q < H.size → ¬ g.2.2.2.2.1 q → H1[q]? = H[q]?) → g.2.2.2.2.2 U H → g.2.2.2.2.2 U H1)
def qx_X (g : QG) (M : QM) (p : Program) (s : State) (m : MethodId) (args : Array Value) (meth : Method) (c : Code) : Prop :=
  p.tables.exec = Jvm.exec ∧ c.code = M.2.1 ∧ c.maxLocals = M.2.2.1 ∧ meth.sig.returnType = M.2.2.2 ∧ meth.locks = false ∧ s.vm.findClass M.1.cls = some m.cls ∧ (∀ w ∈ qx_tb, w.before args s = true) ∧ va_K g.2.1 vwCl g.2.2.1 s ∧ g.2.2.2.2.2 s s.heap ∧ qx_Zok g
def qx_B (g : QG) (σ : QS) (U : State) : Prop := va_P g.2.1 vwCl (g.2.2.2.1 σ) U.heap ∧ va_K g.2.1 vwCl g.2.2.1 U ∧ va_D g.2.2.2.2.1 (g.2.2.2.1 σ) ∧ g.2.2.2.2.2 U U.heap ∧ qx_Zok g
def qx_Q (g : QG) (o : Option Value × QS) : Array Value → State → Outcome → State → Prop := fun _ st oc t =>
  (oc = .returned o.1 ∧ va_P g.2.1 vwCl (g.2.2.2.1 o.2) t.heap ∧ va_D g.2.2.2.2.1 (g.2.2.2.1 o.2)) ∧ va_F g.2.2.2.2.1 st t
/-- from pc on, with these locals, this stack and these numbers, the method ends with o -/
def qx_E (g : QG) (d : Nat) (M : QM) (o : Option Value × QS) (pc : Nat) (lv : List (Nat × Value)) (st : List Value) (σ : QS) : Prop :=
  ∀ (p : Program) (e : Env) (s : State) (m : MethodId) (args : Array Value) (below : List Frame) (meth : Method) (c : Code) (H : Heap) (locs : List Loc) (ls : Array Slot),
    qx_X g M p s m args meth c → va_P g.2.1 vwCl (g.2.2.2.1 σ) H → va_D g.2.2.2.2.1 (g.2.2.2.1 σ) → va_S g.2.2.2.2.1 s.heap H locs → lv_has ls M.2.2.1 lv →
    W p g.1 e (qx_rm d) s m args below meth c H locs 0 0 (MQ below (qx_Q g o) args s 0 0 g.2.2.2.2.1) (F0 m pc ls st)
section QX
variable {g : QG} {d : Nat} {M : QM} {o : Option Value × QS} {pc : Nat} {lv : List (Nat × Value)} {st : List Value} {σ : QS}
theorem qx_sub (ks : List Nat) {lv' : List (Nat × Value)} (hl : lv_pick lv ks = lv') (k : qx_E g d M o pc lv' st σ) : qx_E g d M o pc lv st σ := by
  intro p e s m args below meth c H locs ls X hP hD hS h
  exact k p e s m args below meth c H locs ls X hP hD hS (lv_sub h ks hl)
-- constants
theorem qx_iconst {n : Int} (v : Int32) (hd : decode M.2.1 pc = .ok (.iconst n, 1)) (hv : Int32.ofInt n = v) (k : qx_E g d M o (pc + 1) lv (.int v :: st) σ) : qx_E g d M o pc lv st σ := by
  intro p e s m args below meth c H locs ls X hP hD hS h
  exact lv_iconst X.1 X.2.1 hd hv (k p e s m args below meth c H locs ls X hP hD hS h)
theorem qx_bipush {n : Int} (v : Int32) (hd : decode M.2.1 pc = .ok (.bipush n, 2)) (hv : (Int8.ofInt n).toInt32 = v) (k : qx_E g d M o (pc + 2) lv (.int v :: st) σ) : qx_E g d M o pc lv st σ := by
  intro p e s m args below meth c H locs ls X hP hD hS h
  exact lv_bipush X.1 X.2.1 hd hv (k p e s m args below meth c H locs ls X hP hD hS h)
theorem qx_sipush {n : Int} (v : Int32) (hd : decode M.2.1 pc = .ok (.sipush n, 3)) (hv : (Int16.ofInt n).toInt32 = v) (k : qx_E g d M o (pc + 3) lv (.int v :: st) σ) : qx_E g d M o pc lv st σ := by
  intro p e s m args below meth c H locs ls X hP hD hS h
  exact lv_sipush X.1 X.2.1 hd hv (k p e s m args below meth c H locs ls X hP hD hS h)
theorem qx_lconst {n : Fin 2} (v : Int64) (hd : decode M.2.1 pc = .ok (.lconst n, 1)) (hv : Int64.ofNat (n : Nat) = v) (k : qx_E g d M o (pc + 1) lv (.long v :: st) σ) : qx_E g d M o pc lv st σ := by
  intro p e s m args below meth c H locs ls X hP hD hS h
  exact lv_lconst X.1 X.2.1 hd hv (k p e s m args below meth c H locs ls X hP hD hS h)
theorem qx_ldc2 {index : Nat} (v : Int64) (hd : decode M.2.1 pc = .ok (.ldc2_w index, 3)) (hw : Cond.constantLong M.1.cls index v ∈ qx_tb) (k : qx_E g d M o (pc + 3) lv (.long v :: st) σ) : qx_E g d M o pc lv st σ := by
  intro p e s m args below meth c H locs ls X hP hD hS h
  exact lv_ldc2 X.1 X.2.1 X.2.2.2.2.2.1 (X.2.2.2.2.2.2.1 _ hw) hd (k p e s m args below meth c H locs ls X hP hD hS h)
-- locals
theorem qx_iload_n {q : Fin 4} {x : Int32} (i : Nat) (hd : decode M.2.1 pc = .ok (.iload_n q, 1)) (hk : lv[i]? = some ((q : Nat), .int x)) (k : qx_E g d M o (pc + 1) lv (.int x :: st) σ) : qx_E g d M o pc lv st σ := by
  intro p e s m args below meth c H locs ls X hP hD hS h
  exact lv_iload_n X.1 X.2.1 hd rfl (lv_at h i hk) (k p e s m args below meth c H locs ls X hP hD hS h)
theorem qx_iload {q : Nat} {x : Int32} (i : Nat) (hd : decode M.2.1 pc = .ok (.iload q, 2)) (hk : lv[i]? = some (q, .int x)) (k : qx_E g d M o (pc + 2) lv (.int x :: st) σ) : qx_E g d M o pc lv st σ := by
  intro p e s m args below meth c H locs ls X hP hD hS h
  exact lv_iload X.1 X.2.1 hd (lv_at h i hk) (k p e s m args below meth c H locs ls X hP hD hS h)
theorem qx_lload_n {q : Fin 4} {x : Int64} (i : Nat) (hd : decode M.2.1 pc = .ok (.lload_n q, 1)) (hk : lv[i]? = some ((q : Nat), .long x)) (k : qx_E g d M o (pc + 1) lv (.long x :: st) σ) : qx_E g d M o pc lv st σ := by
  intro p e s m args below meth c H locs ls X hP hD hS h
  exact lv_lload_n X.1 X.2.1 hd rfl (lv_at h i hk) (k p e s m args below meth c H locs ls X hP hD hS h)
theorem qx_lload {q : Nat} {x : Int64} (i : Nat) (hd : decode M.2.1 pc = .ok (.lload q, 2)) (hk : lv[i]? = some (q, .long x)) (k : qx_E g d M o (pc + 2) lv (.long x :: st) σ) : qx_E g d M o pc lv st σ := by
  intro p e s m args below meth c H locs ls X hP hD hS h
  exact lv_lload X.1 X.2.1 hd (lv_at h i hk) (k p e s m args below meth c H locs ls X hP hD hS h)
theorem qx_aload_n {q : Fin 4} {x : Nat} (i : Nat) (hd : decode M.2.1 pc = .ok (.aload_n q, 1)) (hk : lv[i]? = some ((q : Nat), .ref x)) (k : qx_E g d M o (pc + 1) lv (.ref x :: st) σ) : qx_E g d M o pc lv st σ := by
  intro p e s m args below meth c H locs ls X hP hD hS h
  exact lv_aload_n X.1 X.2.1 hd rfl (lv_at h i hk) (k p e s m args below meth c H locs ls X hP hD hS h)
theorem qx_aload {q : Nat} {x : Nat} (i : Nat) (hd : decode M.2.1 pc = .ok (.aload q, 2)) (hk : lv[i]? = some (q, .ref x)) (k : qx_E g d M o (pc + 2) lv (.ref x :: st) σ) : qx_E g d M o pc lv st σ := by
  intro p e s m args below meth c H locs ls X hP hD hS h
  exact lv_aload X.1 X.2.1 hd (lv_at h i hk) (k p e s m args below meth c H locs ls X hP hD hS h)
theorem qx_istore_n {q : Fin 4} {x : Int32} {lv' : List (Nat × Value)} (hd : decode M.2.1 pc = .ok (.istore_n q, 1)) (hn : (q : Nat) < M.2.2.1) (hl : ((q : Nat), Value.int x) :: lv.filter (fun r => !(r.1 == (q : Nat)) && !(r.1 + 1 == (q : Nat) && r.2.category == 2)) = lv') (k : qx_E g d M o (pc + 1) lv' st σ) : qx_E g d M o pc lv (.int x :: st) σ := by
  intro p e s m args below meth c H locs ls X hP hD hS h
  exact lv_istore_n X.1 X.2.1 hd rfl h hn hl (fun ls' h' => k p e s m args below meth c H locs ls' X hP hD hS h')
theorem qx_istore {q : Nat} {x : Int32} {lv' : List (Nat × Value)} (hd : decode M.2.1 pc = .ok (.istore q, 2)) (hn : q < M.2.2.1) (hl : (q, Value.int x) :: lv.filter (fun r => !(r.1 == q) && !(r.1 + 1 == q && r.2.category == 2)) = lv') (k : qx_E g d M o (pc + 2) lv' st σ) : qx_E g d M o pc lv (.int x :: st) σ := by
  intro p e s m args below meth c H locs ls X hP hD hS h
  exact lv_istore X.1 X.2.1 hd h hn hl (fun ls' h' => k p e s m args below meth c H locs ls' X hP hD hS h')
theorem qx_lstore_n {q : Fin 4} {x : Int64} {lv' : List (Nat × Value)} (hd : decode M.2.1 pc = .ok (.lstore_n q, 1)) (hn : (q : Nat) + 1 < M.2.2.1) (hl : ((q : Nat), Value.long x) :: lv.filter (fun r => !(r.1 == (q : Nat)) && (!(r.1 == (q : Nat) + 1) && !(r.1 + 1 == (q : Nat) && r.2.category == 2))) = lv') (k : qx_E g d M o (pc + 1) lv' st σ) : qx_E g d M o pc lv (.long x :: st) σ := by
  intro p e s m args below meth c H locs ls X hP hD hS h
  exact lv_lstore_n X.1 X.2.1 hd rfl h hn hl (fun ls' h' => k p e s m args below meth c H locs ls' X hP hD hS h')
theorem qx_lstore {q : Nat} {x : Int64} {lv' : List (Nat × Value)} (hd : decode M.2.1 pc = .ok (.lstore q, 2)) (hn : q + 1 < M.2.2.1) (hl : (q, Value.long x) :: lv.filter (fun r => !(r.1 == q) && (!(r.1 == q + 1) && !(r.1 + 1 == q && r.2.category == 2))) = lv') (k : qx_E g d M o (pc + 2) lv' st σ) : qx_E g d M o pc lv (.long x :: st) σ := by
  intro p e s m args below meth c H locs ls X hP hD hS h
  exact lv_lstore X.1 X.2.1 hd h hn hl (fun ls' h' => k p e s m args below meth c H locs ls' X hP hD hS h')
theorem qx_astore_n {q : Fin 4} {x : Nat} {lv' : List (Nat × Value)} (hd : decode M.2.1 pc = .ok (.astore_n q, 1)) (hn : (q : Nat) < M.2.2.1) (hl : ((q : Nat), Value.ref x) :: lv.filter (fun r => !(r.1 == (q : Nat)) && !(r.1 + 1 == (q : Nat) && r.2.category == 2)) = lv') (k : qx_E g d M o (pc + 1) lv' st σ) : qx_E g d M o pc lv (.ref x :: st) σ := by
  intro p e s m args below meth c H locs ls X hP hD hS h
  exact lv_astore_n X.1 X.2.1 hd rfl h hn hl (fun ls' h' => k p e s m args below meth c H locs ls' X hP hD hS h')
theorem qx_iinc {q : Nat} {n : Int} {x : Int32} {lv' : List (Nat × Value)} (i : Nat) (v : Int32) (hd : decode M.2.1 pc = .ok (.iinc q n, 3)) (hk : lv[i]? = some (q, .int x)) (hv : x + Int32.ofInt n = v) (hn : q < M.2.2.1) (hl : (q, Value.int v) :: lv.filter (fun r => !(r.1 == q) && !(r.1 + 1 == q && r.2.category == 2)) = lv') (k : qx_E g d M o (pc + 3) lv' st σ) : qx_E g d M o pc lv st σ := by
  intro p e s m args below meth c H locs ls X hP hD hS h
  exact lv_iinc X.1 X.2.1 hd h hk hv hn hl (fun ls' h' => k p e s m args below meth c H locs ls' X hP hD hS h')
-- the stack
theorem qx_dup {v : Value} (hd : decode M.2.1 pc = .ok (.dup, 1)) (hv : v.category = 1) (k : qx_E g d M o (pc + 1) lv (v :: v :: st) σ) : qx_E g d M o pc lv (v :: st) σ := by
  intro p e s m args below meth c H locs ls X hP hD hS h
  exact lv_dup X.1 X.2.1 hd hv (k p e s m args below meth c H locs ls X hP hD hS h)
theorem qx_dup2 {v w : Value} (hd : decode M.2.1 pc = .ok (.dup2, 1)) (hv : v.category = 1) (hw : w.category = 1) (k : qx_E g d M o (pc + 1) lv (v :: w :: v :: w :: st) σ) : qx_E g d M o pc lv (v :: w :: st) σ := by
  intro p e s m args below meth c H locs ls X hP hD hS h
  exact lv_dup2_11 X.1 X.2.1 hd hv hw (k p e s m args below meth c H locs ls X hP hD hS h)
theorem qx_pop {v : Value} (hd : decode M.2.1 pc = .ok (.pop, 1)) (hv : v.category = 1) (k : qx_E g d M o (pc + 1) lv st σ) : qx_E g d M o pc lv (v :: st) σ := by
  intro p e s m args below meth c H locs ls X hP hD hS h
  exact lv_pop X.1 X.2.1 hd hv (k p e s m args below meth c H locs ls X hP hD hS h)
-- numbers
theorem qx_iadd {x y : Int32} (hd : decode M.2.1 pc = .ok (.iadd, 1)) (k : qx_E g d M o (pc + 1) lv (.int (x + y) :: st) σ) : qx_E g d M o pc lv (.int y :: .int x :: st) σ := by
  intro p e s m args below meth c H locs ls X hP hD hS h
  exact lv_iadd X.1 X.2.1 hd (k p e s m args below meth c H locs ls X hP hD hS h)
theorem qx_isub {x y : Int32} (hd : decode M.2.1 pc = .ok (.isub, 1)) (k : qx_E g d M o (pc + 1) lv (.int (x - y) :: st) σ) : qx_E g d M o pc lv (.int y :: .int x :: st) σ := by
  intro p e s m args below meth c H locs ls X hP hD hS h
  exact lv_isub X.1 X.2.1 hd (k p e s m args below meth c H locs ls X hP hD hS h)
theorem qx_imul {x y : Int32} (hd : decode M.2.1 pc = .ok (.imul, 1)) (k : qx_E g d M o (pc + 1) lv (.int (x * y) :: st) σ) : qx_E g d M o pc lv (.int y :: .int x :: st) σ := by
  intro p e s m args below meth c H locs ls X hP hD hS h
  exact lv_imul X.1 X.2.1 hd (k p e s m args below meth c H locs ls X hP hD hS h)
theorem qx_idiv {x y : Int32} (hd : decode M.2.1 pc = .ok (.idiv, 1)) (hy : ¬ y = 0) (k : qx_E g d M o (pc + 1) lv (.int (x / y) :: st) σ) : qx_E g d M o pc lv (.int y :: .int x :: st) σ := by
  intro p e s m args below meth c H locs ls X hP hD hS h
  exact lv_idiv X.1 X.2.1 hd hy (k p e s m args below meth c H locs ls X hP hD hS h)
theorem qx_irem {x y : Int32} (hd : decode M.2.1 pc = .ok (.irem, 1)) (hy : ¬ y = 0) (k : qx_E g d M o (pc + 1) lv (.int (x - x / y * y) :: st) σ) : qx_E g d M o pc lv (.int y :: .int x :: st) σ := by
  intro p e s m args below meth c H locs ls X hP hD hS h
  exact lv_irem X.1 X.2.1 hd hy (k p e s m args below meth c H locs ls X hP hD hS h)
theorem qx_ineg {x : Int32} (hd : decode M.2.1 pc = .ok (.ineg, 1)) (k : qx_E g d M o (pc + 1) lv (.int (-x) :: st) σ) : qx_E g d M o pc lv (.int x :: st) σ := by
  intro p e s m args below meth c H locs ls X hP hD hS h
  exact lv_ineg X.1 X.2.1 hd (k p e s m args below meth c H locs ls X hP hD hS h)
theorem qx_iand {x y : Int32} (hd : decode M.2.1 pc = .ok (.iand, 1)) (k : qx_E g d M o (pc + 1) lv (.int (x &&& y) :: st) σ) : qx_E g d M o pc lv (.int y :: .int x :: st) σ := by
  intro p e s m args below meth c H locs ls X hP hD hS h
  exact lv_iand X.1 X.2.1 hd (k p e s m args below meth c H locs ls X hP hD hS h)
theorem qx_ishr {x y : Int32} (hd : decode M.2.1 pc = .ok (.ishr, 1)) (k : qx_E g d M o (pc + 1) lv (.int (x >>> (y &&& 31)) :: st) σ) : qx_E g d M o pc lv (.int y :: .int x :: st) σ := by
  intro p e s m args below meth c H locs ls X hP hD hS h
  exact lv_ishr X.1 X.2.1 hd (k p e s m args below meth c H locs ls X hP hD hS h)
theorem qx_i2l {x : Int32} (hd : decode M.2.1 pc = .ok (.i2l, 1)) (k : qx_E g d M o (pc + 1) lv (.long x.toInt64 :: st) σ) : qx_E g d M o pc lv (.int x :: st) σ := by
  intro p e s m args below meth c H locs ls X hP hD hS h
  exact lv_i2l X.1 X.2.1 hd rfl (k p e s m args below meth c H locs ls X hP hD hS h)
theorem qx_l2i {x : Int64} (hd : decode M.2.1 pc = .ok (.l2i, 1)) (k : qx_E g d M o (pc + 1) lv (.int x.toInt32 :: st) σ) : qx_E g d M o pc lv (.long x :: st) σ := by
  intro p e s m args below meth c H locs ls X hP hD hS h
  exact lv_l2i X.1 X.2.1 hd rfl (k p e s m args below meth c H locs ls X hP hD hS h)
theorem qx_i2b {x : Int32} (hd : decode M.2.1 pc = .ok (.i2b, 1)) (k : qx_E g d M o (pc + 1) lv (.int x.toInt8.toInt32 :: st) σ) : qx_E g d M o pc lv (.int x :: st) σ := by
  intro p e s m args below meth c H locs ls X hP hD hS h
  exact lv_i2b X.1 X.2.1 hd rfl (k p e s m args below meth c H locs ls X hP hD hS h)
theorem qx_ladd {x y : Int64} (hd : decode M.2.1 pc = .ok (.ladd, 1)) (k : qx_E g d M o (pc + 1) lv (.long (x + y) :: st) σ) : qx_E g d M o pc lv (.long y :: .long x :: st) σ := by
  intro p e s m args below meth c H locs ls X hP hD hS h
  exact lv_ladd X.1 X.2.1 hd (k p e s m args below meth c H locs ls X hP hD hS h)
theorem qx_lmul {x y : Int64} (hd : decode M.2.1 pc = .ok (.lmul, 1)) (k : qx_E g d M o (pc + 1) lv (.long (x * y) :: st) σ) : qx_E g d M o pc lv (.long y :: .long x :: st) σ := by
  intro p e s m args below meth c H locs ls X hP hD hS h
  exact lv_lmul X.1 X.2.1 hd (k p e s m args below meth c H locs ls X hP hD hS h)
theorem qx_land {x y : Int64} (hd : decode M.2.1 pc = .ok (.land, 1)) (k : qx_E g d M o (pc + 1) lv (.long (x &&& y) :: st) σ) : qx_E g d M o pc lv (.long y :: .long x :: st) σ := by
  intro p e s m args below meth c H locs ls X hP hD hS h
  exact lv_land X.1 X.2.1 hd (k p e s m args below meth c H locs ls X hP hD hS h)
theorem qx_lor {x y : Int64} (hd : decode M.2.1 pc = .ok (.lor, 1)) (k : qx_E g d M o (pc + 1) lv (.long (x ||| y) :: st) σ) : qx_E g d M o pc lv (.long y :: .long x :: st) σ := by
  intro p e s m args below meth c H locs ls X hP hD hS h
  exact lv_lor X.1 X.2.1 hd (k p e s m args below meth c H locs ls X hP hD hS h)
theorem qx_lxor {x y : Int64} (hd : decode M.2.1 pc = .ok (.lxor, 1)) (k : qx_E g d M o (pc + 1) lv (.long (x ^^^ y) :: st) σ) : qx_E g d M o pc lv (.long y :: .long x :: st) σ := by
  intro p e s m args below meth c H locs ls X hP hD hS h
  exact lv_lxor X.1 X.2.1 hd (k p e s m args below meth c H locs ls X hP hD hS h)
theorem qx_lushr {x : Int64} {y : Int32} (hd : decode M.2.1 pc = .ok (.lushr, 1)) (k : qx_E g d M o (pc + 1) lv (.long ((x.toUInt64 >>> (y.toInt64.toUInt64 &&& Int64.toUInt64 63)).toInt64) :: st) σ) : qx_E g d M o pc lv (.int y :: .long x :: st) σ := by
  intro p e s m args below meth c H locs ls X hP hD hS h
  exact lv_lushr X.1 X.2.1 hd rfl (k p e s m args below meth c H locs ls X hP hD hS h)
theorem qx_lshl {x : Int64} {y : Int32} (hd : decode M.2.1 pc = .ok (.lshl, 1)) (k : qx_E g d M o (pc + 1) lv (.long (x <<< (y.toInt64 &&& 63)) :: st) σ) : qx_E g d M o pc lv (.int y :: .long x :: st) σ := by
  intro p e s m args below meth c H locs ls X hP hD hS h
  exact lv_lshl X.1 X.2.1 hd rfl (k p e s m args below meth c H locs ls X hP hD hS h)
-- ways
theorem qx_goto {off : Int} (tgt : Nat) (hd : decode M.2.1 pc = .ok (.goto off, 3)) (ht : (pc : Int) + off = (tgt : Int)) (k : qx_E g d M o tgt lv st σ) : qx_E g d M o pc lv st σ := by
  intro p e s m args below meth c H locs ls X hP hD hS h
  exact lv_goto X.1 X.2.1 hd ht (k p e s m args below meth c H locs ls X hP hD hS h)
theorem qx_at {pc' : Nat} (h : pc = pc') (k : qx_E g d M o pc' lv st σ) : qx_E g d M o pc lv st σ := h ▸ k
end QX
theorem qx_ite {β : Type} {c : Prop} [Decidable c] {a b : Option β} {r : β} (h : (if c then a else b) = some r) : (c ∧ a = some r) ∨ (¬ c ∧ b = some r) := by
  by_cases hc : c
  · exact Or.inl ⟨hc, by rwa [if_pos hc] at h⟩
  · exact Or.inr ⟨hc, by rwa [if_neg hc] at h⟩
end
section
/-! the layer, second half: ways, cells, calls, ends -/
def qx_ob {β : Type} (i : Int32) (n : Nat) (K : Option β) : Option β := if i < 0 ∨ n ≤ i.toNatClampNeg then none else K
theorem qx_obE {β : Type} {i : Int32} {n : Nat} {K : Option β} {r : β} (h : qx_ob i n K = some r) : vp_in i n ∧ K = some r := by
  unfold qx_ob at h
  by_cases hc : i < 0 ∨ n ≤ i.toNatClampNeg
  · rw [if_pos hc] at h; cases h
  · rw [if_neg hc] at h; exact ⟨hc, h⟩
theorem qx_bindE {α β : Type} {X : Option α} {K : α → Option β} {r : β} (h : X.bind K = some r) : ∃ q, X = some q ∧ K q = some r := by
  cases X with
  | none => cases h
  | some q => exact ⟨q, rfl, h⟩
section QW
variable {g : QG} {d : Nat} {M : QM} {o : Option Value × QS} {pc : Nat} {lv : List (Nat × Value)} {st : List Value} {σ : QS} {β : Type} {r : β} {A1 A2 : Option β}
theorem qx_if_eq {x : Int32} {off : Int} (tgt : Nat) (h : (if x = 0 then A1 else A2) = some r) (hd : decode M.2.1 pc = .ok (.ifCond .eq off, 3)) (ht : (pc : Nat) + off = (tgt : Int)) (kt : A1 = some r → qx_E g d M o tgt lv st σ) (kf : A2 = some r → qx_E g d M o (pc + 3) lv st σ) : qx_E g d M o pc lv (.int x :: st) σ := by
  intro p e s m args below meth c H locs ls X hP hD hS hl
  exact lv_if_eq X.1 X.2.1 hd ht (fun hc => kt (by rwa [if_pos hc] at h) p e s m args below meth c H locs ls X hP hD hS hl) (fun hc => kf (by rwa [if_neg hc] at h) p e s m args below meth c H locs ls X hP hD hS hl)
theorem qx_icmp_eq {x y : Int32} {off : Int} (tgt : Nat) (h : (if x = y then A1 else A2) = some r) (hd : decode M.2.1 pc = .ok (.if_icmp .eq off, 3)) (ht : (pc : Nat) + off = (tgt : Int)) (kt : A1 = some r → qx_E g d M o tgt lv st σ) (kf : A2 = some r → qx_E g d M o (pc + 3) lv st σ) : qx_E g d M o pc lv (.int y :: .int x :: st) σ := by
  intro p e s m args below meth c H locs ls X hP hD hS hl
  exact lv_icmp_eq X.1 X.2.1 hd ht (fun hc => kt (by rwa [if_pos hc] at h) p e s m args below meth c H locs ls X hP hD hS hl) (fun hc => kf (by rwa [if_neg hc] at h) p e s m args below meth c H locs ls X hP hD hS hl)
theorem qx_lcmp_eq {x y : Int64} {off : Int} (tgt : Nat) (h : (if x = y then A1 else A2) = some r) (hd0 : decode M.2.1 pc = .ok (.lcmp, 1)) (hd : decode M.2.1 (pc + 1) = .ok (.ifCond .eq off, 3)) (ht : (pc + 1 : Nat) + off = (tgt : Int)) (kt : A1 = some r → qx_E g d M o tgt lv st σ) (kf : A2 = some r → qx_E g d M o ((pc + 1) + 3) lv st σ) : qx_E g d M o pc lv (.long y :: .long x :: st) σ := by
  intro p e s m args below meth c H locs ls X hP hD hS hl
  refine W.lcmp X.1 X.2.1 hd0 ?_
  exact lv_if_eq X.1 X.2.1 hd ht (fun hc => kt (by rwa [if_pos ((lg_cmp_eq x y).mp hc)] at h) p e s m args below meth c H locs ls X hP hD hS hl) (fun hc => kf (by rwa [if_neg (fun q => hc ((lg_cmp_eq x y).mpr q))] at h) p e s m args below meth c H locs ls X hP hD hS hl)
theorem qx_if_ne {x : Int32} {off : Int} (tgt : Nat) (h : (if x = 0 then A2 else A1) = some r) (hd : decode M.2.1 pc = .ok (.ifCond .ne off, 3)) (ht : (pc : Nat) + off = (tgt : Int)) (kt : A1 = some r → qx_E g d M o tgt lv st σ) (kf : A2 = some r → qx_E g d M o (pc + 3) lv st σ) : qx_E g d M o pc lv (.int x :: st) σ := by
  intro p e s m args below meth c H locs ls X hP hD hS hl
  exact lv_if_ne X.1 X.2.1 hd ht (fun hc => kt (by rwa [if_neg hc] at h) p e s m args below meth c H locs ls X hP hD hS hl) (fun hc => kf (by rwa [if_pos hc] at h) p e s m args below meth c H locs ls X hP hD hS hl)
theorem qx_icmp_ne {x y : Int32} {off : Int} (tgt : Nat) (h : (if x = y then A2 else A1) = some r) (hd : decode M.2.1 pc = .ok (.if_icmp .ne off, 3)) (ht : (pc : Nat) + off = (tgt : Int)) (kt : A1 = some r → qx_E g d M o tgt lv st σ) (kf : A2 = some r → qx_E g d M o (pc + 3) lv st σ) : qx_E g d M o pc lv (.int y :: .int x :: st) σ := by
  intro p e s m args below meth c H locs ls X hP hD hS hl
  exact lv_icmp_ne X.1 X.2.1 hd ht (fun hc => kt (by rwa [if_neg hc] at h) p e s m args below meth c H locs ls X hP hD hS hl) (fun hc => kf (by rwa [if_pos hc] at h) p e s m args below meth c H locs ls X hP hD hS hl)
theorem qx_lcmp_ne {x y : Int64} {off : Int} (tgt : Nat) (h : (if x = y then A2 else A1) = some r) (hd0 : decode M.2.1 pc = .ok (.lcmp, 1)) (hd : decode M.2.1 (pc + 1) = .ok (.ifCond .ne off, 3)) (ht : (pc + 1 : Nat) + off = (tgt : Int)) (kt : A1 = some r → qx_E g d M o tgt lv st σ) (kf : A2 = some r → qx_E g d M o ((pc + 1) + 3) lv st σ) : qx_E g d M o pc lv (.long y :: .long x :: st) σ := by
  intro p e s m args below meth c H locs ls X hP hD hS hl
  refine W.lcmp X.1 X.2.1 hd0 ?_
  exact lv_if_ne X.1 X.2.1 hd ht (fun hc => kt (by rwa [if_neg (fun q => hc ((lg_cmp_eq x y).mpr q))] at h) p e s m args below meth c H locs ls X hP hD hS hl) (fun hc => kf (by rwa [if_pos ((lg_cmp_eq x y).mp hc)] at h) p e s m args below meth c H locs ls X hP hD hS hl)
theorem qx_if_lt {x : Int32} {off : Int} (tgt : Nat) (h : (if x < 0 then A1 else A2) = some r) (hd : decode M.2.1 pc = .ok (.ifCond .lt off, 3)) (ht : (pc : Nat) + off = (tgt : Int)) (kt : A1 = some r → qx_E g d M o tgt lv st σ) (kf : A2 = some r → qx_E g d M o (pc + 3) lv st σ) : qx_E g d M o pc lv (.int x :: st) σ := by
  intro p e s m args below meth c H locs ls X hP hD hS hl
  exact lv_if_lt X.1 X.2.1 hd ht (fun hc => kt (by rwa [if_pos hc] at h) p e s m args below meth c H locs ls X hP hD hS hl) (fun hc => kf (by rwa [if_neg hc] at h) p e s m args below meth c H locs ls X hP hD hS hl)
theorem qx_icmp_lt {x y : Int32} {off : Int} (tgt : Nat) (h : (if x < y then A1 else A2) = some r) (hd : decode M.2.1 pc = .ok (.if_icmp .lt off, 3)) (ht : (pc : Nat) + off = (tgt : Int)) (kt : A1 = some r → qx_E g d M o tgt lv st σ) (kf : A2 = some r → qx_E g d M o (pc + 3) lv st σ) : qx_E g d M o pc lv (.int y :: .int x :: st) σ := by
  intro p e s m args below meth c H locs ls X hP hD hS hl
  exact lv_icmp_lt X.1 X.2.1 hd ht (fun hc => kt (by rwa [if_pos hc] at h) p e s m args below meth c H locs ls X hP hD hS hl) (fun hc => kf (by rwa [if_neg hc] at h) p e s m args below meth c H locs ls X hP hD hS hl)
theorem qx_lcmp_lt {x y : Int64} {off : Int} (tgt : Nat) (h : (if x < y then A1 else A2) = some r) (hd0 : decode M.2.1 pc = .ok (.lcmp, 1)) (hd : decode M.2.1 (pc + 1) = .ok (.ifCond .lt off, 3)) (ht : (pc + 1 : Nat) + off = (tgt : Int)) (kt : A1 = some r → qx_E g d M o tgt lv st σ) (kf : A2 = some r → qx_E g d M o ((pc + 1) + 3) lv st σ) : qx_E g d M o pc lv (.long y :: .long x :: st) σ := by
  intro p e s m args below meth c H locs ls X hP hD hS hl
  refine W.lcmp X.1 X.2.1 hd0 ?_
  exact lv_if_lt X.1 X.2.1 hd ht (fun hc => kt (by rwa [if_pos ((lg_cmp_lt x y).mp hc)] at h) p e s m args below meth c H locs ls X hP hD hS hl) (fun hc => kf (by rwa [if_neg (fun q => hc ((lg_cmp_lt x y).mpr q))] at h) p e s m args below meth c H locs ls X hP hD hS hl)
theorem qx_if_ge {x : Int32} {off : Int} (tgt : Nat) (h : (if 0 ≤ x then A1 else A2) = some r) (hd : decode M.2.1 pc = .ok (.ifCond .ge off, 3)) (ht : (pc : Nat) + off = (tgt : Int)) (kt : A1 = some r → qx_E g d M o tgt lv st σ) (kf : A2 = some r → qx_E g d M o (pc + 3) lv st σ) : qx_E g d M o pc lv (.int x :: st) σ := by
  intro p e s m args below meth c H locs ls X hP hD hS hl
  exact lv_if_ge X.1 X.2.1 hd ht (fun hc => kt (by rwa [if_pos hc] at h) p e s m args below meth c H locs ls X hP hD hS hl) (fun hc => kf (by rwa [if_neg hc] at h) p e s m args below meth c H locs ls X hP hD hS hl)
theorem qx_icmp_ge {x y : Int32} {off : Int} (tgt : Nat) (h : (if y ≤ x then A1 else A2) = some r) (hd : decode M.2.1 pc = .ok (.if_icmp .ge off, 3)) (ht : (pc : Nat) + off = (tgt : Int)) (kt : A1 = some r → qx_E g d M o tgt lv st σ) (kf : A2 = some r → qx_E g d M o (pc + 3) lv st σ) : qx_E g d M o pc lv (.int y :: .int x :: st) σ := by
  intro p e s m args below meth c H locs ls X hP hD hS hl
  exact lv_icmp_ge X.1 X.2.1 hd ht (fun hc => kt (by rwa [if_pos hc] at h) p e s m args below meth c H locs ls X hP hD hS hl) (fun hc => kf (by rwa [if_neg hc] at h) p e s m args below meth c H locs ls X hP hD hS hl)
theorem qx_lcmp_ge {x y : Int64} {off : Int} (tgt : Nat) (h : (if y ≤ x then A1 else A2) = some r) (hd0 : decode M.2.1 pc = .ok (.lcmp, 1)) (hd : decode M.2.1 (pc + 1) = .ok (.ifCond .ge off, 3)) (ht : (pc + 1 : Nat) + off = (tgt : Int)) (kt : A1 = some r → qx_E g d M o tgt lv st σ) (kf : A2 = some r → qx_E g d M o ((pc + 1) + 3) lv st σ) : qx_E g d M o pc lv (.long y :: .long x :: st) σ := by
  intro p e s m args below meth c H locs ls X hP hD hS hl
  refine W.lcmp X.1 X.2.1 hd0 ?_
  exact lv_if_ge X.1 X.2.1 hd ht (fun hc => kt (by rwa [if_pos ((lg_cmp_ge x y).mp hc)] at h) p e s m args below meth c H locs ls X hP hD hS hl) (fun hc => kf (by rwa [if_neg (fun q => hc ((lg_cmp_ge x y).mpr q))] at h) p e s m args below meth c H locs ls X hP hD hS hl)
theorem qx_if_gt {x : Int32} {off : Int} (tgt : Nat) (h : (if 0 < x then A1 else A2) = some r) (hd : decode M.2.1 pc = .ok (.ifCond .gt off, 3)) (ht : (pc : Nat) + off = (tgt : Int)) (kt : A1 = some r → qx_E g d M o tgt lv st σ) (kf : A2 = some r → qx_E g d M o (pc + 3) lv st σ) : qx_E g d M o pc lv (.int x :: st) σ := by
  intro p e s m args below meth c H locs ls X hP hD hS hl
  exact lv_if_gt X.1 X.2.1 hd ht (fun hc => kt (by rwa [if_pos hc] at h) p e s m args below meth c H locs ls X hP hD hS hl) (fun hc => kf (by rwa [if_neg hc] at h) p e s m args below meth c H locs ls X hP hD hS hl)
theorem qx_icmp_gt {x y : Int32} {off : Int} (tgt : Nat) (h : (if y < x then A1 else A2) = some r) (hd : decode M.2.1 pc = .ok (.if_icmp .gt off, 3)) (ht : (pc : Nat) + off = (tgt : Int)) (kt : A1 = some r → qx_E g d M o tgt lv st σ) (kf : A2 = some r → qx_E g d M o (pc + 3) lv st σ) : qx_E g d M o pc lv (.int y :: .int x :: st) σ := by
  intro p e s m args below meth c H locs ls X hP hD hS hl
  exact lv_icmp_gt X.1 X.2.1 hd ht (fun hc => kt (by rwa [if_pos hc] at h) p e s m args below meth c H locs ls X hP hD hS hl) (fun hc => kf (by rwa [if_neg hc] at h) p e s m args below meth c H locs ls X hP hD hS hl)
theorem qx_lcmp_gt {x y : Int64} {off : Int} (tgt : Nat) (h : (if y < x then A1 else A2) = some r) (hd0 : decode M.2.1 pc = .ok (.lcmp, 1)) (hd : decode M.2.1 (pc + 1) = .ok (.ifCond .gt off, 3)) (ht : (pc + 1 : Nat) + off = (tgt : Int)) (kt : A1 = some r → qx_E g d M o tgt lv st σ) (kf : A2 = some r → qx_E g d M o ((pc + 1) + 3) lv st σ) : qx_E g d M o pc lv (.long y :: .long x :: st) σ := by
  intro p e s m args below meth c H locs ls X hP hD hS hl
  refine W.lcmp X.1 X.2.1 hd0 ?_
  exact lv_if_gt X.1 X.2.1 hd ht (fun hc => kt (by rwa [if_pos ((lg_cmp_gt x y).mp hc)] at h) p e s m args below meth c H locs ls X hP hD hS hl) (fun hc => kf (by rwa [if_neg (fun q => hc ((lg_cmp_gt x y).mpr q))] at h) p e s m args below meth c H locs ls X hP hD hS hl)
theorem qx_if_le {x : Int32} {off : Int} (tgt : Nat) (h : (if x ≤ 0 then A1 else A2) = some r) (hd : decode M.2.1 pc = .ok (.ifCond .le off, 3)) (ht : (pc : Nat) + off = (tgt : Int)) (kt : A1 = some r → qx_E g d M o tgt lv st σ) (kf : A2 = some r → qx_E g d M o (pc + 3) lv st σ) : qx_E g d M o pc lv (.int x :: st) σ := by
  intro p e s m args below meth c H locs ls X hP hD hS hl
  exact lv_if_le X.1 X.2.1 hd ht (fun hc => kt (by rwa [if_pos hc] at h) p e s m args below meth c H locs ls X hP hD hS hl) (fun hc => kf (by rwa [if_neg hc] at h) p e s m args below meth c H locs ls X hP hD hS hl)
theorem qx_icmp_le {x y : Int32} {off : Int} (tgt : Nat) (h : (if x ≤ y then A1 else A2) = some r) (hd : decode M.2.1 pc = .ok (.if_icmp .le off, 3)) (ht : (pc : Nat) + off = (tgt : Int)) (kt : A1 = some r → qx_E g d M o tgt lv st σ) (kf : A2 = some r → qx_E g d M o (pc + 3) lv st σ) : qx_E g d M o pc lv (.int y :: .int x :: st) σ := by
  intro p e s m args below meth c H locs ls X hP hD hS hl
  exact lv_icmp_le X.1 X.2.1 hd ht (fun hc => kt (by rwa [if_pos hc] at h) p e s m args below meth c H locs ls X hP hD hS hl) (fun hc => kf (by rwa [if_neg hc] at h) p e s m args below meth c H locs ls X hP hD hS hl)
theorem qx_lcmp_le {x y : Int64} {off : Int} (tgt : Nat) (h : (if x ≤ y then A1 else A2) = some r) (hd0 : decode M.2.1 pc = .ok (.lcmp, 1)) (hd : decode M.2.1 (pc + 1) = .ok (.ifCond .le off, 3)) (ht : (pc + 1 : Nat) + off = (tgt : Int)) (kt : A1 = some r → qx_E g d M o tgt lv st σ) (kf : A2 = some r → qx_E g d M o ((pc + 1) + 3) lv st σ) : qx_E g d M o pc lv (.long y :: .long x :: st) σ := by
  intro p e s m args below meth c H locs ls X hP hD hS hl
  refine W.lcmp X.1 X.2.1 hd0 ?_
  exact lv_if_le X.1 X.2.1 hd ht (fun hc => kt (by rwa [if_pos ((lg_cmp_le x y).mp hc)] at h) p e s m args below meth c H locs ls X hP hD hS hl) (fun hc => kf (by rwa [if_neg (fun q => hc ((lg_cmp_le x y).mpr q))] at h) p e s m args below meth c H locs ls X hP hD hS hl)
theorem qx_tsIn {dflt lo hi : Int} {offs : Array Int} {len : Nat} {x : Int32} {off : Int} (tgt : Nat) (v : Int32) (hx : x = v) (hd : decode M.2.1 pc = .ok (.tableswitch dflt lo hi offs, len)) (h1 : ¬ v.toInt < lo) (h2 : ¬ hi < v.toInt) (ho : offs[(v.toInt - lo).toNat]? = some off) (ht : (pc : Int) + off = (tgt : Int)) (k : qx_E g d M o tgt lv st σ) : qx_E g d M o pc lv (.int x :: st) σ := by
  subst hx
  intro p e s m args below meth c H locs ls X hP hD hS hl
  exact lv_tableIn X.1 X.2.1 hd h1 h2 ho ht (k p e s m args below meth c H locs ls X hP hD hS hl)
theorem qx_tsOut {dflt lo hi : Int} {offs : Array Int} {len : Nat} {x : Int32} (tgt : Nat) (hd : decode M.2.1 pc = .ok (.tableswitch dflt lo hi offs, len)) (hx : x.toInt < lo ∨ hi < x.toInt) (ht : (pc : Int) + dflt = (tgt : Int)) (k : qx_E g d M o tgt lv st σ) : qx_E g d M o pc lv (.int x :: st) σ := by
  intro p e s m args below meth c H locs ls X hP hD hS hl
  exact lv_tableOut X.1 X.2.1 hd hx ht (k p e s m args below meth c H locs ls X hP hD hS hl)
-- cells
theorem qx_get (q0 j : Nat) {b ci : Nat} {fs : List Value} {C : String} {T : u_T} {N index : Nat} {v : Value} (he : (g.2.2.2.1 σ)[q0]? = some (b, .inr (ci, fs))) (hc : vwCl[ci]? = some (C, T, N)) (hj : j < N) (hv : fs[j]? = some v) (hin : ∀ w ∈ u_ws C T N, w ∈ qx_tb) (hw : Cond.fieldLink M.1.cls index (T j).1 (T j).2.1 (T j).2.2.1 ∈ qx_tb) (hd : decode M.2.1 pc = .ok (.getfield index, 3)) (k : qx_E g d M o (pc + 3) lv (v :: st) σ) : qx_E g d M o pc lv (.ref b :: st) σ := by
  intro p e s m args below meth c H locs ls X hP hD hS hl
  exact va_get (D := g.2.1) (cl := vwCl) X.1 X.2.1 X.2.2.2.2.2.2.1 hin X.2.2.2.2.2.1 X.2.2.2.2.2.2.2.1 hP q0 he hc j hj (X.2.2.2.2.2.2.1 _ hw) (fun _ h => h) hv hd (k p e s m args below meth c H locs ls X hP hD hS hl)
theorem qx_put (q0 j : Nat) {b ci : Nat} {fs : List Value} {C : String} {T : u_T} {N index : Nat} {v : Value} {ty : FieldType} (σ1 : QS) (ty0 : Nat → FieldType) (he : (g.2.2.2.1 σ)[q0]? = some (b, .inr (ci, fs))) (hc : vwCl[ci]? = some (C, T, N)) (hj : j < N) (hin : ∀ w ∈ u_ws C T N, w ∈ qx_tb) (hty : ∀ k, k < N → parseFieldDescriptor (T k).2.2.1 = some (ty0 k)) (hnm : ∀ a, a < N → ∀ b, b < N → a ≠ b → (T a).2.1 ≠ (T b).2.1) (hfin : (T j).2.2.2 = false) (hpd : parseFieldDescriptor (T j).2.2.1 = some ty) (hn : narrow ty v = v) (hfit : fits ty v = true) (hlt : j < fs.length) (hσ : (g.2.2.2.1 σ).set q0 (b, .inr (ci, fs.set j v)) = g.2.2.2.1 σ1) (hw : Cond.fieldLink M.1.cls index (T j).1 (T j).2.1 (T j).2.2.1 ∈ qx_tb) (hd : decode M.2.1 pc = .ok (.putfield index, 3)) (k : qx_E g d M o (pc + 3) lv st σ1) : qx_E g d M o pc lv (v :: .ref b :: st) σ := by
  intro p e s m args below meth c H locs ls X hP hD hS hl
  refine va_put (D := g.2.1) (cl := vwCl) X.1 X.2.1 X.2.2.2.2.2.2.1 hin ty0 hty hnm X.2.2.2.2.2.1 X.2.2.2.2.2.2.2.1 hP hD hS q0 he hc j hj (X.2.2.2.2.2.2.1 _ hw) (fun _ h => h) hfin hpd hn hfit hlt hd (fun H1 locs1 hP1 hD1 hS1 => ?_)
  rw [hσ] at hP1 hD1
  exact k p e s m args below meth c H1 locs1 ls X hP1 hD1 hS1 hl
theorem qx_iald (q0 t0 : Nat) {b n : Nat} {cA : ClassId} {f : Nat → Int32} {i : Int32} (h : qx_ob i n A1 = some r) (ha : (g.2.2.2.1 σ)[q0]? = some (b, .inl (cA, n, .inl f))) (ht : g.2.2.1[t0]? = some (cA, .int)) (hd : decode M.2.1 pc = .ok (.iaload, 1)) (k : A1 = some r → qx_E g d M o (pc + 1) lv (.int (f i.toNatClampNeg) :: st) σ) : qx_E g d M o pc lv (.int i :: .ref b :: st) σ := by
  intro p e s m args below meth c H locs ls X hP hD hS hl
  obtain ⟨h1, h2⟩ := qx_obE h
  exact va_iald (D := g.2.1) (cl := vwCl) X.1 X.2.1 X.2.2.2.2.2.2.2.1 hP q0 t0 ha ht h1 hd (k h2 p e s m args below meth c H locs ls X hP hD hS hl)
theorem qx_zald (q0 t0 : Nat) {b n : Nat} {cA : ClassId} {f : Nat → Int32} {i : Int32} (h : qx_ob i n A1 = some r) (ha : (g.2.2.2.1 σ)[q0]? = some (b, .inl (cA, n, .inl f))) (ht : g.2.2.1[t0]? = some (cA, .boolean)) (hd : decode M.2.1 pc = .ok (.baload, 1)) (k : A1 = some r → qx_E g d M o (pc + 1) lv (.int (f i.toNatClampNeg) :: st) σ) : qx_E g d M o pc lv (.int i :: .ref b :: st) σ := by
  intro p e s m args below meth c H locs ls X hP hD hS hl
  obtain ⟨h1, h2⟩ := qx_obE h
  exact va_zald (D := g.2.1) (cl := vwCl) X.1 X.2.1 X.2.2.2.2.2.2.2.1 hP q0 t0 ha ht h1 hd (k h2 p e s m args below meth c H locs ls X hP hD hS hl)
theorem qx_bald (q0 t0 : Nat) {b n : Nat} {cA : ClassId} {f : Nat → Int32} {i : Int32} (h : qx_ob i n A1 = some r) (ha : (g.2.2.2.1 σ)[q0]? = some (b, .inl (cA, n, .inl f))) (ht : g.2.2.1[t0]? = some (cA, .byte)) (hd : decode M.2.1 pc = .ok (.baload, 1)) (k : A1 = some r → qx_E g d M o (pc + 1) lv (.int (f i.toNatClampNeg) :: st) σ) : qx_E g d M o pc lv (.int i :: .ref b :: st) σ := by
  intro p e s m args below meth c H locs ls X hP hD hS hl
  obtain ⟨h1, h2⟩ := qx_obE h
  exact va_bald (D := g.2.1) (cl := vwCl) X.1 X.2.1 X.2.2.2.2.2.2.2.1 hP q0 t0 ha ht h1 hd (k h2 p e s m args below meth c H locs ls X hP hD hS hl)
theorem qx_lald (q0 t0 : Nat) {b n : Nat} {cA : ClassId} {f : Nat → Int64} {i : Int32} (h : qx_ob i n A1 = some r) (ha : (g.2.2.2.1 σ)[q0]? = some (b, .inl (cA, n, .inr (.inl f)))) (ht : g.2.2.1[t0]? = some (cA, .long)) (hd : decode M.2.1 pc = .ok (.laload, 1)) (k : A1 = some r → qx_E g d M o (pc + 1) lv (.long (f i.toNatClampNeg) :: st) σ) : qx_E g d M o pc lv (.int i :: .ref b :: st) σ := by
  intro p e s m args below meth c H locs ls X hP hD hS hl
  obtain ⟨h1, h2⟩ := qx_obE h
  exact va_lald (D := g.2.1) (cl := vwCl) X.1 X.2.1 X.2.2.2.2.2.2.2.1 hP q0 t0 ha ht h1 hd (k h2 p e s m args below meth c H locs ls X hP hD hS hl)
theorem qx_iast (q0 t0 : Nat) {b n : Nat} {cA : ClassId} {f : Nat → Int32} {i : Int32} {x : Int32} (σ1 : QS) (h : qx_ob i n A1 = some r) (ha : (g.2.2.2.1 σ)[q0]? = some (b, .inl (cA, n, .inl f))) (ht : g.2.2.1[t0]? = some (cA, .int)) (hσ : (g.2.2.2.1 σ).set q0 (b, .inl (cA, n, .inl (upd f i.toNatClampNeg x))) = g.2.2.2.1 σ1) (hd : decode M.2.1 pc = .ok (.iastore, 1)) (k : A1 = some r → qx_E g d M o (pc + 1) lv st σ1) : qx_E g d M o pc lv (.int x :: .int i :: .ref b :: st) σ := by
  intro p e s m args below meth c H locs ls X hP hD hS hl
  obtain ⟨h1, h2⟩ := qx_obE h
  refine va_iast (D := g.2.1) (cl := vwCl) X.1 X.2.1 X.2.2.2.2.2.2.2.1 hP hD hS q0 t0 ha ht h1 hd (fun H1 locs1 hP1 hD1 hS1 => ?_)
  rw [hσ] at hP1 hD1
  exact k h2 p e s m args below meth c H1 locs1 ls X hP1 hD1 hS1 hl
theorem qx_zast (q0 t0 : Nat) {b n : Nat} {cA : ClassId} {f : Nat → Int32} {i : Int32} {x : Int32} (σ1 : QS) (h : qx_ob i n A1 = some r) (ha : (g.2.2.2.1 σ)[q0]? = some (b, .inl (cA, n, .inl f))) (ht : g.2.2.1[t0]? = some (cA, .boolean)) (hσ : (g.2.2.2.1 σ).set q0 (b, .inl (cA, n, .inl (upd f i.toNatClampNeg (vp_nar .boolean x)))) = g.2.2.2.1 σ1) (hd : decode M.2.1 pc = .ok (.bastore, 1)) (k : A1 = some r → qx_E g d M o (pc + 1) lv st σ1) : qx_E g d M o pc lv (.int x :: .int i :: .ref b :: st) σ := by
  intro p e s m args below meth c H locs ls X hP hD hS hl
  obtain ⟨h1, h2⟩ := qx_obE h
  refine va_zast (D := g.2.1) (cl := vwCl) X.1 X.2.1 X.2.2.2.2.2.2.2.1 hP hD hS q0 t0 ha ht h1 hd (fun H1 locs1 hP1 hD1 hS1 => ?_)
  rw [hσ] at hP1 hD1
  exact k h2 p e s m args below meth c H1 locs1 ls X hP1 hD1 hS1 hl
theorem qx_bast (q0 t0 : Nat) {b n : Nat} {cA : ClassId} {f : Nat → Int32} {i : Int32} {x : Int32} (σ1 : QS) (h : qx_ob i n A1 = some r) (ha : (g.2.2.2.1 σ)[q0]? = some (b, .inl (cA, n, .inl f))) (ht : g.2.2.1[t0]? = some (cA, .byte)) (hσ : (g.2.2.2.1 σ).set q0 (b, .inl (cA, n, .inl (upd f i.toNatClampNeg (vp_nar .byte x)))) = g.2.2.2.1 σ1) (hd : decode M.2.1 pc = .ok (.bastore, 1)) (k : A1 = some r → qx_E g d M o (pc + 1) lv st σ1) : qx_E g d M o pc lv (.int x :: .int i :: .ref b :: st) σ := by
  intro p e s m args below meth c H locs ls X hP hD hS hl
  obtain ⟨h1, h2⟩ := qx_obE h
  refine va_bast (D := g.2.1) (cl := vwCl) X.1 X.2.1 X.2.2.2.2.2.2.2.1 hP hD hS q0 t0 ha ht h1 hd (fun H1 locs1 hP1 hD1 hS1 => ?_)
  rw [hσ] at hP1 hD1
  exact k h2 p e s m args below meth c H1 locs1 ls X hP1 hD1 hS1 hl
theorem qx_last (q0 t0 : Nat) {b n : Nat} {cA : ClassId} {f : Nat → Int64} {i : Int32} {x : Int64} (σ1 : QS) (h : qx_ob i n A1 = some r) (ha : (g.2.2.2.1 σ)[q0]? = some (b, .inl (cA, n, .inr (.inl f)))) (ht : g.2.2.1[t0]? = some (cA, .long)) (hσ : (g.2.2.2.1 σ).set q0 (b, .inl (cA, n, .inr (.inl (vp_updL f i.toNatClampNeg x)))) = g.2.2.2.1 σ1) (hd : decode M.2.1 pc = .ok (.lastore, 1)) (k : A1 = some r → qx_E g d M o (pc + 1) lv st σ1) : qx_E g d M o pc lv (.long x :: .int i :: .ref b :: st) σ := by
  intro p e s m args below meth c H locs ls X hP hD hS hl
  obtain ⟨h1, h2⟩ := qx_obE h
  refine va_last (D := g.2.1) (cl := vwCl) X.1 X.2.1 X.2.2.2.2.2.2.2.1 hP hD hS q0 t0 ha ht h1 hd (fun H1 locs1 hP1 hD1 hS1 => ?_)
  rw [hσ] at hP1 hD1
  exact k h2 p e s m args below meth c H1 locs1 ls X hP1 hD1 hS1 hl
theorem qx_alen (q0 t0 : Nat) {b : Nat} {cA : ClassId} {x : vp_A} {ty : FieldType} (v : Int32) (ha : (g.2.2.2.1 σ)[q0]? = some (b, .inl (cA, x))) (ht : g.2.2.1[t0]? = some (cA, ty)) (hv : Int32.ofNat x.1 = v) (hd : decode M.2.1 pc = .ok (.arraylength, 1)) (k : qx_E g d M o (pc + 1) lv (.int v :: st) σ) : qx_E g d M o pc lv (.ref b :: st) σ := by
  intro p e s m args below meth c H locs ls X hP hD hS hl
  exact va_alen (D := g.2.1) (cl := vwCl) X.1 X.2.1 X.2.2.2.2.2.2.2.1 hP q0 t0 ha ht hv hd (k p e s m args below meth c H locs ls X hP hD hS hl)
-- ends
theorem qx_iret {v w : Int32} (h : some v = some w) (hr : M.2.2.2 = some .int) (hd : decode M.2.1 pc = .ok (.ireturn, 1)) : qx_E g d M (some (.int w), σ) pc lv [.int v] σ := by
  cases h
  intro p e s m args below meth c H locs ls X hP hD hS hl
  exact W.iret X.1 X.2.1 (X.2.2.2.1.trans hr) (fun t ht hW => ⟨⟨rfl, by rw [ht]; exact hP, hD⟩, hS.F ht⟩) hS.2.2 hd X.2.2.2.2.1
theorem qx_iretS {v : Int32} {q : Int32 × QS} (h : some (v, σ) = some q) (hr : M.2.2.2 = some .int) (hd : decode M.2.1 pc = .ok (.ireturn, 1)) : qx_E g d M (some (.int q.1), q.2) pc lv [.int v] σ := by
  cases h
  exact qx_iret rfl hr hd
theorem qx_lret {v w : Int64} (h : some v = some w) (hr : M.2.2.2 = some .long) (hd : decode M.2.1 pc = .ok (.lreturn, 1)) : qx_E g d M (some (.long w), σ) pc lv [.long v] σ := by
  cases h
  intro p e s m args below meth c H locs ls X hP hD hS hl
  exact W.lret X.1 X.2.1 (X.2.2.2.1.trans hr) (fun t ht hW => ⟨⟨rfl, by rw [ht]; exact hP, hD⟩, hS.F ht⟩) hS.2.2 hd X.2.2.2.2.1
theorem qx_lretS {v : Int64} {q : Int64 × QS} (h : some (v, σ) = some q) (hr : M.2.2.2 = some .long) (hd : decode M.2.1 pc = .ok (.lreturn, 1)) : qx_E g d M (some (.long q.1), q.2) pc lv [.long v] σ := by
  cases h
  exact qx_lret rfl hr hd
theorem qx_vret {q : QS} (h : some σ = some q) (hr : M.2.2.2 = none) (hd : decode M.2.1 pc = .ok (.return_, 1)) : qx_E g d M (none, q) pc lv [] σ := by
  cases h
  intro p e s m args below meth c H locs ls X hP hD hS hl
  exact W.vret X.1 X.2.1 (X.2.2.2.1.trans hr) (fun t ht hW => ⟨⟨rfl, by rw [ht]; exact hP, hD⟩, hS.F ht⟩) hS.2.2 hd X.2.2.2.2.1
end QW
section QZ
variable {p : Program} {l : Launch} {e : Env} {R : Room} {s : State} {m : MethodId} {args : Array Value} {below : List Frame} {meth : Method} {c : Code} {H : Heap} {locs : List Loc} {cells slots : Nat} {Q : State → Prop}
theorem qx_W_nret {cc : ByteArray} {Qc : Array Value → State → Outcome → State → Prop} {free : Addr → Prop} {v w : Int32} {ty : FieldType} (hexec : p.tables.exec = Jvm.exec) (hb : c.code = cc) (hr : meth.sig.returnType = some ty) (hn : narrow ty (.int v) = .int w)
    (hq : ∀ t : State, t.heap = H → s.WarmedH t.vm → Qc args s (.returned (some (.int w))) t) (hf : ∀ q ∈ locs, free q.base)
    {pc : Nat} {ls : Array Slot} (hdg : decode cc pc = .ok (.ireturn, 1)) (hlocks : meth.locks = false) : W p l e R s m args below meth c H locs cells slots (MQ below Qc args s cells slots free) (F0 m pc ls [.int v]) := by
  intro T hT X
  obtain ⟨fs, hret, hrun, hended, hW, hframe⟩ := X.leave (v := some (.int w)) (fun h => by rw [hr] at h; cases h)
  have hmeth' : T.vm.method? m = some meth := X.method'
  refine ⟨T.setFrames fs, ?_, .returned (some (.int w)), hrun, hended, hq _ hT hW, locs, ⟨⟨_, rfl⟩, hW, hframe⟩, hf⟩
  jvm_step X.here [X.here.top, hexec, hb, hdg, hmeth', hr, hn]
  (try refine ⟨rfl, ?_⟩); (try refine ⟨rfl, ?_⟩)
  first | (intro acts; rw [hret _ acts rfl rfl rfl]) | rw [hret _ _ rfl rfl rfl]
  exact Steps.refl _
end QZ
section QV
variable {g : QG} {d : Nat} {M : QM} {o : Option Value × QS} {pc : Nat} {lv : List (Nat × Value)} {st : List Value} {σ : QS}
theorem qx_nret {v v1 w : Int32} (h : some v1 = some w) {ty : FieldType} (hr : M.2.2.2 = some ty) (hn : narrow ty (.int v) = .int v1) (hd : decode M.2.1 pc = .ok (.ireturn, 1)) : qx_E g d M (some (.int w), σ) pc lv [.int v] σ := by
  cases h
  intro p e s m args below meth c H locs ls X hP hD hS hl
  exact qx_W_nret X.1 X.2.1 (X.2.2.2.1.trans hr) hn (fun t ht hW => ⟨⟨rfl, by rw [ht]; exact hP, hD⟩, hS.F ht⟩) hS.2.2 hd X.2.2.2.2.1
theorem qx_nretS {v v1 : Int32} {q : Int32 × QS} (h : some (v1, σ) = some q) {ty : FieldType} (hr : M.2.2.2 = some ty) (hn : narrow ty (.int v) = .int v1) (hd : decode M.2.1 pc = .ok (.ireturn, 1)) : qx_E g d M (some (.int q.1), q.2) pc lv [.int v] σ := by
  cases h
  exact qx_nret rfl hr hn hd
-- calls
theorem qx_met (hp : plainName M.1.cls = true) (av : List Value) (hlen : (lg_sl av).length ≤ M.2.2.1) (h : qx_E g d M o 0 (lv_args 0 av) [] σ) : Met g.1 M.1 (qx_ws M) (qx_rm d) (va_Pc av (qx_B g σ)) (qx_Q g o) 0 0 g.2.2.2.2.1 := by
  refine Met.ofW (cc := M.2.1) (maxL := M.2.2.1) (ret := M.2.2.2) hp rfl ?_
  intro p e s m args below meth c s₁ B hml hv
  obtain ⟨rfl, hP, hK, hD, hZ, hZo⟩ := hv
  rw [lg_entry_eq]
  exact h p e s m _ below meth c s.heap [] _ ⟨B.exec, B.bytes, hml, B.returns, B.notSynchronized, findClass_of_methodNamed B.named, fun w hw => atoms_spec (ws := qx_ws M) B.pre w (List.mem_cons_of_mem _ hw), hK, hZ, hZo⟩ hP hD va_S.rf (lv_entry av hlen)
/-- what the tables say of a method that is called -/
def qx_cm (M : QM) (n : Nat) : Prop := Cond.code M.1 M.2.1 M.2.2.1 M.2.2.2 ∈ qx_tb ∧ Cond.initialized M.1.cls ∈ qx_tb ∧ (M.1.cls ≠ "java/lang/invoke/MethodHandle" ∧ M.1.cls ≠ "java/lang/invoke/VarHandle" ∧ (parseMethodDescriptor M.1.desc).map (fun d => d.parameters.length) = some n) ∧ plainName M.1.cls = true ∧ M.2.2.1 ≤ 40
def qx_cv (M : QM) : Prop := Cond.instanceMethod M.1 ∈ qx_tb ∧ Cond.selects M.1.cls M.1 M.1 ∈ qx_tb
theorem qx_blind (av : List Value) : FrameBlind (va_Pc av (qx_B g σ)) := by
  intro a U f mk q
  obtain ⟨q0, qP, qK, qD, qZ, qo⟩ := q
  exact ⟨q0, qP, va_K.moved (u := U) (U := U.calling f mk a) (Vm.Alike.refl U.vm) qK, qD, qo.1 U (U.calling f mk a) U.heap rfl qZ, qo⟩
theorem qx_pre {p : Program} {s : State} {m : MethodId} {args : Array Value} {meth : Method} {c : Code} {H : Heap} {locs : List Loc} (X : qx_X g M p s m args meth c) (hP : va_P g.2.1 vwCl (g.2.2.2.1 σ) H) (hD : va_D g.2.2.2.2.1 (g.2.2.2.1 σ)) (hS : va_S g.2.2.2.2.1 s.heap H locs) (U : State) (hU : U.heap = H) (hW : s.WarmedH U.vm) : qx_B g σ U := by
  obtain ⟨-, -, -, -, -, -, -, hK, hZ, hZo⟩ := X
  refine ⟨by rw [hU]; exact hP, va_K.moved hW.alike hK, hD, ?_, hZo⟩
  rw [hU]
  exact hZo.2.1 s U H hW (hZo.2.2 s s.heap H (fun q h1 h2 => hS.2.1 q h1 h2) hZ)
theorem qx_room {M' : QM} {n d' : Nat} (hm : qx_cm M' n) (hdd : d' < d) : (qx_rm d').frames + 1 ≤ (qx_rm d).frames ∧ 8 + (M'.2.2.1 + 11) + (qx_rm d').locals ≤ (qx_rm d).locals := by
  have := hm.2.2.2.2
  simp only [qx_rm]
  omega
theorem qx_goOn {p : Program} {e : Env} {s : State} {m : MethodId} {args : Array Value} {below : List Frame} {meth : Method} {c : Code} {H : Heap} {locs : List Loc} {ls : Array Slot} {a : Array Value} {o1 : Option Value × QS} {rest st0 : List Value} (X : qx_X g M p s m args meth c) (hS : va_S g.2.2.2.2.1 s.heap H locs) (hl : lv_has ls M.2.2.1 lv)
    (hr : va_Run p g.1 e (qx_rm d) s m args below meth c H locs 0 0 0 0 (F0 m pc ls st0) rest (qx_Q g o1 a) g.2.2.2.2.1) (k : qx_E g d M o (pc + 3) lv (o1.1.toList ++ rest) o1.2) : W p g.1 e (qx_rm d) s m args below meth c H locs 0 0 (MQ below (qx_Q g o) args s 0 0 g.2.2.2.2.1) (F0 m pc ls st0) := by
  intro T hT Xs
  obtain ⟨v, st₀, t, T', L, h0, X', hL, e1, e2, ⟨⟨hv, hP1, hD1⟩, hz, hk⟩, stp⟩ := hr T hT Xs
  cases hv
  rw [h0] at hz hk
  obtain ⟨t2, a1, b1⟩ := k p e s m args below meth c T'.heap (locs ++ L) ls X (by rw [e1]; exact hP1) hD1
    ⟨Nat.le_trans hS.1 (by rw [e1]; exact hz), fun q h1 h2 => by rw [e1, hk q (Nat.lt_of_lt_of_le h1 hS.1) h2]; exact hS.2.1 q h1 h2, fun q hq => by
      rcases List.mem_append.mp hq with h | h
      · exact hS.2.2 q h
      · exact hL q h⟩ hl T' rfl X'
  exact ⟨t2, stp t2 a1, b1⟩
theorem qx_callV {M' : QM} {d' index n b ci : Nat} (q0 : Nat) {fs : List Value} {T : u_T} {N : Nat} (o1 : Option Value × QS) (As rest : List Value) (hst : st = As.reverse ++ .ref b :: rest) (he : (g.2.2.2.1 σ)[q0]? = some (b, .inr (ci, fs))) (hc : vwCl[ci]? = some (M'.1.cls, T, N)) (hm : qx_cm M' n) (hv : qx_cv M') (hw : Cond.methodLink M.1.cls index M'.1 ∈ qx_tb) (hn : As.length = n) (hlen : (lg_sl (.ref b :: As)).length ≤ M'.2.2.1) (hW : (rest.map fun v => v.category).sum ≤ 8) (hdd : d' < d) (hd : decode M.2.1 pc = .ok (.invokevirtual index, 3))
    (h1 : qx_E g d' M' o1 0 (lv_args 0 (.ref b :: As)) [] σ) (k : qx_E g d M o (pc + 3) lv (o1.1.toList ++ rest) o1.2) : qx_E g d M o pc lv st σ := by
  intro p e s m args below meth c H locs ls X hP hD hS hl
  have hts := X.2.2.2.2.2.2.1
  refine qx_goOn (o1 := o1) (rest := rest) X hS hl (va_runV (As := As) (rest := rest) (C := M'.1.cls) (n := n) (Ts := qx_tb) ⟨X.1, X.2.1, X.2.2.1, X.2.2.2.2.2.1, hts⟩ (qx_met hm.2.2.2.1 (.ref b :: As) hlen h1) (ret := M'.2.2.2) (bytes := M'.2.1) (maxL := M'.2.2.1) ⟨callB_of n hts (qx_goodIn hm.1) rfl rfl rfl (hts _ hm.2.1) (hts _ hw) hm.2.2.1 (qx_room hm hdd), hts _ hv.1, hts _ hv.2⟩ ⟨qx_blind _, va_recv X.2.2.2.2.2.2.2.1 hP hc he, fun U hU hW => ⟨rfl, qx_pre X hP hD hS U hU hW⟩⟩ rfl hn hl.1 hst (lv_room hW) hd ⟨Nat.le_refl _, Nat.le_refl _⟩) k
theorem qx_callS {M' : QM} {d' index n : Nat} (o1 : Option Value × QS) (As rest : List Value) (hst : st = As.reverse ++ rest) (hm : qx_cm M' n) (hv : Cond.static M'.1 ∈ qx_tb) (hw : Cond.methodLink M.1.cls index M'.1 ∈ qx_tb) (hn : As.length = n) (hlen : (lg_sl As).length ≤ M'.2.2.1) (hW : (rest.map fun v => v.category).sum ≤ 8) (hdd : d' < d) (hd : decode M.2.1 pc = .ok (.invokestatic index, 3))
    (h1 : qx_E g d' M' o1 0 (lv_args 0 As) [] σ) (k : qx_E g d M o (pc + 3) lv (o1.1.toList ++ rest) o1.2) : qx_E g d M o pc lv st σ := by
  intro p e s m args below meth c H locs ls X hP hD hS hl
  have hts := X.2.2.2.2.2.2.1
  refine qx_goOn (o1 := o1) (rest := rest) X hS hl (va_runS (As := As) (rest := rest) (n := n) (Ts := qx_tb) ⟨X.1, X.2.1, X.2.2.1, X.2.2.2.2.2.1, hts⟩ (qx_met hm.2.2.2.1 As hlen h1) (ret := M'.2.2.2) (bytes := M'.2.1) (maxL := M'.2.2.1) ⟨callB_of n hts (qx_goodIn hm.1) rfl rfl rfl (hts _ hm.2.1) (hts _ hw) hm.2.2.1 (qx_room hm hdd), hts _ hv⟩ ⟨qx_blind _, fun U hU hW => ⟨rfl, qx_pre X hP hD hS U hU hW⟩⟩ rfl hn hl.1 hst (lv_room hW) hd ⟨Nat.le_refl _, Nat.le_refl _⟩) k
end QV
end
section
theorem i_vc : Claimed_1_1 ∧ Claimed_1_2 := sorry
end
