-- ===== PART A: goes FIRST, ahead of the names: the tables' words, and 'selects' of the private methods out of them =====
/-- a private method of a class that the tables say can be made, by its rows of tables_1 -/
def lw_okq (q : MethodName × Nat) : Prop := (q.1.cls ≠ "java/lang/invoke/MethodHandle" ∧ q.1.cls ≠ "java/lang/invoke/VarHandle") ∧ Cond.instantiable q.1.cls q.2 ∈ tables_1 ∧ Cond.privateMethod q.1 ∈ tables_1 ∧ Cond.instanceMethod q.1 ∈ tables_1
theorem lw_p0 : lw_okq (⟨"PretzelProof", "shakenOutOnes", "()I"⟩, 14) := ⟨⟨by decide +kernel, by decide +kernel⟩, List.mem_of_getElem? (i := 18) (by decide +kernel), List.mem_of_getElem? (i := 460) (by decide +kernel), List.mem_of_getElem? (i := 461) (by decide +kernel)⟩
theorem lw_p1 : lw_okq (⟨"PretzelProof", "weakOnes", "(LPretzelProof$Rope;)I"⟩, 14) := ⟨⟨by decide +kernel, by decide +kernel⟩, List.mem_of_getElem? (i := 18) (by decide +kernel), List.mem_of_getElem? (i := 553) (by decide +kernel), List.mem_of_getElem? (i := 554) (by decide +kernel)⟩
theorem lw_p2 : lw_okq (⟨"PretzelProof", "fewestSwitches", "(LPretzelProof$Rope;)I"⟩, 14) := ⟨⟨by decide +kernel, by decide +kernel⟩, List.mem_of_getElem? (i := 18) (by decide +kernel), List.mem_of_getElem? (i := 557) (by decide +kernel), List.mem_of_getElem? (i := 558) (by decide +kernel)⟩
theorem lw_p3 : lw_okq (⟨"PretzelProof", "driftOnce", "()V"⟩, 14) := ⟨⟨by decide +kernel, by decide +kernel⟩, List.mem_of_getElem? (i := 18) (by decide +kernel), List.mem_of_getElem? (i := 683) (by decide +kernel), List.mem_of_getElem? (i := 684) (by decide +kernel)⟩
theorem lw_p4 : lw_okq (⟨"PretzelProof", "draw", "(I)I"⟩, 14) := ⟨⟨by decide +kernel, by decide +kernel⟩, List.mem_of_getElem? (i := 18) (by decide +kernel), List.mem_of_getElem? (i := 687) (by decide +kernel), List.mem_of_getElem? (i := 688) (by decide +kernel)⟩
theorem lw_p5 : lw_okq (⟨"PretzelProof", "shakeByFirstMove", "(LPretzelProof$Rope;)V"⟩, 14) := ⟨⟨by decide +kernel, by decide +kernel⟩, List.mem_of_getElem? (i := 18) (by decide +kernel), List.mem_of_getElem? (i := 696) (by decide +kernel), List.mem_of_getElem? (i := 697) (by decide +kernel)⟩
theorem lw_p6 : lw_okq (⟨"PretzelProof", "curlByDraws", "(LPretzelProof$Rope;)V"⟩, 14) := ⟨⟨by decide +kernel, by decide +kernel⟩, List.mem_of_getElem? (i := 18) (by decide +kernel), List.mem_of_getElem? (i := 701) (by decide +kernel), List.mem_of_getElem? (i := 702) (by decide +kernel)⟩
theorem lw_p7 : lw_okq (⟨"PretzelProof", "fewestUnsalted", "(LPretzelProof$Rope;)I"⟩, 14) := ⟨⟨by decide +kernel, by decide +kernel⟩, List.mem_of_getElem? (i := 18) (by decide +kernel), List.mem_of_getElem? (i := 767) (by decide +kernel), List.mem_of_getElem? (i := 768) (by decide +kernel)⟩
theorem lw_p8 : lw_okq (⟨"PretzelProofModel", "reads", "()V"⟩, 35) := ⟨⟨by decide +kernel, by decide +kernel⟩, List.mem_of_getElem? (i := 827) (by decide +kernel), List.mem_of_getElem? (i := 954) (by decide +kernel), List.mem_of_getElem? (i := 955) (by decide +kernel)⟩
theorem lw_p9 : lw_okq (⟨"PretzelProofModel", "next", "()I"⟩, 35) := ⟨⟨by decide +kernel, by decide +kernel⟩, List.mem_of_getElem? (i := 827) (by decide +kernel), List.mem_of_getElem? (i := 958) (by decide +kernel), List.mem_of_getElem? (i := 959) (by decide +kernel)⟩
theorem lw_p10 : lw_okq (⟨"PretzelProofModel", "blames", "(II)V"⟩, 35) := ⟨⟨by decide +kernel, by decide +kernel⟩, List.mem_of_getElem? (i := 827) (by decide +kernel), List.mem_of_getElem? (i := 962) (by decide +kernel), List.mem_of_getElem? (i := 963) (by decide +kernel)⟩
theorem lw_p11 : lw_okq (⟨"PretzelProofModel", "grains", "()V"⟩, 35) := ⟨⟨by decide +kernel, by decide +kernel⟩, List.mem_of_getElem? (i := 827) (by decide +kernel), List.mem_of_getElem? (i := 966) (by decide +kernel), List.mem_of_getElem? (i := 967) (by decide +kernel)⟩
theorem lw_p12 : lw_okq (⟨"PretzelProofModel", "ends", "()V"⟩, 35) := ⟨⟨by decide +kernel, by decide +kernel⟩, List.mem_of_getElem? (i := 827) (by decide +kernel), List.mem_of_getElem? (i := 972) (by decide +kernel), List.mem_of_getElem? (i := 973) (by decide +kernel)⟩
theorem lw_p13 : lw_okq (⟨"PretzelProofModel", "threads", "()V"⟩, 35) := ⟨⟨by decide +kernel, by decide +kernel⟩, List.mem_of_getElem? (i := 827) (by decide +kernel), List.mem_of_getElem? (i := 976) (by decide +kernel), List.mem_of_getElem? (i := 977) (by decide +kernel)⟩
theorem lw_p14 : lw_okq (⟨"PretzelProofModel", "stores", "(I)V"⟩, 35) := ⟨⟨by decide +kernel, by decide +kernel⟩, List.mem_of_getElem? (i := 827) (by decide +kernel), List.mem_of_getElem? (i := 987) (by decide +kernel), List.mem_of_getElem? (i := 988) (by decide +kernel)⟩
theorem lw_p15 : lw_okq (⟨"PretzelProofModel", "numbers", "(I)I"⟩, 35) := ⟨⟨by decide +kernel, by decide +kernel⟩, List.mem_of_getElem? (i := 827) (by decide +kernel), List.mem_of_getElem? (i := 991) (by decide +kernel), List.mem_of_getElem? (i := 992) (by decide +kernel)⟩
def lw_privs_1 : List (MethodName × Nat) := [(⟨"PretzelProof", "shakenOutOnes", "()I"⟩, 14), (⟨"PretzelProof", "weakOnes", "(LPretzelProof$Rope;)I"⟩, 14), (⟨"PretzelProof", "fewestSwitches", "(LPretzelProof$Rope;)I"⟩, 14), (⟨"PretzelProof", "driftOnce", "()V"⟩, 14), (⟨"PretzelProof", "draw", "(I)I"⟩, 14), (⟨"PretzelProof", "shakeByFirstMove", "(LPretzelProof$Rope;)V"⟩, 14), (⟨"PretzelProof", "curlByDraws", "(LPretzelProof$Rope;)V"⟩, 14), (⟨"PretzelProof", "fewestUnsalted", "(LPretzelProof$Rope;)I"⟩, 14), (⟨"PretzelProofModel", "reads", "()V"⟩, 35), (⟨"PretzelProofModel", "next", "()I"⟩, 35), (⟨"PretzelProofModel", "blames", "(II)V"⟩, 35), (⟨"PretzelProofModel", "grains", "()V"⟩, 35), (⟨"PretzelProofModel", "ends", "()V"⟩, 35), (⟨"PretzelProofModel", "threads", "()V"⟩, 35), (⟨"PretzelProofModel", "stores", "(I)V"⟩, 35), (⟨"PretzelProofModel", "numbers", "(I)I"⟩, 35)]
theorem lw_r1 : ∀ q ∈ lw_privs_1, lw_okq q := List.forall_mem_cons.mpr ⟨lw_p0, List.forall_mem_cons.mpr ⟨lw_p1, List.forall_mem_cons.mpr ⟨lw_p2, List.forall_mem_cons.mpr ⟨lw_p3, List.forall_mem_cons.mpr ⟨lw_p4, List.forall_mem_cons.mpr ⟨lw_p5, List.forall_mem_cons.mpr ⟨lw_p6, List.forall_mem_cons.mpr ⟨lw_p7, List.forall_mem_cons.mpr ⟨lw_p8, List.forall_mem_cons.mpr ⟨lw_p9, List.forall_mem_cons.mpr ⟨lw_p10, List.forall_mem_cons.mpr ⟨lw_p11, List.forall_mem_cons.mpr ⟨lw_p12, List.forall_mem_cons.mpr ⟨lw_p13, List.forall_mem_cons.mpr ⟨lw_p14, List.forall_mem_cons.mpr ⟨lw_p15, fun _ h => absurd h List.not_mem_nil⟩⟩⟩⟩⟩⟩⟩⟩⟩⟩⟩⟩⟩⟩⟩⟩
theorem lw_p16 : lw_okq (⟨"PretzelProofModel", "base", "(I)I"⟩, 35) := ⟨⟨by decide +kernel, by decide +kernel⟩, List.mem_of_getElem? (i := 827) (by decide +kernel), List.mem_of_getElem? (i := 998) (by decide +kernel), List.mem_of_getElem? (i := 999) (by decide +kernel)⟩
theorem lw_p17 : lw_okq (⟨"PretzelProofModel", "isOne", "(I)Z"⟩, 35) := ⟨⟨by decide +kernel, by decide +kernel⟩, List.mem_of_getElem? (i := 827) (by decide +kernel), List.mem_of_getElem? (i := 1010) (by decide +kernel), List.mem_of_getElem? (i := 1011) (by decide +kernel)⟩
theorem lw_p18 : lw_okq (⟨"PretzelProofModel", "loads", "(I)V"⟩, 35) := ⟨⟨by decide +kernel, by decide +kernel⟩, List.mem_of_getElem? (i := 827) (by decide +kernel), List.mem_of_getElem? (i := 1015) (by decide +kernel), List.mem_of_getElem? (i := 1016) (by decide +kernel)⟩
theorem lw_p19 : lw_okq (⟨"PretzelProofModel", "passes", "(I)I"⟩, 35) := ⟨⟨by decide +kernel, by decide +kernel⟩, List.mem_of_getElem? (i := 827) (by decide +kernel), List.mem_of_getElem? (i := 1019) (by decide +kernel), List.mem_of_getElem? (i := 1020) (by decide +kernel)⟩
theorem lw_p20 : lw_okq (⟨"PretzelProofModel", "moveOf", "(I)I"⟩, 35) := ⟨⟨by decide +kernel, by decide +kernel⟩, List.mem_of_getElem? (i := 827) (by decide +kernel), List.mem_of_getElem? (i := 1023) (by decide +kernel), List.mem_of_getElem? (i := 1024) (by decide +kernel)⟩
theorem lw_p21 : lw_okq (⟨"PretzelProofModel", "leaves", "(I)V"⟩, 35) := ⟨⟨by decide +kernel, by decide +kernel⟩, List.mem_of_getElem? (i := 827) (by decide +kernel), List.mem_of_getElem? (i := 1027) (by decide +kernel), List.mem_of_getElem? (i := 1028) (by decide +kernel)⟩
theorem lw_p22 : lw_okq (⟨"PretzelProofModel", "isMove", "(IIII)Z"⟩, 35) := ⟨⟨by decide +kernel, by decide +kernel⟩, List.mem_of_getElem? (i := 827) (by decide +kernel), List.mem_of_getElem? (i := 1031) (by decide +kernel), List.mem_of_getElem? (i := 1032) (by decide +kernel)⟩
theorem lw_p23 : lw_okq (⟨"PretzelProofModel", "isBeside", "(II)Z"⟩, 35) := ⟨⟨by decide +kernel, by decide +kernel⟩, List.mem_of_getElem? (i := 827) (by decide +kernel), List.mem_of_getElem? (i := 1035) (by decide +kernel), List.mem_of_getElem? (i := 1036) (by decide +kernel)⟩
theorem lw_p24 : lw_okq (⟨"PretzelProofModel", "shaken", "(II)I"⟩, 35) := ⟨⟨by decide +kernel, by decide +kernel⟩, List.mem_of_getElem? (i := 827) (by decide +kernel), List.mem_of_getElem? (i := 1044) (by decide +kernel), List.mem_of_getElem? (i := 1045) (by decide +kernel)⟩
theorem lw_p25 : lw_okq (⟨"PretzelProofModel", "shakes", "(I)V"⟩, 35) := ⟨⟨by decide +kernel, by decide +kernel⟩, List.mem_of_getElem? (i := 827) (by decide +kernel), List.mem_of_getElem? (i := 1048) (by decide +kernel), List.mem_of_getElem? (i := 1049) (by decide +kernel)⟩
theorem lw_p26 : lw_okq (⟨"PretzelProofModel", "comesTo", "(III)V"⟩, 35) := ⟨⟨by decide +kernel, by decide +kernel⟩, List.mem_of_getElem? (i := 827) (by decide +kernel), List.mem_of_getElem? (i := 1055) (by decide +kernel), List.mem_of_getElem? (i := 1056) (by decide +kernel)⟩
theorem lw_p27 : lw_okq (⟨"PretzelProofModel", "crossings", "(I)I"⟩, 35) := ⟨⟨by decide +kernel, by decide +kernel⟩, List.mem_of_getElem? (i := 827) (by decide +kernel), List.mem_of_getElem? (i := 1066) (by decide +kernel), List.mem_of_getElem? (i := 1067) (by decide +kernel)⟩
theorem lw_p28 : lw_okq (⟨"PretzelProofModel", "parts", "()V"⟩, 35) := ⟨⟨by decide +kernel, by decide +kernel⟩, List.mem_of_getElem? (i := 827) (by decide +kernel), List.mem_of_getElem? (i := 1070) (by decide +kernel), List.mem_of_getElem? (i := 1071) (by decide +kernel)⟩
theorem lw_p29 : lw_okq (⟨"PretzelProofModel", "isWay", "(I)Z"⟩, 35) := ⟨⟨by decide +kernel, by decide +kernel⟩, List.mem_of_getElem? (i := 827) (by decide +kernel), List.mem_of_getElem? (i := 1074) (by decide +kernel), List.mem_of_getElem? (i := 1075) (by decide +kernel)⟩
theorem lw_p30 : lw_okq (⟨"PretzelProofModel", "colours", "(I)I"⟩, 35) := ⟨⟨by decide +kernel, by decide +kernel⟩, List.mem_of_getElem? (i := 827) (by decide +kernel), List.mem_of_getElem? (i := 1091) (by decide +kernel), List.mem_of_getElem? (i := 1092) (by decide +kernel)⟩
theorem lw_p31 : lw_okq (⟨"PretzelProofModel", "swaps", "(II)V"⟩, 35) := ⟨⟨by decide +kernel, by decide +kernel⟩, List.mem_of_getElem? (i := 827) (by decide +kernel), List.mem_of_getElem? (i := 1095) (by decide +kernel), List.mem_of_getElem? (i := 1096) (by decide +kernel)⟩
def lw_privs_2 : List (MethodName × Nat) := [(⟨"PretzelProofModel", "base", "(I)I"⟩, 35), (⟨"PretzelProofModel", "isOne", "(I)Z"⟩, 35), (⟨"PretzelProofModel", "loads", "(I)V"⟩, 35), (⟨"PretzelProofModel", "passes", "(I)I"⟩, 35), (⟨"PretzelProofModel", "moveOf", "(I)I"⟩, 35), (⟨"PretzelProofModel", "leaves", "(I)V"⟩, 35), (⟨"PretzelProofModel", "isMove", "(IIII)Z"⟩, 35), (⟨"PretzelProofModel", "isBeside", "(II)Z"⟩, 35), (⟨"PretzelProofModel", "shaken", "(II)I"⟩, 35), (⟨"PretzelProofModel", "shakes", "(I)V"⟩, 35), (⟨"PretzelProofModel", "comesTo", "(III)V"⟩, 35), (⟨"PretzelProofModel", "crossings", "(I)I"⟩, 35), (⟨"PretzelProofModel", "parts", "()V"⟩, 35), (⟨"PretzelProofModel", "isWay", "(I)Z"⟩, 35), (⟨"PretzelProofModel", "colours", "(I)I"⟩, 35), (⟨"PretzelProofModel", "swaps", "(II)V"⟩, 35)]
theorem lw_r2 : ∀ q ∈ lw_privs_2, lw_okq q := List.forall_mem_cons.mpr ⟨lw_p16, List.forall_mem_cons.mpr ⟨lw_p17, List.forall_mem_cons.mpr ⟨lw_p18, List.forall_mem_cons.mpr ⟨lw_p19, List.forall_mem_cons.mpr ⟨lw_p20, List.forall_mem_cons.mpr ⟨lw_p21, List.forall_mem_cons.mpr ⟨lw_p22, List.forall_mem_cons.mpr ⟨lw_p23, List.forall_mem_cons.mpr ⟨lw_p24, List.forall_mem_cons.mpr ⟨lw_p25, List.forall_mem_cons.mpr ⟨lw_p26, List.forall_mem_cons.mpr ⟨lw_p27, List.forall_mem_cons.mpr ⟨lw_p28, List.forall_mem_cons.mpr ⟨lw_p29, List.forall_mem_cons.mpr ⟨lw_p30, List.forall_mem_cons.mpr ⟨lw_p31, fun _ h => absurd h List.not_mem_nil⟩⟩⟩⟩⟩⟩⟩⟩⟩⟩⟩⟩⟩⟩⟩⟩
theorem lw_p32 : lw_okq (⟨"PretzelProofModel", "clears", "(IIII)V"⟩, 35) := ⟨⟨by decide +kernel, by decide +kernel⟩, List.mem_of_getElem? (i := 827) (by decide +kernel), List.mem_of_getElem? (i := 1099) (by decide +kernel), List.mem_of_getElem? (i := 1100) (by decide +kernel)⟩
theorem lw_p33 : lw_okq (⟨"PretzelProofModel", "weak", "()I"⟩, 35) := ⟨⟨by decide +kernel, by decide +kernel⟩, List.mem_of_getElem? (i := 827) (by decide +kernel), List.mem_of_getElem? (i := 1103) (by decide +kernel), List.mem_of_getElem? (i := 1104) (by decide +kernel)⟩
theorem lw_p34 : lw_okq (⟨"PretzelProofModel", "isOut", "(I)Z"⟩, 35) := ⟨⟨by decide +kernel, by decide +kernel⟩, List.mem_of_getElem? (i := 827) (by decide +kernel), List.mem_of_getElem? (i := 1107) (by decide +kernel), List.mem_of_getElem? (i := 1108) (by decide +kernel)⟩
theorem lw_p35 : lw_okq (⟨"PretzelProofModel", "turns", "(I)V"⟩, 35) := ⟨⟨by decide +kernel, by decide +kernel⟩, List.mem_of_getElem? (i := 827) (by decide +kernel), List.mem_of_getElem? (i := 1111) (by decide +kernel), List.mem_of_getElem? (i := 1112) (by decide +kernel)⟩
theorem lw_p36 : lw_okq (⟨"PretzelProofModel", "switches", "()I"⟩, 35) := ⟨⟨by decide +kernel, by decide +kernel⟩, List.mem_of_getElem? (i := 827) (by decide +kernel), List.mem_of_getElem? (i := 1115) (by decide +kernel), List.mem_of_getElem? (i := 1116) (by decide +kernel)⟩
theorem lw_p37 : lw_okq (⟨"PretzelProofModel", "odd", "()I"⟩, 35) := ⟨⟨by decide +kernel, by decide +kernel⟩, List.mem_of_getElem? (i := 827) (by decide +kernel), List.mem_of_getElem? (i := 1119) (by decide +kernel), List.mem_of_getElem? (i := 1120) (by decide +kernel)⟩
theorem lw_p38 : lw_okq (⟨"PretzelProofModel", "inside", "(I)I"⟩, 35) := ⟨⟨by decide +kernel, by decide +kernel⟩, List.mem_of_getElem? (i := 827) (by decide +kernel), List.mem_of_getElem? (i := 1123) (by decide +kernel), List.mem_of_getElem? (i := 1124) (by decide +kernel)⟩
theorem lw_p39 : lw_okq (⟨"PretzelProofModel", "isCrossing", "(II)Z"⟩, 35) := ⟨⟨by decide +kernel, by decide +kernel⟩, List.mem_of_getElem? (i := 827) (by decide +kernel), List.mem_of_getElem? (i := 1135) (by decide +kernel), List.mem_of_getElem? (i := 1136) (by decide +kernel)⟩
theorem lw_p40 : lw_okq (⟨"PretzelProofModel", "isTwo", "(II)Z"⟩, 35) := ⟨⟨by decide +kernel, by decide +kernel⟩, List.mem_of_getElem? (i := 827) (by decide +kernel), List.mem_of_getElem? (i := 1143) (by decide +kernel), List.mem_of_getElem? (i := 1144) (by decide +kernel)⟩
theorem lw_p41 : lw_okq (⟨"PretzelProofModel", "reverses", "()V"⟩, 35) := ⟨⟨by decide +kernel, by decide +kernel⟩, List.mem_of_getElem? (i := 827) (by decide +kernel), List.mem_of_getElem? (i := 1147) (by decide +kernel), List.mem_of_getElem? (i := 1148) (by decide +kernel)⟩
theorem lw_p42 : lw_okq (⟨"PretzelProofModel", "isSame", "(I)Z"⟩, 35) := ⟨⟨by decide +kernel, by decide +kernel⟩, List.mem_of_getElem? (i := 827) (by decide +kernel), List.mem_of_getElem? (i := 1151) (by decide +kernel), List.mem_of_getElem? (i := 1152) (by decide +kernel)⟩
theorem lw_p43 : lw_okq (⟨"PretzelProofModel", "known", "()V"⟩, 35) := ⟨⟨by decide +kernel, by decide +kernel⟩, List.mem_of_getElem? (i := 827) (by decide +kernel), List.mem_of_getElem? (i := 1168) (by decide +kernel), List.mem_of_getElem? (i := 1169) (by decide +kernel)⟩
theorem lw_p44 : lw_okq (⟨"PretzelProofModel", "copies", "(II)V"⟩, 35) := ⟨⟨by decide +kernel, by decide +kernel⟩, List.mem_of_getElem? (i := 827) (by decide +kernel), List.mem_of_getElem? (i := 1172) (by decide +kernel), List.mem_of_getElem? (i := 1173) (by decide +kernel)⟩
theorem lw_p45 : lw_okq (⟨"PretzelProofModel", "drops", "(I)V"⟩, 35) := ⟨⟨by decide +kernel, by decide +kernel⟩, List.mem_of_getElem? (i := 827) (by decide +kernel), List.mem_of_getElem? (i := 1176) (by decide +kernel), List.mem_of_getElem? (i := 1177) (by decide +kernel)⟩
theorem lw_p46 : lw_okq (⟨"PretzelProofModel", "curls", "(IIZ)V"⟩, 35) := ⟨⟨by decide +kernel, by decide +kernel⟩, List.mem_of_getElem? (i := 827) (by decide +kernel), List.mem_of_getElem? (i := 1184) (by decide +kernel), List.mem_of_getElem? (i := 1185) (by decide +kernel)⟩
theorem lw_p47 : lw_okq (⟨"PretzelProofModel", "rolls", "(I)V"⟩, 35) := ⟨⟨by decide +kernel, by decide +kernel⟩, List.mem_of_getElem? (i := 827) (by decide +kernel), List.mem_of_getElem? (i := 1204) (by decide +kernel), List.mem_of_getElem? (i := 1205) (by decide +kernel)⟩
def lw_privs_3 : List (MethodName × Nat) := [(⟨"PretzelProofModel", "clears", "(IIII)V"⟩, 35), (⟨"PretzelProofModel", "weak", "()I"⟩, 35), (⟨"PretzelProofModel", "isOut", "(I)Z"⟩, 35), (⟨"PretzelProofModel", "turns", "(I)V"⟩, 35), (⟨"PretzelProofModel", "switches", "()I"⟩, 35), (⟨"PretzelProofModel", "odd", "()I"⟩, 35), (⟨"PretzelProofModel", "inside", "(I)I"⟩, 35), (⟨"PretzelProofModel", "isCrossing", "(II)Z"⟩, 35), (⟨"PretzelProofModel", "isTwo", "(II)Z"⟩, 35), (⟨"PretzelProofModel", "reverses", "()V"⟩, 35), (⟨"PretzelProofModel", "isSame", "(I)Z"⟩, 35), (⟨"PretzelProofModel", "known", "()V"⟩, 35), (⟨"PretzelProofModel", "copies", "(II)V"⟩, 35), (⟨"PretzelProofModel", "drops", "(I)V"⟩, 35), (⟨"PretzelProofModel", "curls", "(IIZ)V"⟩, 35), (⟨"PretzelProofModel", "rolls", "(I)V"⟩, 35)]
theorem lw_r3 : ∀ q ∈ lw_privs_3, lw_okq q := List.forall_mem_cons.mpr ⟨lw_p32, List.forall_mem_cons.mpr ⟨lw_p33, List.forall_mem_cons.mpr ⟨lw_p34, List.forall_mem_cons.mpr ⟨lw_p35, List.forall_mem_cons.mpr ⟨lw_p36, List.forall_mem_cons.mpr ⟨lw_p37, List.forall_mem_cons.mpr ⟨lw_p38, List.forall_mem_cons.mpr ⟨lw_p39, List.forall_mem_cons.mpr ⟨lw_p40, List.forall_mem_cons.mpr ⟨lw_p41, List.forall_mem_cons.mpr ⟨lw_p42, List.forall_mem_cons.mpr ⟨lw_p43, List.forall_mem_cons.mpr ⟨lw_p44, List.forall_mem_cons.mpr ⟨lw_p45, List.forall_mem_cons.mpr ⟨lw_p46, List.forall_mem_cons.mpr ⟨lw_p47, fun _ h => absurd h List.not_mem_nil⟩⟩⟩⟩⟩⟩⟩⟩⟩⟩⟩⟩⟩⟩⟩⟩
theorem lw_p48 : lw_okq (⟨"PretzelProofModel", "drifts", "()V"⟩, 35) := ⟨⟨by decide +kernel, by decide +kernel⟩, List.mem_of_getElem? (i := 827) (by decide +kernel), List.mem_of_getElem? (i := 1222) (by decide +kernel), List.mem_of_getElem? (i := 1223) (by decide +kernel)⟩
theorem lw_p49 : lw_okq (⟨"PretzelProofModel", "draw", "(I)I"⟩, 35) := ⟨⟨by decide +kernel, by decide +kernel⟩, List.mem_of_getElem? (i := 827) (by decide +kernel), List.mem_of_getElem? (i := 1226) (by decide +kernel), List.mem_of_getElem? (i := 1227) (by decide +kernel)⟩
def lw_privs_4 : List (MethodName × Nat) := [(⟨"PretzelProofModel", "drifts", "()V"⟩, 35), (⟨"PretzelProofModel", "draw", "(I)I"⟩, 35)]
theorem lw_r4 : ∀ q ∈ lw_privs_4, lw_okq q := List.forall_mem_cons.mpr ⟨lw_p48, List.forall_mem_cons.mpr ⟨lw_p49, fun _ h => absurd h List.not_mem_nil⟩⟩
def lw_privs : List (MethodName × Nat) := lw_privs_1 ++ (lw_privs_2 ++ (lw_privs_3 ++ (lw_privs_4)))
def lw_tbl : List Cond := k2_sels lw_privs ++ tables_1
theorem lw_privs_ok : ∀ q ∈ lw_privs, lw_okq q := by
  show ∀ q ∈ lw_privs_1 ++ (lw_privs_2 ++ (lw_privs_3 ++ (lw_privs_4))), lw_okq q
  exact List.forall_mem_append.mpr ⟨lw_r1, List.forall_mem_append.mpr ⟨lw_r2, List.forall_mem_append.mpr ⟨lw_r3, lw_r4⟩⟩⟩
/-! ===== BEGIN printed: names, fields, word lists, decode rows ===== -/
def RX0 : String := "PretzelProof$Book"
def TX0 : u_T := fun k => match k with
  | 0 => ("PretzelProof$Book", "pretzels", "[I", true)
  | 1 => ("PretzelProof$Book", "crossings", "[I", true)
  | _ => ("PretzelProof$Book", "entries", "I", false)
def tyX0 : Nat → FieldType := fun k => match k with
  | 0 => .array .int
  | 1 => .array .int
  | _ => .int
abbrev wsX00 : List Cond := u_ws RX0 TX0 3
theorem nmX0 : ∀ a, a < 3 → ∀ b, b < 3 → a ≠ b → (TX0 a).2.1 ≠ (TX0 b).2.1 := by decide +kernel
theorem tyX0_ok : ∀ k, k < 3 → parseFieldDescriptor (TX0 k).2.2.1 = some (tyX0 k) := by decide +kernel
abbrev cX0_init : ByteArray := prog_2_method_1_code
def yX0_init : MethodName := ⟨RX0, "<init>", "()V"⟩
abbrev cX0_addEntry : ByteArray := prog_2_method_2_code
def yX0_addEntry : MethodName := ⟨RX0, "addEntry", "(II)Z"⟩
abbrev cX0_firstWrong : ByteArray := prog_2_method_3_code
def yX0_firstWrong : MethodName := ⟨RX0, "firstWrong", "(LPretzelProof$Tray;)I"⟩
def RX1 : String := "PretzelProof$Colours"
def TX1 : u_T := fun k => match k with
  | 0 => ("PretzelProof$Colours", "rows", "[[I", true)
  | 1 => ("PretzelProof$Colours", "overParts", "[I", true)
  | 2 => ("PretzelProof$Colours", "beginningParts", "[I", true)
  | 3 => ("PretzelProof$Colours", "pivotRows", "[I", true)
  | 4 => ("PretzelProof$Colours", "parts", "I", false)
  | _ => ("PretzelProof$Colours", "rank", "I", false)
def tyX1 : Nat → FieldType := fun k => match k with
  | 0 => .array (.array .int)
  | 1 => .array .int
  | 2 => .array .int
  | 3 => .array .int
  | 4 => .int
  | _ => .int
abbrev wsX10 : List Cond := u_ws RX1 TX1 6
theorem nmX1 : ∀ a, a < 6 → ∀ b, b < 6 → a ≠ b → (TX1 a).2.1 ≠ (TX1 b).2.1 := by decide +kernel
theorem tyX1_ok : ∀ k, k < 6 → parseFieldDescriptor (TX1 k).2.2.1 = some (tyX1 k) := by decide +kernel
abbrev cX1_init : ByteArray := prog_3_method_1_code
def yX1_init : MethodName := ⟨RX1, "<init>", "()V"⟩
abbrev cX1_waysBy : ByteArray := prog_3_method_2_code
def yX1_waysBy : MethodName := ⟨RX1, "waysBy", "(LPretzelProof$Rope;I)I"⟩
abbrev cX1_firstColourOf : ByteArray := prog_3_method_3_code
def yX1_firstColourOf : MethodName := ⟨RX1, "firstColourOf", "(LPretzelProof$Rope;I)I"⟩
abbrev cX1_solve : ByteArray := prog_3_method_4_code
def yX1_solve : MethodName := ⟨RX1, "solve", "(LPretzelProof$Rope;I)V"⟩
abbrev cX1_findParts : ByteArray := prog_3_method_5_code
def yX1_findParts : MethodName := ⟨RX1, "findParts", "(LPretzelProof$Rope;)V"⟩
abbrev cX1_writeRows : ByteArray := prog_3_method_6_code
def yX1_writeRows : MethodName := ⟨RX1, "writeRows", "(LPretzelProof$Rope;I)V"⟩
abbrev cX1_addTo : ByteArray := prog_3_method_7_code
def yX1_addTo : MethodName := ⟨RX1, "addTo", "(IIII)V"⟩
abbrev cX1_rowWith : ByteArray := prog_3_method_8_code
def yX1_rowWith : MethodName := ⟨RX1, "rowWith", "(II)I"⟩
abbrev cX1_exchangeRows : ByteArray := prog_3_method_9_code
def yX1_exchangeRows : MethodName := ⟨RX1, "exchangeRows", "(II)V"⟩
abbrev cX1_scaleRow : ByteArray := prog_3_method_10_code
def yX1_scaleRow : MethodName := ⟨RX1, "scaleRow", "(III)V"⟩
abbrev cX1_clearOthers : ByteArray := prog_3_method_11_code
def yX1_clearOthers : MethodName := ⟨RX1, "clearOthers", "(IIII)V"⟩
def RX2 : String := "PretzelProof$History"
def TX2 : u_T := fun k => match k with
  | 0 => ("PretzelProof$History", "ahead", "[LPretzelProof$Tray;", true)
  | 1 => ("PretzelProof$History", "next", "I", false)
  | _ => ("PretzelProof$History", "count", "I", false)
def tyX2 : Nat → FieldType := fun k => match k with
  | 0 => .array (.object "PretzelProof$Tray")
  | 1 => .int
  | _ => .int
abbrev wsX20 : List Cond := u_ws RX2 TX2 3
theorem nmX2 : ∀ a, a < 3 → ∀ b, b < 3 → a ≠ b → (TX2 a).2.1 ≠ (TX2 b).2.1 := by decide +kernel
theorem tyX2_ok : ∀ k, k < 3 → parseFieldDescriptor (TX2 k).2.2.1 = some (tyX2 k) := by decide +kernel
abbrev cX2_init : ByteArray := prog_4_method_1_code
def yX2_init : MethodName := ⟨RX2, "<init>", "(LPretzelProof$Numbering;)V"⟩
abbrev cX2_forgetAll : ByteArray := prog_4_method_2_code
def yX2_forgetAll : MethodName := ⟨RX2, "forgetAll", "()V"⟩
abbrev cX2_remember : ByteArray := prog_4_method_3_code
def yX2_remember : MethodName := ⟨RX2, "remember", "(LPretzelProof$Tray;)V"⟩
abbrev cX2_restore : ByteArray := prog_4_method_4_code
def yX2_restore : MethodName := ⟨RX2, "restore", "(LPretzelProof$Tray;)Z"⟩
def RX3 : String := "PretzelProof$MoveList"
def TX3 : u_T := fun k => match k with
  | 0 => ("PretzelProof$MoveList", "row", "[I", true)
  | 1 => ("PretzelProof$MoveList", "oversBeside", "[I", true)
  | 2 => ("PretzelProof$MoveList", "undersBeside", "[I", true)
  | 3 => ("PretzelProof$MoveList", "numbers", "[I", true)
  | 4 => ("PretzelProof$MoveList", "curls", "I", false)
  | _ => ("PretzelProof$MoveList", "count", "I", false)
def tyX3 : Nat → FieldType := fun k => match k with
  | 0 => .array .int
  | 1 => .array .int
  | 2 => .array .int
  | 3 => .array .int
  | 4 => .int
  | _ => .int
abbrev wsX30 : List Cond := u_ws RX3 TX3 6
theorem nmX3 : ∀ a, a < 6 → ∀ b, b < 6 → a ≠ b → (TX3 a).2.1 ≠ (TX3 b).2.1 := by decide +kernel
theorem tyX3_ok : ∀ k, k < 6 → parseFieldDescriptor (TX3 k).2.2.1 = some (tyX3 k) := by decide +kernel
abbrev cX3_init : ByteArray := prog_5_method_1_code
def yX3_init : MethodName := ⟨RX3, "<init>", "()V"⟩
abbrev cX3_lookNow : ByteArray := prog_5_method_2_code
def yX3_lookNow : MethodName := ⟨RX3, "lookNow", "(LPretzelProof$Rope;)V"⟩
abbrev cX3_lookAt : ByteArray := prog_5_method_3_code
def yX3_lookAt : MethodName := ⟨RX3, "lookAt", "(LPretzelProof$Rope;III)V"⟩
abbrev cX3_moveAt : ByteArray := prog_5_method_4_code
def yX3_moveAt : MethodName := ⟨RX3, "moveAt", "(I)I"⟩
abbrev cX3_contains : ByteArray := prog_5_method_5_code
def yX3_contains : MethodName := ⟨RX3, "contains", "(I)Z"⟩
abbrev cX3_leftOf : ByteArray := prog_5_method_6_code
def yX3_leftOf : MethodName := ⟨RX3, "leftOf", "(LPretzelProof$Rope;III)I"⟩
abbrev cX3_leftByCurls : ByteArray := prog_5_method_7_code
def yX3_leftByCurls : MethodName := ⟨RX3, "leftByCurls", "(LPretzelProof$Rope;)I"⟩
abbrev cX3_takeRow : ByteArray := prog_5_method_8_code
def yX3_takeRow : MethodName := ⟨RX3, "takeRow", "(LPretzelProof$Rope;II)I"⟩
abbrev cX3_seeNeighbours : ByteArray := prog_5_method_9_code
def yX3_seeNeighbours : MethodName := ⟨RX3, "seeNeighbours", "(I)V"⟩
abbrev cX3_listMoves : ByteArray := prog_5_method_10_code
def yX3_listMoves : MethodName := ⟨RX3, "listMoves", "(I)V"⟩
def RX4 : String := "PretzelProof$Numbering"
def TX4 : u_T := fun k => match k with
  | 0 => ("PretzelProof$Numbering", "numbers", "[I", true)
  | 1 => ("PretzelProof$Numbering", "known", "I", false)
  | _ => ("PretzelProof$Numbering", "given", "I", false)
def tyX4 : Nat → FieldType := fun k => match k with
  | 0 => .array .int
  | 1 => .int
  | _ => .int
abbrev wsX40 : List Cond := u_ws RX4 TX4 3
theorem nmX4 : ∀ a, a < 3 → ∀ b, b < 3 → a ≠ b → (TX4 a).2.1 ≠ (TX4 b).2.1 := by decide +kernel
theorem tyX4_ok : ∀ k, k < 3 → parseFieldDescriptor (TX4 k).2.2.1 = some (tyX4 k) := by decide +kernel
abbrev cX4_init : ByteArray := prog_6_method_1_code
def yX4_init : MethodName := ⟨RX4, "<init>", "()V"⟩
abbrev cX4_begin : ByteArray := prog_6_method_2_code
def yX4_begin : MethodName := ⟨RX4, "begin", "()V"⟩
abbrev cX4_knows : ByteArray := prog_6_method_3_code
def yX4_knows : MethodName := ⟨RX4, "knows", "(I)Z"⟩
abbrev cX4_numberOf : ByteArray := prog_6_method_4_code
def yX4_numberOf : MethodName := ⟨RX4, "numberOf", "(I)I"⟩
def RX5 : String := "PretzelProof$Reader"
def TX5 : u_T := fun k => match k with
  | 0 => ("PretzelProof$Reader", "text", "[I", true)
  | 1 => ("PretzelProof$Reader", "draft", "LPretzelProof$Tray;", true)
  | 2 => ("PretzelProof$Reader", "names", "LPretzelProof$Numbering;", true)
  | 3 => ("PretzelProof$Reader", "row", "[I", true)
  | 4 => ("PretzelProof$Reader", "letters", "I", false)
  | 5 => ("PretzelProof$Reader", "place", "I", false)
  | 6 => ("PretzelProof$Reader", "figures", "I", false)
  | 7 => ("PretzelProof$Reader", "firstFigure", "I", false)
  | 8 => ("PretzelProof$Reader", "greats", "I", false)
  | 9 => ("PretzelProof$Reader", "smalls", "I", false)
  | 10 => ("PretzelProof$Reader", "faultAt", "I", false)
  | _ => ("PretzelProof$Reader", "hasTray", "Z", false)
def tyX5 : Nat → FieldType := fun k => match k with
  | 0 => .array .int
  | 1 => .object "PretzelProof$Tray"
  | 2 => .object "PretzelProof$Numbering"
  | 3 => .array .int
  | 4 => .int
  | 5 => .int
  | 6 => .int
  | 7 => .int
  | 8 => .int
  | 9 => .int
  | 10 => .int
  | _ => .boolean
abbrev wsX50 : List Cond := u_ws RX5 TX5 12
theorem nmX5 : ∀ a, a < 12 → ∀ b, b < 12 → a ≠ b → (TX5 a).2.1 ≠ (TX5 b).2.1 := by decide +kernel
theorem tyX5_ok : ∀ k, k < 12 → parseFieldDescriptor (TX5 k).2.2.1 = some (tyX5 k) := by decide +kernel
abbrev cX5_init : ByteArray := prog_7_method_1_code
def yX5_init : MethodName := ⟨RX5, "<init>", "(LPretzelProof$Tray;)V"⟩
abbrev cX5_addLetter : ByteArray := prog_7_method_2_code
def yX5_addLetter : MethodName := ⟨RX5, "addLetter", "(I)Z"⟩
abbrev cX5_readText : ByteArray := prog_7_method_3_code
def yX5_readText : MethodName := ⟨RX5, "readText", "()I"⟩
abbrev cX5_readBlank : ByteArray := prog_7_method_4_code
def yX5_readBlank : MethodName := ⟨RX5, "readBlank", "()I"⟩
abbrev cX5_readLetter : ByteArray := prog_7_method_5_code
def yX5_readLetter : MethodName := ⟨RX5, "readLetter", "(II)I"⟩
abbrev cX5_readStart : ByteArray := prog_7_method_6_code
def yX5_readStart : MethodName := ⟨RX5, "readStart", "(I)I"⟩
abbrev cX5_readFirstFigure : ByteArray := prog_7_method_7_code
def yX5_readFirstFigure : MethodName := ⟨RX5, "readFirstFigure", "(II)I"⟩
abbrev cX5_readNumber : ByteArray := prog_7_method_8_code
def yX5_readNumber : MethodName := ⟨RX5, "readNumber", "(I)I"⟩
abbrev cX5_readNumbersEnd : ByteArray := prog_7_method_9_code
def yX5_readNumbersEnd : MethodName := ⟨RX5, "readNumbersEnd", "(I)I"⟩
abbrev cX5_readClause : ByteArray := prog_7_method_10_code
def yX5_readClause : MethodName := ⟨RX5, "readClause", "(I)I"⟩
abbrev cX5_readThread : ByteArray := prog_7_method_11_code
def yX5_readThread : MethodName := ⟨RX5, "readThread", "(I)I"⟩
abbrev cX5_readPass : ByteArray := prog_7_method_12_code
def yX5_readPass : MethodName := ⟨RX5, "readPass", "(IZ)I"⟩
abbrev cX5_readThreadsEnd : ByteArray := prog_7_method_13_code
def yX5_readThreadsEnd : MethodName := ⟨RX5, "readThreadsEnd", "()I"⟩
abbrev cX5_isFigure : ByteArray := prog_7_method_14_code
def yX5_isFigure : MethodName := ⟨RX5, "isFigure", "(I)Z"⟩
def RX6 : String := "PretzelProof$Rope"
def TX6 : u_T := fun k => match k with
  | 0 => ("PretzelProof$Rope", "numbering", "LPretzelProof$Numbering;", true)
  | 1 => ("PretzelProof$Rope", "passes", "[I", true)
  | 2 => ("PretzelProof$Rope", "crossings", "I", false)
  | _ => ("PretzelProof$Rope", "salted", "I", false)
def tyX6 : Nat → FieldType := fun k => match k with
  | 0 => .object "PretzelProof$Numbering"
  | 1 => .array .int
  | 2 => .int
  | _ => .int
abbrev wsX60 : List Cond := u_ws RX6 TX6 4
theorem nmX6 : ∀ a, a < 4 → ∀ b, b < 4 → a ≠ b → (TX6 a).2.1 ≠ (TX6 b).2.1 := by decide +kernel
theorem tyX6_ok : ∀ k, k < 4 → parseFieldDescriptor (TX6 k).2.2.1 = some (tyX6 k) := by decide +kernel
abbrev cX6_init : ByteArray := prog_8_method_1_code
def yX6_init : MethodName := ⟨RX6, "<init>", "(LPretzelProof$Numbering;)V"⟩
abbrev cX6_length : ByteArray := prog_8_method_2_code
def yX6_length : MethodName := ⟨RX6, "length", "()I"⟩
abbrev cX6_everyCrossing : ByteArray := prog_8_method_3_code
def yX6_everyCrossing : MethodName := ⟨RX6, "everyCrossing", "()I"⟩
abbrev cX6_has : ByteArray := prog_8_method_4_code
def yX6_has : MethodName := ⟨RX6, "has", "(I)Z"⟩
abbrev cX6_passAt : ByteArray := prog_8_method_5_code
def yX6_passAt : MethodName := ⟨RX6, "passAt", "(I)I"⟩
abbrev cX6_makePlain : ByteArray := prog_8_method_6_code
def yX6_makePlain : MethodName := ⟨RX6, "makePlain", "()V"⟩
abbrev cX6_copyFrom : ByteArray := prog_8_method_7_code
def yX6_copyFrom : MethodName := ⟨RX6, "copyFrom", "(LPretzelProof$Rope;)V"⟩
abbrev cX6_lay : ByteArray := prog_8_method_8_code
def yX6_lay : MethodName := ⟨RX6, "lay", "([II)V"⟩
abbrev cX6_numberAnew : ByteArray := prog_8_method_9_code
def yX6_numberAnew : MethodName := ⟨RX6, "numberAnew", "()V"⟩
abbrev cX6_takeAway : ByteArray := prog_8_method_10_code
def yX6_takeAway : MethodName := ⟨RX6, "takeAway", "(I)V"⟩
abbrev cX6_addCurl : ByteArray := prog_8_method_11_code
def yX6_addCurl : MethodName := ⟨RX6, "addCurl", "(IZ)V"⟩
abbrev cX6_switchSet : ByteArray := prog_8_method_12_code
def yX6_switchSet : MethodName := ⟨RX6, "switchSet", "(I)V"⟩
abbrev cX6_goTheOtherWay : ByteArray := prog_8_method_13_code
def yX6_goTheOtherWay : MethodName := ⟨RX6, "goTheOtherWay", "()V"⟩
abbrev cX6_rollOnce : ByteArray := prog_8_method_14_code
def yX6_rollOnce : MethodName := ⟨RX6, "rollOnce", "()V"⟩
abbrev cX6_append : ByteArray := prog_8_method_15_code
def yX6_append : MethodName := ⟨RX6, "append", "(LPretzelProof$Rope;)V"⟩
abbrev cX6_lyingIn : ByteArray := prog_8_method_16_code
def yX6_lyingIn : MethodName := ⟨RX6, "lyingIn", "(I)I"⟩
def RX7 : String := "PretzelProof$Rounds"
def TX7 : u_T := fun k => match k with
  | 0 => ("PretzelProof$Rounds", "numbering", "LPretzelProof$Numbering;", true)
  | 1 => ("PretzelProof$Rounds", "row", "[I", true)
  | _ => ("PretzelProof$Rounds", "least", "[I", true)
def tyX7 : Nat → FieldType := fun k => match k with
  | 0 => .object "PretzelProof$Numbering"
  | 1 => .array .int
  | _ => .array .int
abbrev wsX70 : List Cond := u_ws RX7 TX7 3
theorem nmX7 : ∀ a, a < 3 → ∀ b, b < 3 → a ≠ b → (TX7 a).2.1 ≠ (TX7 b).2.1 := by decide +kernel
theorem tyX7_ok : ∀ k, k < 3 → parseFieldDescriptor (TX7 k).2.2.1 = some (tyX7 k) := by decide +kernel
abbrev cX7_init : ByteArray := prog_9_method_1_code
def yX7_init : MethodName := ⟨RX7, "<init>", "(LPretzelProof$Numbering;)V"⟩
abbrev cX7_waysInto : ByteArray := prog_9_method_2_code
def yX7_waysInto : MethodName := ⟨RX7, "waysInto", "(LPretzelProof$Rope;LPretzelProof$Rope;)I"⟩
abbrev cX7_leastWordAt : ByteArray := prog_9_method_3_code
def yX7_leastWordAt : MethodName := ⟨RX7, "leastWordAt", "(LPretzelProof$Rope;I)I"⟩
abbrev cX7_comesTo : ByteArray := prog_9_method_4_code
def yX7_comesTo : MethodName := ⟨RX7, "comesTo", "(LPretzelProof$Rope;LPretzelProof$Rope;ZI)Z"⟩
abbrev cX7_goAlong : ByteArray := prog_9_method_5_code
def yX7_goAlong : MethodName := ⟨RX7, "goAlong", "(LPretzelProof$Rope;IZI)V"⟩
abbrev cX7_compare : ByteArray := prog_9_method_6_code
def yX7_compare : MethodName := ⟨RX7, "compare", "([I[II)I"⟩
def RX8 : String := "PretzelProof$Shaking"
def TX8 : u_T := fun k => match k with
  | 0 => ("PretzelProof$Shaking", "movesTo", "[I", true)
  | 1 => ("PretzelProof$Shaking", "firstTo", "[I", true)
  | 2 => ("PretzelProof$Shaking", "sets", "I", false)
  | 3 => ("PretzelProof$Shaking", "fewest", "I", false)
  | 4 => ("PretzelProof$Shaking", "fewestMoves", "I", false)
  | _ => ("PretzelProof$Shaking", "firstMove", "I", false)
def tyX8 : Nat → FieldType := fun k => match k with
  | 0 => .array .int
  | 1 => .array .int
  | 2 => .int
  | 3 => .int
  | 4 => .int
  | _ => .int
abbrev wsX80 : List Cond := u_ws RX8 TX8 6
theorem nmX8 : ∀ a, a < 6 → ∀ b, b < 6 → a ≠ b → (TX8 a).2.1 ≠ (TX8 b).2.1 := by decide +kernel
theorem tyX8_ok : ∀ k, k < 6 → parseFieldDescriptor (TX8 k).2.2.1 = some (tyX8 k) := by decide +kernel
abbrev cX8_init : ByteArray := prog_10_method_1_code
def yX8_init : MethodName := ⟨RX8, "<init>", "()V"⟩
abbrev cX8_tryAll : ByteArray := prog_10_method_2_code
def yX8_tryAll : MethodName := ⟨RX8, "tryAll", "(LPretzelProof$Rope;LPretzelProof$MoveList;)V"⟩
abbrev cX8_followMoves : ByteArray := prog_10_method_3_code
def yX8_followMoves : MethodName := ⟨RX8, "followMoves", "(IZLPretzelProof$MoveList;)V"⟩
abbrev cX8_weigh : ByteArray := prog_10_method_4_code
def yX8_weigh : MethodName := ⟨RX8, "weigh", "(I)V"⟩
def RX9 : String := "PretzelProof$Tray"
def TX9 : u_T := fun k => match k with
  | 0 => ("PretzelProof$Tray", "ropes", "[LPretzelProof$Rope;", true)
  | 1 => ("PretzelProof$Tray", "pretzels", "I", false)
  | _ => ("PretzelProof$Tray", "grains", "I", false)
def tyX9 : Nat → FieldType := fun k => match k with
  | 0 => .array (.object "PretzelProof$Rope")
  | 1 => .int
  | _ => .int
abbrev wsX90 : List Cond := u_ws RX9 TX9 3
theorem nmX9 : ∀ a, a < 3 → ∀ b, b < 3 → a ≠ b → (TX9 a).2.1 ≠ (TX9 b).2.1 := by decide +kernel
theorem tyX9_ok : ∀ k, k < 3 → parseFieldDescriptor (TX9 k).2.2.1 = some (tyX9 k) := by decide +kernel
abbrev cX9_init : ByteArray := prog_11_method_1_code
def yX9_init : MethodName := ⟨RX9, "<init>", "(LPretzelProof$Numbering;)V"⟩
abbrev cX9_ropeOf : ByteArray := prog_11_method_2_code
def yX9_ropeOf : MethodName := ⟨RX9, "ropeOf", "(I)LPretzelProof$Rope;"⟩
abbrev cX9_copyFrom : ByteArray := prog_11_method_3_code
def yX9_copyFrom : MethodName := ⟨RX9, "copyFrom", "(LPretzelProof$Tray;)V"⟩
abbrev cX9_crossingsOfAll : ByteArray := prog_11_method_4_code
def yX9_crossingsOfAll : MethodName := ⟨RX9, "crossingsOfAll", "()I"⟩
abbrev cX9_saltedOfAll : ByteArray := prog_11_method_5_code
def yX9_saltedOfAll : MethodName := ⟨RX9, "saltedOfAll", "()I"⟩
abbrev cX9_plainOnes : ByteArray := prog_11_method_6_code
def yX9_plainOnes : MethodName := ⟨RX9, "plainOnes", "()I"⟩
def RX10 : String := "PretzelProof"
def TX10 : u_T := fun k => match k with
  | 0 => ("PretzelProof", "reader", "LPretzelProof$Reader;", true)
  | 1 => ("PretzelProof", "now", "LPretzelProof$Tray;", true)
  | 2 => ("PretzelProof", "history", "LPretzelProof$History;", true)
  | 3 => ("PretzelProof", "images", "[LPretzelProof$Tray;", true)
  | 4 => ("PretzelProof", "imageSeeds", "[I", true)
  | 5 => ("PretzelProof", "book", "LPretzelProof$Book;", true)
  | 6 => ("PretzelProof", "moveList", "LPretzelProof$MoveList;", true)
  | 7 => ("PretzelProof", "shaking", "LPretzelProof$Shaking;", true)
  | 8 => ("PretzelProof", "colours", "LPretzelProof$Colours;", true)
  | 9 => ("PretzelProof", "rounds", "LPretzelProof$Rounds;", true)
  | 10 => ("PretzelProof", "laid", "Z", false)
  | 11 => ("PretzelProof", "imagesKept", "I", false)
  | 12 => ("PretzelProof", "faultAt", "I", false)
  | _ => ("PretzelProof", "drawn", "I", false)
def tyX10 : Nat → FieldType := fun k => match k with
  | 0 => .object "PretzelProof$Reader"
  | 1 => .object "PretzelProof$Tray"
  | 2 => .object "PretzelProof$History"
  | 3 => .array (.object "PretzelProof$Tray")
  | 4 => .array .int
  | 5 => .object "PretzelProof$Book"
  | 6 => .object "PretzelProof$MoveList"
  | 7 => .object "PretzelProof$Shaking"
  | 8 => .object "PretzelProof$Colours"
  | 9 => .object "PretzelProof$Rounds"
  | 10 => .boolean
  | 11 => .int
  | 12 => .int
  | _ => .int
abbrev wsX100 : List Cond := u_ws RX10 TX10 14
theorem nmX10 : ∀ a, a < 14 → ∀ b, b < 14 → a ≠ b → (TX10 a).2.1 ≠ (TX10 b).2.1 := by decide +kernel
theorem tyX10_ok : ∀ k, k < 14 → parseFieldDescriptor (TX10 k).2.2.1 = some (tyX10 k) := by decide +kernel
abbrev cX10_init : ByteArray := prog_1_method_1_code
def yX10_init : MethodName := ⟨RX10, "<init>", "()V"⟩
abbrev cX10_feed : ByteArray := prog_1_method_2_code
def yX10_feed : MethodName := ⟨RX10, "feed", "(I)I"⟩
abbrev cX10_tray : ByteArray := prog_1_method_3_code
def yX10_tray : MethodName := ⟨RX10, "tray", "()I"⟩
abbrev cX10_fault : ByteArray := prog_1_method_4_code
def yX10_fault : MethodName := ⟨RX10, "fault", "()I"⟩
abbrev cX10_told : ByteArray := prog_1_method_5_code
def yX10_told : MethodName := ⟨RX10, "told", "(I)I"⟩
abbrev cX10_pretzel : ByteArray := prog_1_method_6_code
def yX10_pretzel : MethodName := ⟨RX10, "pretzel", "(II)I"⟩
abbrev cX10_pass : ByteArray := prog_1_method_7_code
def yX10_pass : MethodName := ⟨RX10, "pass", "(II)I"⟩
abbrev cX10_moves : ByteArray := prog_1_method_8_code
def yX10_moves : MethodName := ⟨RX10, "moves", "(II)I"⟩
abbrev cX10_shake : ByteArray := prog_1_method_9_code
def yX10_shake : MethodName := ⟨RX10, "shake", "(III)I"⟩
abbrev cX10_curl : ByteArray := prog_1_method_10_code
def yX10_curl : MethodName := ⟨RX10, "curl", "(IIZ)I"⟩
abbrev cX10_turn : ByteArray := prog_1_method_11_code
def yX10_turn : MethodName := ⟨RX10, "turn", "(II)I"⟩
abbrev cX10_reverse : ByteArray := prog_1_method_12_code
def yX10_reverse : MethodName := ⟨RX10, "reverse", "(I)I"⟩
abbrev cX10_mirror : ByteArray := prog_1_method_13_code
def yX10_mirror : MethodName := ⟨RX10, "mirror", "(I)I"⟩
abbrev cX10_roll : ByteArray := prog_1_method_14_code
def yX10_roll : MethodName := ⟨RX10, "roll", "(I)I"⟩
abbrev cX10_join : ByteArray := prog_1_method_15_code
def yX10_join : MethodName := ⟨RX10, "join", "(II)I"⟩
abbrev cX10_salt : ByteArray := prog_1_method_16_code
def yX10_salt : MethodName := ⟨RX10, "salt", "(IIZ)I"⟩
abbrev cX10_drift : ByteArray := prog_1_method_17_code
def yX10_drift : MethodName := ⟨RX10, "drift", "(I)I"⟩
abbrev cX10_undo : ByteArray := prog_1_method_18_code
def yX10_undo : MethodName := ⟨RX10, "undo", "()I"⟩
abbrev cX10_toShake : ByteArray := prog_1_method_19_code
def yX10_toShake : MethodName := ⟨RX10, "toShake", "(II)I"⟩
abbrev cX10_within : ByteArray := prog_1_method_20_code
def yX10_within : MethodName := ⟨RX10, "within", "(II)I"⟩
abbrev cX10_same : ByteArray := prog_1_method_21_code
def yX10_same : MethodName := ⟨RX10, "same", "(II)I"⟩
abbrev cX10_tells : ByteArray := prog_1_method_22_code
def yX10_tells : MethodName := ⟨RX10, "tells", "(II)I"⟩
abbrev cX10_words : ByteArray := prog_1_method_23_code
def yX10_words : MethodName := ⟨RX10, "words", "(II)I"⟩
abbrev cX10_colour : ByteArray := prog_1_method_24_code
def yX10_colour : MethodName := ⟨RX10, "colour", "(II)I"⟩
abbrev cX10_whole : ByteArray := prog_1_method_25_code
def yX10_whole : MethodName := ⟨RX10, "whole", "(II)I"⟩
abbrev cX10_write : ByteArray := prog_1_method_26_code
def yX10_write : MethodName := ⟨RX10, "write", "(II)I"⟩
abbrev cX10_tear : ByteArray := prog_1_method_27_code
def yX10_tear : MethodName := ⟨RX10, "tear", "()I"⟩
abbrev cX10_judge : ByteArray := prog_1_method_28_code
def yX10_judge : MethodName := ⟨RX10, "judge", "()I"⟩
abbrev cX10_seed : ByteArray := prog_1_method_29_code
def yX10_seed : MethodName := ⟨RX10, "seed", "(I)I"⟩
abbrev cX10_keep : ByteArray := prog_1_method_30_code
def yX10_keep : MethodName := ⟨RX10, "keep", "(I)I"⟩
abbrev cX10_goBack : ByteArray := prog_1_method_31_code
def yX10_goBack : MethodName := ⟨RX10, "goBack", "(I)I"⟩
abbrev cX10_shakenOutOnes : ByteArray := prog_1_method_32_code
def yX10_shakenOutOnes : MethodName := ⟨RX10, "shakenOutOnes", "()I"⟩
abbrev cX10_fewestUnsalted : ByteArray := prog_1_method_33_code
def yX10_fewestUnsalted : MethodName := ⟨RX10, "fewestUnsalted", "(LPretzelProof$Rope;)I"⟩
abbrev cX10_weakOnes : ByteArray := prog_1_method_34_code
def yX10_weakOnes : MethodName := ⟨RX10, "weakOnes", "(LPretzelProof$Rope;)I"⟩
abbrev cX10_fewestSwitches : ByteArray := prog_1_method_35_code
def yX10_fewestSwitches : MethodName := ⟨RX10, "fewestSwitches", "(LPretzelProof$Rope;)I"⟩
abbrev cX10_oddOnes : ByteArray := prog_1_method_36_code
def yX10_oddOnes : MethodName := ⟨RX10, "oddOnes", "(LPretzelProof$Rope;)I"⟩
abbrev cX10_driftOnce : ByteArray := prog_1_method_37_code
def yX10_driftOnce : MethodName := ⟨RX10, "driftOnce", "()V"⟩
abbrev cX10_shakeByFirstMove : ByteArray := prog_1_method_38_code
def yX10_shakeByFirstMove : MethodName := ⟨RX10, "shakeByFirstMove", "(LPretzelProof$Rope;)V"⟩
abbrev cX10_curlByDraws : ByteArray := prog_1_method_39_code
def yX10_curlByDraws : MethodName := ⟨RX10, "curlByDraws", "(LPretzelProof$Rope;)V"⟩
abbrev cX10_draw : ByteArray := prog_1_method_40_code
def yX10_draw : MethodName := ⟨RX10, "draw", "(I)I"⟩
abbrev cX10_leftOver : ByteArray := prog_1_method_41_code
def yX10_leftOver : MethodName := ⟨RX10, "leftOver", "(II)I"⟩
abbrev cX10_isIn : ByteArray := prog_1_method_42_code
def yX10_isIn : MethodName := ⟨RX10, "isIn", "(II)Z"⟩
abbrev cX10_crossingOf : ByteArray := prog_1_method_43_code
def yX10_crossingOf : MethodName := ⟨RX10, "crossingOf", "(I)I"⟩
abbrev cX10_takenBy : ByteArray := prog_1_method_44_code
def yX10_takenBy : MethodName := ⟨RX10, "takenBy", "(I)I"⟩
def RX11 : String := "PretzelProofModel"
def TX11 : u_T := fun k => match k with
  | 0 => ("PretzelProofModel", "slot", "[I", true)
  | 1 => ("PretzelProofModel", "isTray", "Z", false)
  | 2 => ("PretzelProofModel", "acts", "I", false)
  | 3 => ("PretzelProofModel", "start", "I", false)
  | 4 => ("PretzelProofModel", "keptSeed", "[I", true)
  | 5 => ("PretzelProofModel", "keptHow", "[I", true)
  | 6 => ("PretzelProofModel", "length", "I", false)
  | 7 => ("PretzelProofModel", "text", "[B", true)
  | 8 => ("PretzelProofModel", "at", "I", false)
  | 9 => ("PretzelProofModel", "wrong", "I", false)
  | 10 => ("PretzelProofModel", "wrongAt", "I", false)
  | 11 => ("PretzelProofModel", "latest", "I", false)
  | 12 => ("PretzelProofModel", "newGrains", "I", false)
  | 13 => ("PretzelProofModel", "newMany", "I", false)
  | 14 => ("PretzelProofModel", "newLength", "[I", true)
  | 15 => ("PretzelProofModel", "newPass", "[I", true)
  | 16 => ("PretzelProofModel", "names", "[I", true)
  | 17 => ("PretzelProofModel", "entries", "I", false)
  | 18 => ("PretzelProofModel", "entryOf", "[I", true)
  | 19 => ("PretzelProofModel", "entryTold", "[I", true)
  | 20 => ("PretzelProofModel", "size", "I", false)
  | 21 => ("PretzelProofModel", "row", "[I", true)
  | 22 => ("PretzelProofModel", "other", "[I", true)
  | 23 => ("PretzelProofModel", "anew", "[I", true)
  | 24 => ("PretzelProofModel", "salts", "I", false)
  | 25 => ("PretzelProofModel", "lefts", "I", false)
  | 26 => ("PretzelProofModel", "line", "[I", true)
  | 27 => ("PretzelProofModel", "far", "[I", true)
  | 28 => ("PretzelProofModel", "by", "[I", true)
  | 29 => ("PretzelProofModel", "over", "[I", true)
  | 30 => ("PretzelProofModel", "under", "[I", true)
  | 31 => ("PretzelProofModel", "matrix", "[I", true)
  | 32 => ("PretzelProofModel", "above", "[I", true)
  | 33 => ("PretzelProofModel", "stop", "[I", true)
  | _ => ("PretzelProofModel", "hue", "[I", true)
def tyX11 : Nat → FieldType := fun k => match k with
  | 0 => .array .int
  | 1 => .boolean
  | 2 => .int
  | 3 => .int
  | 4 => .array .int
  | 5 => .array .int
  | 6 => .int
  | 7 => .array .byte
  | 8 => .int
  | 9 => .int
  | 10 => .int
  | 11 => .int
  | 12 => .int
  | 13 => .int
  | 14 => .array .int
  | 15 => .array .int
  | 16 => .array .int
  | 17 => .int
  | 18 => .array .int
  | 19 => .array .int
  | 20 => .int
  | 21 => .array .int
  | 22 => .array .int
  | 23 => .array .int
  | 24 => .int
  | 25 => .int
  | 26 => .array .int
  | 27 => .array .int
  | 28 => .array .int
  | 29 => .array .int
  | 30 => .array .int
  | 31 => .array .int
  | 32 => .array .int
  | 33 => .array .int
  | _ => .array .int
abbrev wsX110 : List Cond := u_ws RX11 TX11 35
theorem nmX11 : ∀ a, a < 35 → ∀ b, b < 35 → a ≠ b → (TX11 a).2.1 ≠ (TX11 b).2.1 := by decide +kernel
theorem tyX11_ok : ∀ k, k < 35 → parseFieldDescriptor (TX11 k).2.2.1 = some (tyX11 k) := by decide +kernel
abbrev cX11_init : ByteArray := prog_13_method_1_code
def yX11_init : MethodName := ⟨RX11, "<init>", "()V"⟩
abbrev cX11_in : ByteArray := prog_13_method_2_code
def yX11_in : MethodName := ⟨RX11, "in", "(JJJ)Z"⟩
abbrev cX11_has : ByteArray := prog_13_method_3_code
def yX11_has : MethodName := ⟨RX11, "has", "(II)Z"⟩
abbrev cX11_bits : ByteArray := prog_13_method_4_code
def yX11_bits : MethodName := ⟨RX11, "bits", "(I)I"⟩
abbrev cX11_base : ByteArray := prog_13_method_5_code
def yX11_base : MethodName := ⟨RX11, "base", "(I)I"⟩
abbrev cX11_isOne : ByteArray := prog_13_method_6_code
def yX11_isOne : MethodName := ⟨RX11, "isOne", "(I)Z"⟩
abbrev cX11_passes : ByteArray := prog_13_method_7_code
def yX11_passes : MethodName := ⟨RX11, "passes", "(I)I"⟩
abbrev cX11_crossings : ByteArray := prog_13_method_8_code
def yX11_crossings : MethodName := ⟨RX11, "crossings", "(I)I"⟩
abbrev cX11_isCrossing : ByteArray := prog_13_method_9_code
def yX11_isCrossing : MethodName := ⟨RX11, "isCrossing", "(II)Z"⟩
abbrev cX11_copies : ByteArray := prog_13_method_10_code
def yX11_copies : MethodName := ⟨RX11, "copies", "(II)V"⟩
abbrev cX11_feed : ByteArray := prog_13_method_11_code
def yX11_feed : MethodName := ⟨RX11, "feed", "(I)I"⟩
abbrev cX11_next : ByteArray := prog_13_method_12_code
def yX11_next : MethodName := ⟨RX11, "next", "()I"⟩
abbrev cX11_blames : ByteArray := prog_13_method_13_code
def yX11_blames : MethodName := ⟨RX11, "blames", "(II)V"⟩
abbrev cX11_ends : ByteArray := prog_13_method_14_code
def yX11_ends : MethodName := ⟨RX11, "ends", "()V"⟩
abbrev cX11_grains : ByteArray := prog_13_method_15_code
def yX11_grains : MethodName := ⟨RX11, "grains", "()V"⟩
abbrev cX11_nameOf : ByteArray := prog_13_method_16_code
def yX11_nameOf : MethodName := ⟨RX11, "nameOf", "(I)I"⟩
abbrev cX11_threads : ByteArray := prog_13_method_17_code
def yX11_threads : MethodName := ⟨RX11, "threads", "()V"⟩
abbrev cX11_reads : ByteArray := prog_13_method_18_code
def yX11_reads : MethodName := ⟨RX11, "reads", "()V"⟩
abbrev cX11_tray : ByteArray := prog_13_method_19_code
def yX11_tray : MethodName := ⟨RX11, "tray", "()I"⟩
abbrev cX11_fault : ByteArray := prog_13_method_20_code
def yX11_fault : MethodName := ⟨RX11, "fault", "()I"⟩
abbrev cX11_loads : ByteArray := prog_13_method_21_code
def yX11_loads : MethodName := ⟨RX11, "loads", "(I)V"⟩
abbrev cX11_numbers : ByteArray := prog_13_method_22_code
def yX11_numbers : MethodName := ⟨RX11, "numbers", "(I)I"⟩
abbrev cX11_stores : ByteArray := prog_13_method_23_code
def yX11_stores : MethodName := ⟨RX11, "stores", "(I)V"⟩
abbrev cX11_turns : ByteArray := prog_13_method_24_code
def yX11_turns : MethodName := ⟨RX11, "turns", "(I)V"⟩
abbrev cX11_reverses : ByteArray := prog_13_method_25_code
def yX11_reverses : MethodName := ⟨RX11, "reverses", "()V"⟩
abbrev cX11_drops : ByteArray := prog_13_method_26_code
def yX11_drops : MethodName := ⟨RX11, "drops", "(I)V"⟩
abbrev cX11_leaves : ByteArray := prog_13_method_27_code
def yX11_leaves : MethodName := ⟨RX11, "leaves", "(I)V"⟩
abbrev cX11_isBeside : ByteArray := prog_13_method_28_code
def yX11_isBeside : MethodName := ⟨RX11, "isBeside", "(II)Z"⟩
abbrev cX11_isMove : ByteArray := prog_13_method_29_code
def yX11_isMove : MethodName := ⟨RX11, "isMove", "(IIII)Z"⟩
abbrev cX11_without : ByteArray := prog_13_method_30_code
def yX11_without : MethodName := ⟨RX11, "without", "(III)I"⟩
abbrev cX11_shakes : ByteArray := prog_13_method_31_code
def yX11_shakes : MethodName := ⟨RX11, "shakes", "(I)V"⟩
abbrev cX11_comesTo : ByteArray := prog_13_method_32_code
def yX11_comesTo : MethodName := ⟨RX11, "comesTo", "(III)V"⟩
abbrev cX11_shaken : ByteArray := prog_13_method_33_code
def yX11_shaken : MethodName := ⟨RX11, "shaken", "(II)I"⟩
abbrev cX11_moveOf : ByteArray := prog_13_method_34_code
def yX11_moveOf : MethodName := ⟨RX11, "moveOf", "(I)I"⟩
abbrev cX11_moves : ByteArray := prog_13_method_35_code
def yX11_moves : MethodName := ⟨RX11, "moves", "(II)I"⟩
abbrev cX11_toShake : ByteArray := prog_13_method_36_code
def yX11_toShake : MethodName := ⟨RX11, "toShake", "(II)I"⟩
abbrev cX11_parts : ByteArray := prog_13_method_37_code
def yX11_parts : MethodName := ⟨RX11, "parts", "()V"⟩
abbrev cX11_left : ByteArray := prog_13_method_38_code
def yX11_left : MethodName := ⟨RX11, "left", "(II)I"⟩
abbrev cX11_colours : ByteArray := prog_13_method_39_code
def yX11_colours : MethodName := ⟨RX11, "colours", "(I)I"⟩
abbrev cX11_swaps : ByteArray := prog_13_method_40_code
def yX11_swaps : MethodName := ⟨RX11, "swaps", "(II)V"⟩
abbrev cX11_clears : ByteArray := prog_13_method_41_code
def yX11_clears : MethodName := ⟨RX11, "clears", "(IIII)V"⟩
abbrev cX11_isWay : ByteArray := prog_13_method_42_code
def yX11_isWay : MethodName := ⟨RX11, "isWay", "(I)Z"⟩
abbrev cX11_colour : ByteArray := prog_13_method_43_code
def yX11_colour : MethodName := ⟨RX11, "colour", "(II)I"⟩
abbrev cX11_isOut : ByteArray := prog_13_method_44_code
def yX11_isOut : MethodName := ⟨RX11, "isOut", "(I)Z"⟩
abbrev cX11_weak : ByteArray := prog_13_method_45_code
def yX11_weak : MethodName := ⟨RX11, "weak", "()I"⟩
abbrev cX11_switches : ByteArray := prog_13_method_46_code
def yX11_switches : MethodName := ⟨RX11, "switches", "()I"⟩
abbrev cX11_inside : ByteArray := prog_13_method_47_code
def yX11_inside : MethodName := ⟨RX11, "inside", "(I)I"⟩
abbrev cX11_odd : ByteArray := prog_13_method_48_code
def yX11_odd : MethodName := ⟨RX11, "odd", "()I"⟩
abbrev cX11_told : ByteArray := prog_13_method_49_code
def yX11_told : MethodName := ⟨RX11, "told", "(I)I"⟩
abbrev cX11_pretzel : ByteArray := prog_13_method_50_code
def yX11_pretzel : MethodName := ⟨RX11, "pretzel", "(II)I"⟩
abbrev cX11_pass : ByteArray := prog_13_method_51_code
def yX11_pass : MethodName := ⟨RX11, "pass", "(II)I"⟩
abbrev cX11_within : ByteArray := prog_13_method_52_code
def yX11_within : MethodName := ⟨RX11, "within", "(II)I"⟩
abbrev cX11_isTwo : ByteArray := prog_13_method_53_code
def yX11_isTwo : MethodName := ⟨RX11, "isTwo", "(II)Z"⟩
abbrev cX11_isSame : ByteArray := prog_13_method_54_code
def yX11_isSame : MethodName := ⟨RX11, "isSame", "(I)Z"⟩
abbrev cX11_same : ByteArray := prog_13_method_55_code
def yX11_same : MethodName := ⟨RX11, "same", "(II)I"⟩
abbrev cX11_tells : ByteArray := prog_13_method_56_code
def yX11_tells : MethodName := ⟨RX11, "tells", "(II)I"⟩
abbrev cX11_words : ByteArray := prog_13_method_57_code
def yX11_words : MethodName := ⟨RX11, "words", "(II)I"⟩
abbrev cX11_known : ByteArray := prog_13_method_58_code
def yX11_known : MethodName := ⟨RX11, "known", "()V"⟩
abbrev cX11_shake : ByteArray := prog_13_method_59_code
def yX11_shake : MethodName := ⟨RX11, "shake", "(III)I"⟩
abbrev cX11_curls : ByteArray := prog_13_method_60_code
def yX11_curls : MethodName := ⟨RX11, "curls", "(IIZ)V"⟩
abbrev cX11_curl : ByteArray := prog_13_method_61_code
def yX11_curl : MethodName := ⟨RX11, "curl", "(IIZ)I"⟩
abbrev cX11_turn : ByteArray := prog_13_method_62_code
def yX11_turn : MethodName := ⟨RX11, "turn", "(II)I"⟩
abbrev cX11_reverse : ByteArray := prog_13_method_63_code
def yX11_reverse : MethodName := ⟨RX11, "reverse", "(I)I"⟩
abbrev cX11_mirror : ByteArray := prog_13_method_64_code
def yX11_mirror : MethodName := ⟨RX11, "mirror", "(I)I"⟩
abbrev cX11_rolls : ByteArray := prog_13_method_65_code
def yX11_rolls : MethodName := ⟨RX11, "rolls", "(I)V"⟩
abbrev cX11_roll : ByteArray := prog_13_method_66_code
def yX11_roll : MethodName := ⟨RX11, "roll", "(I)I"⟩
abbrev cX11_join : ByteArray := prog_13_method_67_code
def yX11_join : MethodName := ⟨RX11, "join", "(II)I"⟩
abbrev cX11_salt : ByteArray := prog_13_method_68_code
def yX11_salt : MethodName := ⟨RX11, "salt", "(IIZ)I"⟩
abbrev cX11_draw : ByteArray := prog_13_method_69_code
def yX11_draw : MethodName := ⟨RX11, "draw", "(I)I"⟩
abbrev cX11_drifts : ByteArray := prog_13_method_70_code
def yX11_drifts : MethodName := ⟨RX11, "drifts", "()V"⟩
abbrev cX11_drift : ByteArray := prog_13_method_71_code
def yX11_drift : MethodName := ⟨RX11, "drift", "(I)I"⟩
abbrev cX11_undo : ByteArray := prog_13_method_72_code
def yX11_undo : MethodName := ⟨RX11, "undo", "()I"⟩
abbrev cX11_whole : ByteArray := prog_13_method_73_code
def yX11_whole : MethodName := ⟨RX11, "whole", "(II)I"⟩
abbrev cX11_write : ByteArray := prog_13_method_74_code
def yX11_write : MethodName := ⟨RX11, "write", "(II)I"⟩
abbrev cX11_tear : ByteArray := prog_13_method_75_code
def yX11_tear : MethodName := ⟨RX11, "tear", "()I"⟩
abbrev cX11_judge : ByteArray := prog_13_method_76_code
def yX11_judge : MethodName := ⟨RX11, "judge", "()I"⟩
abbrev cX11_seed : ByteArray := prog_13_method_77_code
def yX11_seed : MethodName := ⟨RX11, "seed", "(I)I"⟩
abbrev cX11_keep : ByteArray := prog_13_method_78_code
def yX11_keep : MethodName := ⟨RX11, "keep", "(I)I"⟩
abbrev cX11_goBack : ByteArray := prog_13_method_79_code
def yX11_goBack : MethodName := ⟨RX11, "goBack", "(I)I"⟩
def RJ6 : String := "java/lang/Integer"
def TJ6 : u_T := fun k => match k with
  | _ => ("", "", "", false)
def tyJ6 : Nat → FieldType := fun k => match k with
  | _ => .int
abbrev wsJ60 : List Cond := u_ws RJ6 TJ6 0
theorem nmJ6 : ∀ a, a < 0 → ∀ b, b < 0 → a ≠ b → (TJ6 a).2.1 ≠ (TJ6 b).2.1 := by decide +kernel
theorem tyJ6_ok : ∀ k, k < 0 → parseFieldDescriptor (TJ6 k).2.2.1 = some (tyJ6 k) := by decide +kernel
abbrev cJ6_bitCount_0f7a4 : ByteArray := prog_14_method_49_code
def yJ6_bitCount_0f7a4 : MethodName := ⟨RJ6, "bitCount", "(I)I"⟩
def RJ9 : String := "java/lang/Math"
def TJ9 : u_T := fun k => match k with
  | _ => ("", "", "", false)
def tyJ9 : Nat → FieldType := fun k => match k with
  | _ => .int
abbrev wsJ90 : List Cond := u_ws RJ9 TJ9 0
theorem nmJ9 : ∀ a, a < 0 → ∀ b, b < 0 → a ≠ b → (TJ9 a).2.1 ≠ (TJ9 b).2.1 := by decide +kernel
theorem tyJ9_ok : ∀ k, k < 0 → parseFieldDescriptor (TJ9 k).2.2.1 = some (tyJ9 k) := by decide +kernel
abbrev cJ9_max_7cf53 : ByteArray := prog_15_method_65_code
def yJ9_max_7cf53 : MethodName := ⟨RJ9, "max", "(II)I"⟩
abbrev cJ9_min_7cf53 : ByteArray := prog_15_method_69_code
def yJ9_min_7cf53 : MethodName := ⟨RJ9, "min", "(II)I"⟩
def RJ10 : String := "java/lang/System"
def TJ10 : u_T := fun k => match k with
  | _ => ("", "", "", false)
def tyJ10 : Nat → FieldType := fun k => match k with
  | _ => .int
abbrev wsJ100 : List Cond := u_ws RJ10 TJ10 0
theorem nmJ10 : ∀ a, a < 0 → ∀ b, b < 0 → a ≠ b → (TJ10 a).2.1 ≠ (TJ10 b).2.1 := by decide +kernel
theorem tyJ10_ok : ∀ k, k < 0 → parseFieldDescriptor (TJ10 k).2.2.1 = some (tyJ10 k) := by decide +kernel
def RJ7 : String := "java/util/Arrays"
def TJ7 : u_T := fun k => match k with
  | _ => ("", "", "", false)
def tyJ7 : Nat → FieldType := fun k => match k with
  | _ => .int
abbrev wsJ70 : List Cond := u_ws RJ7 TJ7 0
theorem nmJ7 : ∀ a, a < 0 → ∀ b, b < 0 → a ≠ b → (TJ7 a).2.1 ≠ (TJ7 b).2.1 := by decide +kernel
theorem tyJ7_ok : ∀ k, k < 0 → parseFieldDescriptor (TJ7 k).2.2.1 = some (tyJ7 k) := by decide +kernel
abbrev cJ7_fill_53178 : ByteArray := prog_17_method_103_code
def yJ7_fill_53178 : MethodName := ⟨RJ7, "fill", "([II)V"⟩
def RL : String := "PretzelProofLaw"
abbrev cL_law : ByteArray := code
def yL_law : MethodName := ⟨RL, "law", "([I)Z"⟩
abbrev vwCl : List vw_C := [(RX0, TX0, 3), (RX1, TX1, 6), (RX2, TX2, 3), (RX3, TX3, 6), (RX4, TX4, 3), (RX5, TX5, 12), (RX6, TX6, 4), (RX7, TX7, 3), (RX8, TX8, 6), (RX9, TX9, 3), (RX10, TX10, 14), (RX11, TX11, 35)]
