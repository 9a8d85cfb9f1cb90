section
-- ===== PART A: goes FIRST, ahead of the names: the tables' words, and 'selects' of the private methods out of them =====
/-- a private method of a class that the tables say can be made, by its rows of tables_1 -/
def lw_okq (q : MethodName × Nat) : Prop := (q.1.cls ≠ "java/lang/invoke/MethodHandle" ∧ q.1.cls ≠ "java/lang/invoke/VarHandle") ∧ Cond.instantiable q.1.cls q.2 ∈ tables_1 ∧ Cond.privateMethod q.1 ∈ tables_1 ∧ Cond.instanceMethod q.1 ∈ tables_1
theorem lw_p0 : lw_okq (⟨"PretzelProof", "shakenOutOnes", "()I"⟩, 14) := ⟨⟨by decide +kernel, by decide +kernel⟩, List.mem_of_getElem? (i := 18) (by decide +kernel), List.mem_of_getElem? (i := 460) (by decide +kernel), List.mem_of_getElem? (i := 461) (by decide +kernel)⟩
theorem lw_p1 : lw_okq (⟨"PretzelProof", "weakOnes", "(LPretzelProof$Rope;)I"⟩, 14) := ⟨⟨by decide +kernel, by decide +kernel⟩, List.mem_of_getElem? (i := 18) (by decide +kernel), List.mem_of_getElem? (i := 553) (by decide +kernel), List.mem_of_getElem? (i := 554) (by decide +kernel)⟩
theorem lw_p2 : lw_okq (⟨"PretzelProof", "fewestSwitches", "(LPretzelProof$Rope;)I"⟩, 14) := ⟨⟨by decide +kernel, by decide +kernel⟩, List.mem_of_getElem? (i := 18) (by decide +kernel), List.mem_of_getElem? (i := 557) (by decide +kernel), List.mem_of_getElem? (i := 558) (by decide +kernel)⟩
theorem lw_p3 : lw_okq (⟨"PretzelProof", "driftOnce", "()V"⟩, 14) := ⟨⟨by decide +kernel, by decide +kernel⟩, List.mem_of_getElem? (i := 18) (by decide +kernel), List.mem_of_getElem? (i := 683) (by decide +kernel), List.mem_of_getElem? (i := 684) (by decide +kernel)⟩
theorem lw_p4 : lw_okq (⟨"PretzelProof", "draw", "(I)I"⟩, 14) := ⟨⟨by decide +kernel, by decide +kernel⟩, List.mem_of_getElem? (i := 18) (by decide +kernel), List.mem_of_getElem? (i := 687) (by decide +kernel), List.mem_of_getElem? (i := 688) (by decide +kernel)⟩
theorem lw_p5 : lw_okq (⟨"PretzelProof", "shakeByFirstMove", "(LPretzelProof$Rope;)V"⟩, 14) := ⟨⟨by decide +kernel, by decide +kernel⟩, List.mem_of_getElem? (i := 18) (by decide +kernel), List.mem_of_getElem? (i := 696) (by decide +kernel), List.mem_of_getElem? (i := 697) (by decide +kernel)⟩
theorem lw_p6 : lw_okq (⟨"PretzelProof", "curlByDraws", "(LPretzelProof$Rope;)V"⟩, 14) := ⟨⟨by decide +kernel, by decide +kernel⟩, List.mem_of_getElem? (i := 18) (by decide +kernel), List.mem_of_getElem? (i := 701) (by decide +kernel), List.mem_of_getElem? (i := 702) (by decide +kernel)⟩
theorem lw_p7 : lw_okq (⟨"PretzelProof", "fewestUnsalted", "(LPretzelProof$Rope;)I"⟩, 14) := ⟨⟨by decide +kernel, by decide +kernel⟩, List.mem_of_getElem? (i := 18) (by decide +kernel), List.mem_of_getElem? (i := 767) (by decide +kernel), List.mem_of_getElem? (i := 768) (by decide +kernel)⟩
theorem lw_p8 : lw_okq (⟨"PretzelProofModel", "reads", "()V"⟩, 35) := ⟨⟨by decide +kernel, by decide +kernel⟩, List.mem_of_getElem? (i := 827) (by decide +kernel), List.mem_of_getElem? (i := 954) (by decide +kernel), List.mem_of_getElem? (i := 955) (by decide +kernel)⟩
theorem lw_p9 : lw_okq (⟨"PretzelProofModel", "next", "()I"⟩, 35) := ⟨⟨by decide +kernel, by decide +kernel⟩, List.mem_of_getElem? (i := 827) (by decide +kernel), List.mem_of_getElem? (i := 958) (by decide +kernel), List.mem_of_getElem? (i := 959) (by decide +kernel)⟩
theorem lw_p10 : lw_okq (⟨"PretzelProofModel", "blames", "(II)V"⟩, 35) := ⟨⟨by decide +kernel, by decide +kernel⟩, List.mem_of_getElem? (i := 827) (by decide +kernel), List.mem_of_getElem? (i := 962) (by decide +kernel), List.mem_of_getElem? (i := 963) (by decide +kernel)⟩
theorem lw_p11 : lw_okq (⟨"PretzelProofModel", "grains", "()V"⟩, 35) := ⟨⟨by decide +kernel, by decide +kernel⟩, List.mem_of_getElem? (i := 827) (by decide +kernel), List.mem_of_getElem? (i := 966) (by decide +kernel), List.mem_of_getElem? (i := 967) (by decide +kernel)⟩
theorem lw_p12 : lw_okq (⟨"PretzelProofModel", "ends", "()V"⟩, 35) := ⟨⟨by decide +kernel, by decide +kernel⟩, List.mem_of_getElem? (i := 827) (by decide +kernel), List.mem_of_getElem? (i := 972) (by decide +kernel), List.mem_of_getElem? (i := 973) (by decide +kernel)⟩
theorem lw_p13 : lw_okq (⟨"PretzelProofModel", "threads", "()V"⟩, 35) := ⟨⟨by decide +kernel, by decide +kernel⟩, List.mem_of_getElem? (i := 827) (by decide +kernel), List.mem_of_getElem? (i := 976) (by decide +kernel), List.mem_of_getElem? (i := 977) (by decide +kernel)⟩
theorem lw_p14 : lw_okq (⟨"PretzelProofModel", "stores", "(I)V"⟩, 35) := ⟨⟨by decide +kernel, by decide +kernel⟩, List.mem_of_getElem? (i := 827) (by decide +kernel), List.mem_of_getElem? (i := 987) (by decide +kernel), List.mem_of_getElem? (i := 988) (by decide +kernel)⟩
theorem lw_p15 : lw_okq (⟨"PretzelProofModel", "numbers", "(I)I"⟩, 35) := ⟨⟨by decide +kernel, by decide +kernel⟩, List.mem_of_getElem? (i := 827) (by decide +kernel), List.mem_of_getElem? (i := 991) (by decide +kernel), List.mem_of_getElem? (i := 992) (by decide +kernel)⟩
def lw_privs_1 : List (MethodName × Nat) := [(⟨"PretzelProof", "shakenOutOnes", "()I"⟩, 14), (⟨"PretzelProof", "weakOnes", "(LPretzelProof$Rope;)I"⟩, 14), (⟨"PretzelProof", "fewestSwitches", "(LPretzelProof$Rope;)I"⟩, 14), (⟨"PretzelProof", "driftOnce", "()V"⟩, 14), (⟨"PretzelProof", "draw", "(I)I"⟩, 14), (⟨"PretzelProof", "shakeByFirstMove", "(LPretzelProof$Rope;)V"⟩, 14), (⟨"PretzelProof", "curlByDraws", "(LPretzelProof$Rope;)V"⟩, 14), (⟨"PretzelProof", "fewestUnsalted", "(LPretzelProof$Rope;)I"⟩, 14), (⟨"PretzelProofModel", "reads", "()V"⟩, 35), (⟨"PretzelProofModel", "next", "()I"⟩, 35), (⟨"PretzelProofModel", "blames", "(II)V"⟩, 35), (⟨"PretzelProofModel", "grains", "()V"⟩, 35), (⟨"PretzelProofModel", "ends", "()V"⟩, 35), (⟨"PretzelProofModel", "threads", "()V"⟩, 35), (⟨"PretzelProofModel", "stores", "(I)V"⟩, 35), (⟨"PretzelProofModel", "numbers", "(I)I"⟩, 35)]
theorem lw_r1 : ∀ q ∈ lw_privs_1, lw_okq q := List.forall_mem_cons.mpr ⟨lw_p0, List.forall_mem_cons.mpr ⟨lw_p1, List.forall_mem_cons.mpr ⟨lw_p2, List.forall_mem_cons.mpr ⟨lw_p3, List.forall_mem_cons.mpr ⟨lw_p4, List.forall_mem_cons.mpr ⟨lw_p5, List.forall_mem_cons.mpr ⟨lw_p6, List.forall_mem_cons.mpr ⟨lw_p7, List.forall_mem_cons.mpr ⟨lw_p8, List.forall_mem_cons.mpr ⟨lw_p9, List.forall_mem_cons.mpr ⟨lw_p10, List.forall_mem_cons.mpr ⟨lw_p11, List.forall_mem_cons.mpr ⟨lw_p12, List.forall_mem_cons.mpr ⟨lw_p13, List.forall_mem_cons.mpr ⟨lw_p14, List.forall_mem_cons.mpr ⟨lw_p15, fun _ h => absurd h List.not_mem_nil⟩⟩⟩⟩⟩⟩⟩⟩⟩⟩⟩⟩⟩⟩⟩⟩
theorem lw_p16 : lw_okq (⟨"PretzelProofModel", "base", "(I)I"⟩, 35) := ⟨⟨by decide +kernel, by decide +kernel⟩, List.mem_of_getElem? (i := 827) (by decide +kernel), List.mem_of_getElem? (i := 998) (by decide +kernel), List.mem_of_getElem? (i := 999) (by decide +kernel)⟩
theorem lw_p17 : lw_okq (⟨"PretzelProofModel", "isOne", "(I)Z"⟩, 35) := ⟨⟨by decide +kernel, by decide +kernel⟩, List.mem_of_getElem? (i := 827) (by decide +kernel), List.mem_of_getElem? (i := 1010) (by decide +kernel), List.mem_of_getElem? (i := 1011) (by decide +kernel)⟩
theorem lw_p18 : lw_okq (⟨"PretzelProofModel", "loads", "(I)V"⟩, 35) := ⟨⟨by decide +kernel, by decide +kernel⟩, List.mem_of_getElem? (i := 827) (by decide +kernel), List.mem_of_getElem? (i := 1015) (by decide +kernel), List.mem_of_getElem? (i := 1016) (by decide +kernel)⟩
theorem lw_p19 : lw_okq (⟨"PretzelProofModel", "passes", "(I)I"⟩, 35) := ⟨⟨by decide +kernel, by decide +kernel⟩, List.mem_of_getElem? (i := 827) (by decide +kernel), List.mem_of_getElem? (i := 1019) (by decide +kernel), List.mem_of_getElem? (i := 1020) (by decide +kernel)⟩
theorem lw_p20 : lw_okq (⟨"PretzelProofModel", "moveOf", "(I)I"⟩, 35) := ⟨⟨by decide +kernel, by decide +kernel⟩, List.mem_of_getElem? (i := 827) (by decide +kernel), List.mem_of_getElem? (i := 1023) (by decide +kernel), List.mem_of_getElem? (i := 1024) (by decide +kernel)⟩
theorem lw_p21 : lw_okq (⟨"PretzelProofModel", "leaves", "(I)V"⟩, 35) := ⟨⟨by decide +kernel, by decide +kernel⟩, List.mem_of_getElem? (i := 827) (by decide +kernel), List.mem_of_getElem? (i := 1027) (by decide +kernel), List.mem_of_getElem? (i := 1028) (by decide +kernel)⟩
theorem lw_p22 : lw_okq (⟨"PretzelProofModel", "isMove", "(IIII)Z"⟩, 35) := ⟨⟨by decide +kernel, by decide +kernel⟩, List.mem_of_getElem? (i := 827) (by decide +kernel), List.mem_of_getElem? (i := 1031) (by decide +kernel), List.mem_of_getElem? (i := 1032) (by decide +kernel)⟩
theorem lw_p23 : lw_okq (⟨"PretzelProofModel", "isBeside", "(II)Z"⟩, 35) := ⟨⟨by decide +kernel, by decide +kernel⟩, List.mem_of_getElem? (i := 827) (by decide +kernel), List.mem_of_getElem? (i := 1035) (by decide +kernel), List.mem_of_getElem? (i := 1036) (by decide +kernel)⟩
theorem lw_p24 : lw_okq (⟨"PretzelProofModel", "shaken", "(II)I"⟩, 35) := ⟨⟨by decide +kernel, by decide +kernel⟩, List.mem_of_getElem? (i := 827) (by decide +kernel), List.mem_of_getElem? (i := 1044) (by decide +kernel), List.mem_of_getElem? (i := 1045) (by decide +kernel)⟩
theorem lw_p25 : lw_okq (⟨"PretzelProofModel", "shakes", "(I)V"⟩, 35) := ⟨⟨by decide +kernel, by decide +kernel⟩, List.mem_of_getElem? (i := 827) (by decide +kernel), List.mem_of_getElem? (i := 1048) (by decide +kernel), List.mem_of_getElem? (i := 1049) (by decide +kernel)⟩
theorem lw_p26 : lw_okq (⟨"PretzelProofModel", "comesTo", "(III)V"⟩, 35) := ⟨⟨by decide +kernel, by decide +kernel⟩, List.mem_of_getElem? (i := 827) (by decide +kernel), List.mem_of_getElem? (i := 1055) (by decide +kernel), List.mem_of_getElem? (i := 1056) (by decide +kernel)⟩
theorem lw_p27 : lw_okq (⟨"PretzelProofModel", "crossings", "(I)I"⟩, 35) := ⟨⟨by decide +kernel, by decide +kernel⟩, List.mem_of_getElem? (i := 827) (by decide +kernel), List.mem_of_getElem? (i := 1066) (by decide +kernel), List.mem_of_getElem? (i := 1067) (by decide +kernel)⟩
theorem lw_p28 : lw_okq (⟨"PretzelProofModel", "parts", "()V"⟩, 35) := ⟨⟨by decide +kernel, by decide +kernel⟩, List.mem_of_getElem? (i := 827) (by decide +kernel), List.mem_of_getElem? (i := 1070) (by decide +kernel), List.mem_of_getElem? (i := 1071) (by decide +kernel)⟩
theorem lw_p29 : lw_okq (⟨"PretzelProofModel", "isWay", "(I)Z"⟩, 35) := ⟨⟨by decide +kernel, by decide +kernel⟩, List.mem_of_getElem? (i := 827) (by decide +kernel), List.mem_of_getElem? (i := 1074) (by decide +kernel), List.mem_of_getElem? (i := 1075) (by decide +kernel)⟩
theorem lw_p30 : lw_okq (⟨"PretzelProofModel", "colours", "(I)I"⟩, 35) := ⟨⟨by decide +kernel, by decide +kernel⟩, List.mem_of_getElem? (i := 827) (by decide +kernel), List.mem_of_getElem? (i := 1091) (by decide +kernel), List.mem_of_getElem? (i := 1092) (by decide +kernel)⟩
theorem lw_p31 : lw_okq (⟨"PretzelProofModel", "swaps", "(II)V"⟩, 35) := ⟨⟨by decide +kernel, by decide +kernel⟩, List.mem_of_getElem? (i := 827) (by decide +kernel), List.mem_of_getElem? (i := 1095) (by decide +kernel), List.mem_of_getElem? (i := 1096) (by decide +kernel)⟩
def lw_privs_2 : List (MethodName × Nat) := [(⟨"PretzelProofModel", "base", "(I)I"⟩, 35), (⟨"PretzelProofModel", "isOne", "(I)Z"⟩, 35), (⟨"PretzelProofModel", "loads", "(I)V"⟩, 35), (⟨"PretzelProofModel", "passes", "(I)I"⟩, 35), (⟨"PretzelProofModel", "moveOf", "(I)I"⟩, 35), (⟨"PretzelProofModel", "leaves", "(I)V"⟩, 35), (⟨"PretzelProofModel", "isMove", "(IIII)Z"⟩, 35), (⟨"PretzelProofModel", "isBeside", "(II)Z"⟩, 35), (⟨"PretzelProofModel", "shaken", "(II)I"⟩, 35), (⟨"PretzelProofModel", "shakes", "(I)V"⟩, 35), (⟨"PretzelProofModel", "comesTo", "(III)V"⟩, 35), (⟨"PretzelProofModel", "crossings", "(I)I"⟩, 35), (⟨"PretzelProofModel", "parts", "()V"⟩, 35), (⟨"PretzelProofModel", "isWay", "(I)Z"⟩, 35), (⟨"PretzelProofModel", "colours", "(I)I"⟩, 35), (⟨"PretzelProofModel", "swaps", "(II)V"⟩, 35)]
theorem lw_r2 : ∀ q ∈ lw_privs_2, lw_okq q := List.forall_mem_cons.mpr ⟨lw_p16, List.forall_mem_cons.mpr ⟨lw_p17, List.forall_mem_cons.mpr ⟨lw_p18, List.forall_mem_cons.mpr ⟨lw_p19, List.forall_mem_cons.mpr ⟨lw_p20, List.forall_mem_cons.mpr ⟨lw_p21, List.forall_mem_cons.mpr ⟨lw_p22, List.forall_mem_cons.mpr ⟨lw_p23, List.forall_mem_cons.mpr ⟨lw_p24, List.forall_mem_cons.mpr ⟨lw_p25, List.forall_mem_cons.mpr ⟨lw_p26, List.forall_mem_cons.mpr ⟨lw_p27, List.forall_mem_cons.mpr ⟨lw_p28, List.forall_mem_cons.mpr ⟨lw_p29, List.forall_mem_cons.mpr ⟨lw_p30, List.forall_mem_cons.mpr ⟨lw_p31, fun _ h => absurd h List.not_mem_nil⟩⟩⟩⟩⟩⟩⟩⟩⟩⟩⟩⟩⟩⟩⟩⟩
theorem lw_p32 : lw_okq (⟨"PretzelProofModel", "clears", "(IIII)V"⟩, 35) := ⟨⟨by decide +kernel, by decide +kernel⟩, List.mem_of_getElem? (i := 827) (by decide +kernel), List.mem_of_getElem? (i := 1099) (by decide +kernel), List.mem_of_getElem? (i := 1100) (by decide +kernel)⟩
theorem lw_p33 : lw_okq (⟨"PretzelProofModel", "weak", "()I"⟩, 35) := ⟨⟨by decide +kernel, by decide +kernel⟩, List.mem_of_getElem? (i := 827) (by decide +kernel), List.mem_of_getElem? (i := 1103) (by decide +kernel), List.mem_of_getElem? (i := 1104) (by decide +kernel)⟩
theorem lw_p34 : lw_okq (⟨"PretzelProofModel", "isOut", "(I)Z"⟩, 35) := ⟨⟨by decide +kernel, by decide +kernel⟩, List.mem_of_getElem? (i := 827) (by decide +kernel), List.mem_of_getElem? (i := 1107) (by decide +kernel), List.mem_of_getElem? (i := 1108) (by decide +kernel)⟩
theorem lw_p35 : lw_okq (⟨"PretzelProofModel", "turns", "(I)V"⟩, 35) := ⟨⟨by decide +kernel, by decide +kernel⟩, List.mem_of_getElem? (i := 827) (by decide +kernel), List.mem_of_getElem? (i := 1111) (by decide +kernel), List.mem_of_getElem? (i := 1112) (by decide +kernel)⟩
theorem lw_p36 : lw_okq (⟨"PretzelProofModel", "switches", "()I"⟩, 35) := ⟨⟨by decide +kernel, by decide +kernel⟩, List.mem_of_getElem? (i := 827) (by decide +kernel), List.mem_of_getElem? (i := 1115) (by decide +kernel), List.mem_of_getElem? (i := 1116) (by decide +kernel)⟩
theorem lw_p37 : lw_okq (⟨"PretzelProofModel", "odd", "()I"⟩, 35) := ⟨⟨by decide +kernel, by decide +kernel⟩, List.mem_of_getElem? (i := 827) (by decide +kernel), List.mem_of_getElem? (i := 1119) (by decide +kernel), List.mem_of_getElem? (i := 1120) (by decide +kernel)⟩
theorem lw_p38 : lw_okq (⟨"PretzelProofModel", "inside", "(I)I"⟩, 35) := ⟨⟨by decide +kernel, by decide +kernel⟩, List.mem_of_getElem? (i := 827) (by decide +kernel), List.mem_of_getElem? (i := 1123) (by decide +kernel), List.mem_of_getElem? (i := 1124) (by decide +kernel)⟩
theorem lw_p39 : lw_okq (⟨"PretzelProofModel", "isCrossing", "(II)Z"⟩, 35) := ⟨⟨by decide +kernel, by decide +kernel⟩, List.mem_of_getElem? (i := 827) (by decide +kernel), List.mem_of_getElem? (i := 1135) (by decide +kernel), List.mem_of_getElem? (i := 1136) (by decide +kernel)⟩
theorem lw_p40 : lw_okq (⟨"PretzelProofModel", "isTwo", "(II)Z"⟩, 35) := ⟨⟨by decide +kernel, by decide +kernel⟩, List.mem_of_getElem? (i := 827) (by decide +kernel), List.mem_of_getElem? (i := 1143) (by decide +kernel), List.mem_of_getElem? (i := 1144) (by decide +kernel)⟩
theorem lw_p41 : lw_okq (⟨"PretzelProofModel", "reverses", "()V"⟩, 35) := ⟨⟨by decide +kernel, by decide +kernel⟩, List.mem_of_getElem? (i := 827) (by decide +kernel), List.mem_of_getElem? (i := 1147) (by decide +kernel), List.mem_of_getElem? (i := 1148) (by decide +kernel)⟩
theorem lw_p42 : lw_okq (⟨"PretzelProofModel", "isSame", "(I)Z"⟩, 35) := ⟨⟨by decide +kernel, by decide +kernel⟩, List.mem_of_getElem? (i := 827) (by decide +kernel), List.mem_of_getElem? (i := 1151) (by decide +kernel), List.mem_of_getElem? (i := 1152) (by decide +kernel)⟩
theorem lw_p43 : lw_okq (⟨"PretzelProofModel", "known", "()V"⟩, 35) := ⟨⟨by decide +kernel, by decide +kernel⟩, List.mem_of_getElem? (i := 827) (by decide +kernel), List.mem_of_getElem? (i := 1168) (by decide +kernel), List.mem_of_getElem? (i := 1169) (by decide +kernel)⟩
theorem lw_p44 : lw_okq (⟨"PretzelProofModel", "copies", "(II)V"⟩, 35) := ⟨⟨by decide +kernel, by decide +kernel⟩, List.mem_of_getElem? (i := 827) (by decide +kernel), List.mem_of_getElem? (i := 1172) (by decide +kernel), List.mem_of_getElem? (i := 1173) (by decide +kernel)⟩
theorem lw_p45 : lw_okq (⟨"PretzelProofModel", "drops", "(I)V"⟩, 35) := ⟨⟨by decide +kernel, by decide +kernel⟩, List.mem_of_getElem? (i := 827) (by decide +kernel), List.mem_of_getElem? (i := 1176) (by decide +kernel), List.mem_of_getElem? (i := 1177) (by decide +kernel)⟩
theorem lw_p46 : lw_okq (⟨"PretzelProofModel", "curls", "(IIZ)V"⟩, 35) := ⟨⟨by decide +kernel, by decide +kernel⟩, List.mem_of_getElem? (i := 827) (by decide +kernel), List.mem_of_getElem? (i := 1184) (by decide +kernel), List.mem_of_getElem? (i := 1185) (by decide +kernel)⟩
theorem lw_p47 : lw_okq (⟨"PretzelProofModel", "rolls", "(I)V"⟩, 35) := ⟨⟨by decide +kernel, by decide +kernel⟩, List.mem_of_getElem? (i := 827) (by decide +kernel), List.mem_of_getElem? (i := 1204) (by decide +kernel), List.mem_of_getElem? (i := 1205) (by decide +kernel)⟩
def lw_privs_3 : List (MethodName × Nat) := [(⟨"PretzelProofModel", "clears", "(IIII)V"⟩, 35), (⟨"PretzelProofModel", "weak", "()I"⟩, 35), (⟨"PretzelProofModel", "isOut", "(I)Z"⟩, 35), (⟨"PretzelProofModel", "turns", "(I)V"⟩, 35), (⟨"PretzelProofModel", "switches", "()I"⟩, 35), (⟨"PretzelProofModel", "odd", "()I"⟩, 35), (⟨"PretzelProofModel", "inside", "(I)I"⟩, 35), (⟨"PretzelProofModel", "isCrossing", "(II)Z"⟩, 35), (⟨"PretzelProofModel", "isTwo", "(II)Z"⟩, 35), (⟨"PretzelProofModel", "reverses", "()V"⟩, 35), (⟨"PretzelProofModel", "isSame", "(I)Z"⟩, 35), (⟨"PretzelProofModel", "known", "()V"⟩, 35), (⟨"PretzelProofModel", "copies", "(II)V"⟩, 35), (⟨"PretzelProofModel", "drops", "(I)V"⟩, 35), (⟨"PretzelProofModel", "curls", "(IIZ)V"⟩, 35), (⟨"PretzelProofModel", "rolls", "(I)V"⟩, 35)]
theorem lw_r3 : ∀ q ∈ lw_privs_3, lw_okq q := List.forall_mem_cons.mpr ⟨lw_p32, List.forall_mem_cons.mpr ⟨lw_p33, List.forall_mem_cons.mpr ⟨lw_p34, List.forall_mem_cons.mpr ⟨lw_p35, List.forall_mem_cons.mpr ⟨lw_p36, List.forall_mem_cons.mpr ⟨lw_p37, List.forall_mem_cons.mpr ⟨lw_p38, List.forall_mem_cons.mpr ⟨lw_p39, List.forall_mem_cons.mpr ⟨lw_p40, List.forall_mem_cons.mpr ⟨lw_p41, List.forall_mem_cons.mpr ⟨lw_p42, List.forall_mem_cons.mpr ⟨lw_p43, List.forall_mem_cons.mpr ⟨lw_p44, List.forall_mem_cons.mpr ⟨lw_p45, List.forall_mem_cons.mpr ⟨lw_p46, List.forall_mem_cons.mpr ⟨lw_p47, fun _ h => absurd h List.not_mem_nil⟩⟩⟩⟩⟩⟩⟩⟩⟩⟩⟩⟩⟩⟩⟩⟩
theorem lw_p48 : lw_okq (⟨"PretzelProofModel", "drifts", "()V"⟩, 35) := ⟨⟨by decide +kernel, by decide +kernel⟩, List.mem_of_getElem? (i := 827) (by decide +kernel), List.mem_of_getElem? (i := 1222) (by decide +kernel), List.mem_of_getElem? (i := 1223) (by decide +kernel)⟩
theorem lw_p49 : lw_okq (⟨"PretzelProofModel", "draw", "(I)I"⟩, 35) := ⟨⟨by decide +kernel, by decide +kernel⟩, List.mem_of_getElem? (i := 827) (by decide +kernel), List.mem_of_getElem? (i := 1226) (by decide +kernel), List.mem_of_getElem? (i := 1227) (by decide +kernel)⟩
def lw_privs_4 : List (MethodName × Nat) := [(⟨"PretzelProofModel", "drifts", "()V"⟩, 35), (⟨"PretzelProofModel", "draw", "(I)I"⟩, 35)]
theorem lw_r4 : ∀ q ∈ lw_privs_4, lw_okq q := List.forall_mem_cons.mpr ⟨lw_p48, List.forall_mem_cons.mpr ⟨lw_p49, fun _ h => absurd h List.not_mem_nil⟩⟩
def lw_privs : List (MethodName × Nat) := lw_privs_1 ++ (lw_privs_2 ++ (lw_privs_3 ++ (lw_privs_4)))
def lw_tbl : List Cond := k2_sels lw_privs ++ tables_1
theorem lw_privs_ok : ∀ q ∈ lw_privs, lw_okq q := by
  show ∀ q ∈ lw_privs_1 ++ (lw_privs_2 ++ (lw_privs_3 ++ (lw_privs_4))), lw_okq q
  exact List.forall_mem_append.mpr ⟨lw_r1, List.forall_mem_append.mpr ⟨lw_r2, List.forall_mem_append.mpr ⟨lw_r3, lw_r4⟩⟩⟩
/-! ===== BEGIN printed: names, fields, word lists, decode rows ===== -/
def RX0 : String := "PretzelProof$Book"
def TX0 : u_T := fun k => match k with
  | 0 => ("PretzelProof$Book", "pretzels", "[I", true)
  | 1 => ("PretzelProof$Book", "crossings", "[I", true)
  | _ => ("PretzelProof$Book", "entries", "I", false)
def tyX0 : Nat → FieldType := fun k => match k with
  | 0 => .array .int
  | 1 => .array .int
  | _ => .int
abbrev wsX00 : List Cond := u_ws RX0 TX0 3
theorem nmX0 : ∀ a, a < 3 → ∀ b, b < 3 → a ≠ b → (TX0 a).2.1 ≠ (TX0 b).2.1 := by decide +kernel
theorem tyX0_ok : ∀ k, k < 3 → parseFieldDescriptor (TX0 k).2.2.1 = some (tyX0 k) := by decide +kernel
abbrev cX0_init : ByteArray := prog_2_method_1_code
def yX0_init : MethodName := ⟨RX0, "<init>", "()V"⟩
abbrev cX0_addEntry : ByteArray := prog_2_method_2_code
def yX0_addEntry : MethodName := ⟨RX0, "addEntry", "(II)Z"⟩
abbrev cX0_firstWrong : ByteArray := prog_2_method_3_code
def yX0_firstWrong : MethodName := ⟨RX0, "firstWrong", "(LPretzelProof$Tray;)I"⟩
def RX1 : String := "PretzelProof$Colours"
def TX1 : u_T := fun k => match k with
  | 0 => ("PretzelProof$Colours", "rows", "[[I", true)
  | 1 => ("PretzelProof$Colours", "overParts", "[I", true)
  | 2 => ("PretzelProof$Colours", "beginningParts", "[I", true)
  | 3 => ("PretzelProof$Colours", "pivotRows", "[I", true)
  | 4 => ("PretzelProof$Colours", "parts", "I", false)
  | _ => ("PretzelProof$Colours", "rank", "I", false)
def tyX1 : Nat → FieldType := fun k => match k with
  | 0 => .array (.array .int)
  | 1 => .array .int
  | 2 => .array .int
  | 3 => .array .int
  | 4 => .int
  | _ => .int
abbrev wsX10 : List Cond := u_ws RX1 TX1 6
theorem nmX1 : ∀ a, a < 6 → ∀ b, b < 6 → a ≠ b → (TX1 a).2.1 ≠ (TX1 b).2.1 := by decide +kernel
theorem tyX1_ok : ∀ k, k < 6 → parseFieldDescriptor (TX1 k).2.2.1 = some (tyX1 k) := by decide +kernel
abbrev cX1_init : ByteArray := prog_3_method_1_code
def yX1_init : MethodName := ⟨RX1, "<init>", "()V"⟩
abbrev cX1_waysBy : ByteArray := prog_3_method_2_code
def yX1_waysBy : MethodName := ⟨RX1, "waysBy", "(LPretzelProof$Rope;I)I"⟩
abbrev cX1_firstColourOf : ByteArray := prog_3_method_3_code
def yX1_firstColourOf : MethodName := ⟨RX1, "firstColourOf", "(LPretzelProof$Rope;I)I"⟩
abbrev cX1_solve : ByteArray := prog_3_method_4_code
def yX1_solve : MethodName := ⟨RX1, "solve", "(LPretzelProof$Rope;I)V"⟩
abbrev cX1_findParts : ByteArray := prog_3_method_5_code
def yX1_findParts : MethodName := ⟨RX1, "findParts", "(LPretzelProof$Rope;)V"⟩
abbrev cX1_writeRows : ByteArray := prog_3_method_6_code
def yX1_writeRows : MethodName := ⟨RX1, "writeRows", "(LPretzelProof$Rope;I)V"⟩
abbrev cX1_addTo : ByteArray := prog_3_method_7_code
def yX1_addTo : MethodName := ⟨RX1, "addTo", "(IIII)V"⟩
abbrev cX1_rowWith : ByteArray := prog_3_method_8_code
def yX1_rowWith : MethodName := ⟨RX1, "rowWith", "(II)I"⟩
abbrev cX1_exchangeRows : ByteArray := prog_3_method_9_code
def yX1_exchangeRows : MethodName := ⟨RX1, "exchangeRows", "(II)V"⟩
abbrev cX1_scaleRow : ByteArray := prog_3_method_10_code
def yX1_scaleRow : MethodName := ⟨RX1, "scaleRow", "(III)V"⟩
abbrev cX1_clearOthers : ByteArray := prog_3_method_11_code
def yX1_clearOthers : MethodName := ⟨RX1, "clearOthers", "(IIII)V"⟩
def RX2 : String := "PretzelProof$History"
def TX2 : u_T := fun k => match k with
  | 0 => ("PretzelProof$History", "ahead", "[LPretzelProof$Tray;", true)
  | 1 => ("PretzelProof$History", "next", "I", false)
  | _ => ("PretzelProof$History", "count", "I", false)
def tyX2 : Nat → FieldType := fun k => match k with
  | 0 => .array (.object "PretzelProof$Tray")
  | 1 => .int
  | _ => .int
abbrev wsX20 : List Cond := u_ws RX2 TX2 3
theorem nmX2 : ∀ a, a < 3 → ∀ b, b < 3 → a ≠ b → (TX2 a).2.1 ≠ (TX2 b).2.1 := by decide +kernel
theorem tyX2_ok : ∀ k, k < 3 → parseFieldDescriptor (TX2 k).2.2.1 = some (tyX2 k) := by decide +kernel
abbrev cX2_init : ByteArray := prog_4_method_1_code
def yX2_init : MethodName := ⟨RX2, "<init>", "(LPretzelProof$Numbering;)V"⟩
abbrev cX2_forgetAll : ByteArray := prog_4_method_2_code
def yX2_forgetAll : MethodName := ⟨RX2, "forgetAll", "()V"⟩
abbrev cX2_remember : ByteArray := prog_4_method_3_code
def yX2_remember : MethodName := ⟨RX2, "remember", "(LPretzelProof$Tray;)V"⟩
abbrev cX2_restore : ByteArray := prog_4_method_4_code
def yX2_restore : MethodName := ⟨RX2, "restore", "(LPretzelProof$Tray;)Z"⟩
def RX3 : String := "PretzelProof$MoveList"
def TX3 : u_T := fun k => match k with
  | 0 => ("PretzelProof$MoveList", "row", "[I", true)
  | 1 => ("PretzelProof$MoveList", "oversBeside", "[I", true)
  | 2 => ("PretzelProof$MoveList", "undersBeside", "[I", true)
  | 3 => ("PretzelProof$MoveList", "numbers", "[I", true)
  | 4 => ("PretzelProof$MoveList", "curls", "I", false)
  | _ => ("PretzelProof$MoveList", "count", "I", false)
def tyX3 : Nat → FieldType := fun k => match k with
  | 0 => .array .int
  | 1 => .array .int
  | 2 => .array .int
  | 3 => .array .int
  | 4 => .int
  | _ => .int
abbrev wsX30 : List Cond := u_ws RX3 TX3 6
theorem nmX3 : ∀ a, a < 6 → ∀ b, b < 6 → a ≠ b → (TX3 a).2.1 ≠ (TX3 b).2.1 := by decide +kernel
theorem tyX3_ok : ∀ k, k < 6 → parseFieldDescriptor (TX3 k).2.2.1 = some (tyX3 k) := by decide +kernel
abbrev cX3_init : ByteArray := prog_5_method_1_code
def yX3_init : MethodName := ⟨RX3, "<init>", "()V"⟩
abbrev cX3_lookNow : ByteArray := prog_5_method_2_code
def yX3_lookNow : MethodName := ⟨RX3, "lookNow", "(LPretzelProof$Rope;)V"⟩
abbrev cX3_lookAt : ByteArray := prog_5_method_3_code
def yX3_lookAt : MethodName := ⟨RX3, "lookAt", "(LPretzelProof$Rope;III)V"⟩
abbrev cX3_moveAt : ByteArray := prog_5_method_4_code
def yX3_moveAt : MethodName := ⟨RX3, "moveAt", "(I)I"⟩
abbrev cX3_contains : ByteArray := prog_5_method_5_code
def yX3_contains : MethodName := ⟨RX3, "contains", "(I)Z"⟩
abbrev cX3_leftOf : ByteArray := prog_5_method_6_code
def yX3_leftOf : MethodName := ⟨RX3, "leftOf", "(LPretzelProof$Rope;III)I"⟩
abbrev cX3_leftByCurls : ByteArray := prog_5_method_7_code
def yX3_leftByCurls : MethodName := ⟨RX3, "leftByCurls", "(LPretzelProof$Rope;)I"⟩
abbrev cX3_takeRow : ByteArray := prog_5_method_8_code
def yX3_takeRow : MethodName := ⟨RX3, "takeRow", "(LPretzelProof$Rope;II)I"⟩
abbrev cX3_seeNeighbours : ByteArray := prog_5_method_9_code
def yX3_seeNeighbours : MethodName := ⟨RX3, "seeNeighbours", "(I)V"⟩
abbrev cX3_listMoves : ByteArray := prog_5_method_10_code
def yX3_listMoves : MethodName := ⟨RX3, "listMoves", "(I)V"⟩
def RX4 : String := "PretzelProof$Numbering"
def TX4 : u_T := fun k => match k with
  | 0 => ("PretzelProof$Numbering", "numbers", "[I", true)
  | 1 => ("PretzelProof$Numbering", "known", "I", false)
  | _ => ("PretzelProof$Numbering", "given", "I", false)
def tyX4 : Nat → FieldType := fun k => match k with
  | 0 => .array .int
  | 1 => .int
  | _ => .int
abbrev wsX40 : List Cond := u_ws RX4 TX4 3
theorem nmX4 : ∀ a, a < 3 → ∀ b, b < 3 → a ≠ b → (TX4 a).2.1 ≠ (TX4 b).2.1 := by decide +kernel
theorem tyX4_ok : ∀ k, k < 3 → parseFieldDescriptor (TX4 k).2.2.1 = some (tyX4 k) := by decide +kernel
abbrev cX4_init : ByteArray := prog_6_method_1_code
def yX4_init : MethodName := ⟨RX4, "<init>", "()V"⟩
abbrev cX4_begin : ByteArray := prog_6_method_2_code
def yX4_begin : MethodName := ⟨RX4, "begin", "()V"⟩
abbrev cX4_knows : ByteArray := prog_6_method_3_code
def yX4_knows : MethodName := ⟨RX4, "knows", "(I)Z"⟩
abbrev cX4_numberOf : ByteArray := prog_6_method_4_code
def yX4_numberOf : MethodName := ⟨RX4, "numberOf", "(I)I"⟩
def RX5 : String := "PretzelProof$Reader"
def TX5 : u_T := fun k => match k with
  | 0 => ("PretzelProof$Reader", "text", "[I", true)
  | 1 => ("PretzelProof$Reader", "draft", "LPretzelProof$Tray;", true)
  | 2 => ("PretzelProof$Reader", "names", "LPretzelProof$Numbering;", true)
  | 3 => ("PretzelProof$Reader", "row", "[I", true)
  | 4 => ("PretzelProof$Reader", "letters", "I", false)
  | 5 => ("PretzelProof$Reader", "place", "I", false)
  | 6 => ("PretzelProof$Reader", "figures", "I", false)
  | 7 => ("PretzelProof$Reader", "firstFigure", "I", false)
  | 8 => ("PretzelProof$Reader", "greats", "I", false)
  | 9 => ("PretzelProof$Reader", "smalls", "I", false)
  | 10 => ("PretzelProof$Reader", "faultAt", "I", false)
  | _ => ("PretzelProof$Reader", "hasTray", "Z", false)
def tyX5 : Nat → FieldType := fun k => match k with
  | 0 => .array .int
  | 1 => .object "PretzelProof$Tray"
  | 2 => .object "PretzelProof$Numbering"
  | 3 => .array .int
  | 4 => .int
  | 5 => .int
  | 6 => .int
  | 7 => .int
  | 8 => .int
  | 9 => .int
  | 10 => .int
  | _ => .boolean
abbrev wsX50 : List Cond := u_ws RX5 TX5 12
theorem nmX5 : ∀ a, a < 12 → ∀ b, b < 12 → a ≠ b → (TX5 a).2.1 ≠ (TX5 b).2.1 := by decide +kernel
theorem tyX5_ok : ∀ k, k < 12 → parseFieldDescriptor (TX5 k).2.2.1 = some (tyX5 k) := by decide +kernel
abbrev cX5_init : ByteArray := prog_7_method_1_code
def yX5_init : MethodName := ⟨RX5, "<init>", "(LPretzelProof$Tray;)V"⟩
abbrev cX5_addLetter : ByteArray := prog_7_method_2_code
def yX5_addLetter : MethodName := ⟨RX5, "addLetter", "(I)Z"⟩
abbrev cX5_readText : ByteArray := prog_7_method_3_code
def yX5_readText : MethodName := ⟨RX5, "readText", "()I"⟩
abbrev cX5_readBlank : ByteArray := prog_7_method_4_code
def yX5_readBlank : MethodName := ⟨RX5, "readBlank", "()I"⟩
abbrev cX5_readLetter : ByteArray := prog_7_method_5_code
def yX5_readLetter : MethodName := ⟨RX5, "readLetter", "(II)I"⟩
abbrev cX5_readStart : ByteArray := prog_7_method_6_code
def yX5_readStart : MethodName := ⟨RX5, "readStart", "(I)I"⟩
abbrev cX5_readFirstFigure : ByteArray := prog_7_method_7_code
def yX5_readFirstFigure : MethodName := ⟨RX5, "readFirstFigure", "(II)I"⟩
abbrev cX5_readNumber : ByteArray := prog_7_method_8_code
def yX5_readNumber : MethodName := ⟨RX5, "readNumber", "(I)I"⟩
abbrev cX5_readNumbersEnd : ByteArray := prog_7_method_9_code
def yX5_readNumbersEnd : MethodName := ⟨RX5, "readNumbersEnd", "(I)I"⟩
abbrev cX5_readClause : ByteArray := prog_7_method_10_code
def yX5_readClause : MethodName := ⟨RX5, "readClause", "(I)I"⟩
abbrev cX5_readThread : ByteArray := prog_7_method_11_code
def yX5_readThread : MethodName := ⟨RX5, "readThread", "(I)I"⟩
abbrev cX5_readPass : ByteArray := prog_7_method_12_code
def yX5_readPass : MethodName := ⟨RX5, "readPass", "(IZ)I"⟩
abbrev cX5_readThreadsEnd : ByteArray := prog_7_method_13_code
def yX5_readThreadsEnd : MethodName := ⟨RX5, "readThreadsEnd", "()I"⟩
abbrev cX5_isFigure : ByteArray := prog_7_method_14_code
def yX5_isFigure : MethodName := ⟨RX5, "isFigure", "(I)Z"⟩
def RX6 : String := "PretzelProof$Rope"
def TX6 : u_T := fun k => match k with
  | 0 => ("PretzelProof$Rope", "numbering", "LPretzelProof$Numbering;", true)
  | 1 => ("PretzelProof$Rope", "passes", "[I", true)
  | 2 => ("PretzelProof$Rope", "crossings", "I", false)
  | _ => ("PretzelProof$Rope", "salted", "I", false)
def tyX6 : Nat → FieldType := fun k => match k with
  | 0 => .object "PretzelProof$Numbering"
  | 1 => .array .int
  | 2 => .int
  | _ => .int
abbrev wsX60 : List Cond := u_ws RX6 TX6 4
theorem nmX6 : ∀ a, a < 4 → ∀ b, b < 4 → a ≠ b → (TX6 a).2.1 ≠ (TX6 b).2.1 := by decide +kernel
theorem tyX6_ok : ∀ k, k < 4 → parseFieldDescriptor (TX6 k).2.2.1 = some (tyX6 k) := by decide +kernel
abbrev cX6_init : ByteArray := prog_8_method_1_code
def yX6_init : MethodName := ⟨RX6, "<init>", "(LPretzelProof$Numbering;)V"⟩
abbrev cX6_length : ByteArray := prog_8_method_2_code
def yX6_length : MethodName := ⟨RX6, "length", "()I"⟩
abbrev cX6_everyCrossing : ByteArray := prog_8_method_3_code
def yX6_everyCrossing : MethodName := ⟨RX6, "everyCrossing", "()I"⟩
abbrev cX6_has : ByteArray := prog_8_method_4_code
def yX6_has : MethodName := ⟨RX6, "has", "(I)Z"⟩
abbrev cX6_passAt : ByteArray := prog_8_method_5_code
def yX6_passAt : MethodName := ⟨RX6, "passAt", "(I)I"⟩
abbrev cX6_makePlain : ByteArray := prog_8_method_6_code
def yX6_makePlain : MethodName := ⟨RX6, "makePlain", "()V"⟩
abbrev cX6_copyFrom : ByteArray := prog_8_method_7_code
def yX6_copyFrom : MethodName := ⟨RX6, "copyFrom", "(LPretzelProof$Rope;)V"⟩
abbrev cX6_lay : ByteArray := prog_8_method_8_code
def yX6_lay : MethodName := ⟨RX6, "lay", "([II)V"⟩
abbrev cX6_numberAnew : ByteArray := prog_8_method_9_code
def yX6_numberAnew : MethodName := ⟨RX6, "numberAnew", "()V"⟩
abbrev cX6_takeAway : ByteArray := prog_8_method_10_code
def yX6_takeAway : MethodName := ⟨RX6, "takeAway", "(I)V"⟩
abbrev cX6_addCurl : ByteArray := prog_8_method_11_code
def yX6_addCurl : MethodName := ⟨RX6, "addCurl", "(IZ)V"⟩
abbrev cX6_switchSet : ByteArray := prog_8_method_12_code
def yX6_switchSet : MethodName := ⟨RX6, "switchSet", "(I)V"⟩
abbrev cX6_goTheOtherWay : ByteArray := prog_8_method_13_code
def yX6_goTheOtherWay : MethodName := ⟨RX6, "goTheOtherWay", "()V"⟩
abbrev cX6_rollOnce : ByteArray := prog_8_method_14_code
def yX6_rollOnce : MethodName := ⟨RX6, "rollOnce", "()V"⟩
abbrev cX6_append : ByteArray := prog_8_method_15_code
def yX6_append : MethodName := ⟨RX6, "append", "(LPretzelProof$Rope;)V"⟩
abbrev cX6_lyingIn : ByteArray := prog_8_method_16_code
def yX6_lyingIn : MethodName := ⟨RX6, "lyingIn", "(I)I"⟩
def RX7 : String := "PretzelProof$Rounds"
def TX7 : u_T := fun k => match k with
  | 0 => ("PretzelProof$Rounds", "numbering", "LPretzelProof$Numbering;", true)
  | 1 => ("PretzelProof$Rounds", "row", "[I", true)
  | _ => ("PretzelProof$Rounds", "least", "[I", true)
def tyX7 : Nat → FieldType := fun k => match k with
  | 0 => .object "PretzelProof$Numbering"
  | 1 => .array .int
  | _ => .array .int
abbrev wsX70 : List Cond := u_ws RX7 TX7 3
theorem nmX7 : ∀ a, a < 3 → ∀ b, b < 3 → a ≠ b → (TX7 a).2.1 ≠ (TX7 b).2.1 := by decide +kernel
theorem tyX7_ok : ∀ k, k < 3 → parseFieldDescriptor (TX7 k).2.2.1 = some (tyX7 k) := by decide +kernel
abbrev cX7_init : ByteArray := prog_9_method_1_code
def yX7_init : MethodName := ⟨RX7, "<init>", "(LPretzelProof$Numbering;)V"⟩
abbrev cX7_waysInto : ByteArray := prog_9_method_2_code
def yX7_waysInto : MethodName := ⟨RX7, "waysInto", "(LPretzelProof$Rope;LPretzelProof$Rope;)I"⟩
abbrev cX7_leastWordAt : ByteArray := prog_9_method_3_code
def yX7_leastWordAt : MethodName := ⟨RX7, "leastWordAt", "(LPretzelProof$Rope;I)I"⟩
abbrev cX7_comesTo : ByteArray := prog_9_method_4_code
def yX7_comesTo : MethodName := ⟨RX7, "comesTo", "(LPretzelProof$Rope;LPretzelProof$Rope;ZI)Z"⟩
abbrev cX7_goAlong : ByteArray := prog_9_method_5_code
def yX7_goAlong : MethodName := ⟨RX7, "goAlong", "(LPretzelProof$Rope;IZI)V"⟩
abbrev cX7_compare : ByteArray := prog_9_method_6_code
def yX7_compare : MethodName := ⟨RX7, "compare", "([I[II)I"⟩
def RX8 : String := "PretzelProof$Shaking"
def TX8 : u_T := fun k => match k with
  | 0 => ("PretzelProof$Shaking", "movesTo", "[I", true)
  | 1 => ("PretzelProof$Shaking", "firstTo", "[I", true)
  | 2 => ("PretzelProof$Shaking", "sets", "I", false)
  | 3 => ("PretzelProof$Shaking", "fewest", "I", false)
  | 4 => ("PretzelProof$Shaking", "fewestMoves", "I", false)
  | _ => ("PretzelProof$Shaking", "firstMove", "I", false)
def tyX8 : Nat → FieldType := fun k => match k with
  | 0 => .array .int
  | 1 => .array .int
  | 2 => .int
  | 3 => .int
  | 4 => .int
  | _ => .int
abbrev wsX80 : List Cond := u_ws RX8 TX8 6
theorem nmX8 : ∀ a, a < 6 → ∀ b, b < 6 → a ≠ b → (TX8 a).2.1 ≠ (TX8 b).2.1 := by decide +kernel
theorem tyX8_ok : ∀ k, k < 6 → parseFieldDescriptor (TX8 k).2.2.1 = some (tyX8 k) := by decide +kernel
abbrev cX8_init : ByteArray := prog_10_method_1_code
def yX8_init : MethodName := ⟨RX8, "<init>", "()V"⟩
abbrev cX8_tryAll : ByteArray := prog_10_method_2_code
def yX8_tryAll : MethodName := ⟨RX8, "tryAll", "(LPretzelProof$Rope;LPretzelProof$MoveList;)V"⟩
abbrev cX8_followMoves : ByteArray := prog_10_method_3_code
def yX8_followMoves : MethodName := ⟨RX8, "followMoves", "(IZLPretzelProof$MoveList;)V"⟩
abbrev cX8_weigh : ByteArray := prog_10_method_4_code
def yX8_weigh : MethodName := ⟨RX8, "weigh", "(I)V"⟩
def RX9 : String := "PretzelProof$Tray"
def TX9 : u_T := fun k => match k with
  | 0 => ("PretzelProof$Tray", "ropes", "[LPretzelProof$Rope;", true)
  | 1 => ("PretzelProof$Tray", "pretzels", "I", false)
  | _ => ("PretzelProof$Tray", "grains", "I", false)
def tyX9 : Nat → FieldType := fun k => match k with
  | 0 => .array (.object "PretzelProof$Rope")
  | 1 => .int
  | _ => .int
abbrev wsX90 : List Cond := u_ws RX9 TX9 3
theorem nmX9 : ∀ a, a < 3 → ∀ b, b < 3 → a ≠ b → (TX9 a).2.1 ≠ (TX9 b).2.1 := by decide +kernel
theorem tyX9_ok : ∀ k, k < 3 → parseFieldDescriptor (TX9 k).2.2.1 = some (tyX9 k) := by decide +kernel
abbrev cX9_init : ByteArray := prog_11_method_1_code
def yX9_init : MethodName := ⟨RX9, "<init>", "(LPretzelProof$Numbering;)V"⟩
abbrev cX9_ropeOf : ByteArray := prog_11_method_2_code
def yX9_ropeOf : MethodName := ⟨RX9, "ropeOf", "(I)LPretzelProof$Rope;"⟩
abbrev cX9_copyFrom : ByteArray := prog_11_method_3_code
def yX9_copyFrom : MethodName := ⟨RX9, "copyFrom", "(LPretzelProof$Tray;)V"⟩
abbrev cX9_crossingsOfAll : ByteArray := prog_11_method_4_code
def yX9_crossingsOfAll : MethodName := ⟨RX9, "crossingsOfAll", "()I"⟩
abbrev cX9_saltedOfAll : ByteArray := prog_11_method_5_code
def yX9_saltedOfAll : MethodName := ⟨RX9, "saltedOfAll", "()I"⟩
abbrev cX9_plainOnes : ByteArray := prog_11_method_6_code
def yX9_plainOnes : MethodName := ⟨RX9, "plainOnes", "()I"⟩
def RX10 : String := "PretzelProof"
def TX10 : u_T := fun k => match k with
  | 0 => ("PretzelProof", "reader", "LPretzelProof$Reader;", true)
  | 1 => ("PretzelProof", "now", "LPretzelProof$Tray;", true)
  | 2 => ("PretzelProof", "history", "LPretzelProof$History;", true)
  | 3 => ("PretzelProof", "images", "[LPretzelProof$Tray;", true)
  | 4 => ("PretzelProof", "imageSeeds", "[I", true)
  | 5 => ("PretzelProof", "book", "LPretzelProof$Book;", true)
  | 6 => ("PretzelProof", "moveList", "LPretzelProof$MoveList;", true)
  | 7 => ("PretzelProof", "shaking", "LPretzelProof$Shaking;", true)
  | 8 => ("PretzelProof", "colours", "LPretzelProof$Colours;", true)
  | 9 => ("PretzelProof", "rounds", "LPretzelProof$Rounds;", true)
  | 10 => ("PretzelProof", "laid", "Z", false)
  | 11 => ("PretzelProof", "imagesKept", "I", false)
  | 12 => ("PretzelProof", "faultAt", "I", false)
  | _ => ("PretzelProof", "drawn", "I", false)
def tyX10 : Nat → FieldType := fun k => match k with
  | 0 => .object "PretzelProof$Reader"
  | 1 => .object "PretzelProof$Tray"
  | 2 => .object "PretzelProof$History"
  | 3 => .array (.object "PretzelProof$Tray")
  | 4 => .array .int
  | 5 => .object "PretzelProof$Book"
  | 6 => .object "PretzelProof$MoveList"
  | 7 => .object "PretzelProof$Shaking"
  | 8 => .object "PretzelProof$Colours"
  | 9 => .object "PretzelProof$Rounds"
  | 10 => .boolean
  | 11 => .int
  | 12 => .int
  | _ => .int
abbrev wsX100 : List Cond := u_ws RX10 TX10 14
theorem nmX10 : ∀ a, a < 14 → ∀ b, b < 14 → a ≠ b → (TX10 a).2.1 ≠ (TX10 b).2.1 := by decide +kernel
theorem tyX10_ok : ∀ k, k < 14 → parseFieldDescriptor (TX10 k).2.2.1 = some (tyX10 k) := by decide +kernel
abbrev cX10_init : ByteArray := prog_1_method_1_code
def yX10_init : MethodName := ⟨RX10, "<init>", "()V"⟩
abbrev cX10_feed : ByteArray := prog_1_method_2_code
def yX10_feed : MethodName := ⟨RX10, "feed", "(I)I"⟩
abbrev cX10_tray : ByteArray := prog_1_method_3_code
def yX10_tray : MethodName := ⟨RX10, "tray", "()I"⟩
abbrev cX10_fault : ByteArray := prog_1_method_4_code
def yX10_fault : MethodName := ⟨RX10, "fault", "()I"⟩
abbrev cX10_told : ByteArray := prog_1_method_5_code
def yX10_told : MethodName := ⟨RX10, "told", "(I)I"⟩
abbrev cX10_pretzel : ByteArray := prog_1_method_6_code
def yX10_pretzel : MethodName := ⟨RX10, "pretzel", "(II)I"⟩
abbrev cX10_pass : ByteArray := prog_1_method_7_code
def yX10_pass : MethodName := ⟨RX10, "pass", "(II)I"⟩
abbrev cX10_moves : ByteArray := prog_1_method_8_code
def yX10_moves : MethodName := ⟨RX10, "moves", "(II)I"⟩
abbrev cX10_shake : ByteArray := prog_1_method_9_code
def yX10_shake : MethodName := ⟨RX10, "shake", "(III)I"⟩
abbrev cX10_curl : ByteArray := prog_1_method_10_code
def yX10_curl : MethodName := ⟨RX10, "curl", "(IIZ)I"⟩
abbrev cX10_turn : ByteArray := prog_1_method_11_code
def yX10_turn : MethodName := ⟨RX10, "turn", "(II)I"⟩
abbrev cX10_reverse : ByteArray := prog_1_method_12_code
def yX10_reverse : MethodName := ⟨RX10, "reverse", "(I)I"⟩
abbrev cX10_mirror : ByteArray := prog_1_method_13_code
def yX10_mirror : MethodName := ⟨RX10, "mirror", "(I)I"⟩
abbrev cX10_roll : ByteArray := prog_1_method_14_code
def yX10_roll : MethodName := ⟨RX10, "roll", "(I)I"⟩
abbrev cX10_join : ByteArray := prog_1_method_15_code
def yX10_join : MethodName := ⟨RX10, "join", "(II)I"⟩
abbrev cX10_salt : ByteArray := prog_1_method_16_code
def yX10_salt : MethodName := ⟨RX10, "salt", "(IIZ)I"⟩
abbrev cX10_drift : ByteArray := prog_1_method_17_code
def yX10_drift : MethodName := ⟨RX10, "drift", "(I)I"⟩
abbrev cX10_undo : ByteArray := prog_1_method_18_code
def yX10_undo : MethodName := ⟨RX10, "undo", "()I"⟩
abbrev cX10_toShake : ByteArray := prog_1_method_19_code
def yX10_toShake : MethodName := ⟨RX10, "toShake", "(II)I"⟩
abbrev cX10_within : ByteArray := prog_1_method_20_code
def yX10_within : MethodName := ⟨RX10, "within", "(II)I"⟩
abbrev cX10_same : ByteArray := prog_1_method_21_code
def yX10_same : MethodName := ⟨RX10, "same", "(II)I"⟩
abbrev cX10_tells : ByteArray := prog_1_method_22_code
def yX10_tells : MethodName := ⟨RX10, "tells", "(II)I"⟩
abbrev cX10_words : ByteArray := prog_1_method_23_code
def yX10_words : MethodName := ⟨RX10, "words", "(II)I"⟩
abbrev cX10_colour : ByteArray := prog_1_method_24_code
def yX10_colour : MethodName := ⟨RX10, "colour", "(II)I"⟩
abbrev cX10_whole : ByteArray := prog_1_method_25_code
def yX10_whole : MethodName := ⟨RX10, "whole", "(II)I"⟩
abbrev cX10_write : ByteArray := prog_1_method_26_code
def yX10_write : MethodName := ⟨RX10, "write", "(II)I"⟩
abbrev cX10_tear : ByteArray := prog_1_method_27_code
def yX10_tear : MethodName := ⟨RX10, "tear", "()I"⟩
abbrev cX10_judge : ByteArray := prog_1_method_28_code
def yX10_judge : MethodName := ⟨RX10, "judge", "()I"⟩
abbrev cX10_seed : ByteArray := prog_1_method_29_code
def yX10_seed : MethodName := ⟨RX10, "seed", "(I)I"⟩
abbrev cX10_keep : ByteArray := prog_1_method_30_code
def yX10_keep : MethodName := ⟨RX10, "keep", "(I)I"⟩
abbrev cX10_goBack : ByteArray := prog_1_method_31_code
def yX10_goBack : MethodName := ⟨RX10, "goBack", "(I)I"⟩
abbrev cX10_shakenOutOnes : ByteArray := prog_1_method_32_code
def yX10_shakenOutOnes : MethodName := ⟨RX10, "shakenOutOnes", "()I"⟩
abbrev cX10_fewestUnsalted : ByteArray := prog_1_method_33_code
def yX10_fewestUnsalted : MethodName := ⟨RX10, "fewestUnsalted", "(LPretzelProof$Rope;)I"⟩
abbrev cX10_weakOnes : ByteArray := prog_1_method_34_code
def yX10_weakOnes : MethodName := ⟨RX10, "weakOnes", "(LPretzelProof$Rope;)I"⟩
abbrev cX10_fewestSwitches : ByteArray := prog_1_method_35_code
def yX10_fewestSwitches : MethodName := ⟨RX10, "fewestSwitches", "(LPretzelProof$Rope;)I"⟩
abbrev cX10_oddOnes : ByteArray := prog_1_method_36_code
def yX10_oddOnes : MethodName := ⟨RX10, "oddOnes", "(LPretzelProof$Rope;)I"⟩
abbrev cX10_driftOnce : ByteArray := prog_1_method_37_code
def yX10_driftOnce : MethodName := ⟨RX10, "driftOnce", "()V"⟩
abbrev cX10_shakeByFirstMove : ByteArray := prog_1_method_38_code
def yX10_shakeByFirstMove : MethodName := ⟨RX10, "shakeByFirstMove", "(LPretzelProof$Rope;)V"⟩
abbrev cX10_curlByDraws : ByteArray := prog_1_method_39_code
def yX10_curlByDraws : MethodName := ⟨RX10, "curlByDraws", "(LPretzelProof$Rope;)V"⟩
abbrev cX10_draw : ByteArray := prog_1_method_40_code
def yX10_draw : MethodName := ⟨RX10, "draw", "(I)I"⟩
abbrev cX10_leftOver : ByteArray := prog_1_method_41_code
def yX10_leftOver : MethodName := ⟨RX10, "leftOver", "(II)I"⟩
abbrev cX10_isIn : ByteArray := prog_1_method_42_code
def yX10_isIn : MethodName := ⟨RX10, "isIn", "(II)Z"⟩
abbrev cX10_crossingOf : ByteArray := prog_1_method_43_code
def yX10_crossingOf : MethodName := ⟨RX10, "crossingOf", "(I)I"⟩
abbrev cX10_takenBy : ByteArray := prog_1_method_44_code
def yX10_takenBy : MethodName := ⟨RX10, "takenBy", "(I)I"⟩
def RX11 : String := "PretzelProofModel"
def TX11 : u_T := fun k => match k with
  | 0 => ("PretzelProofModel", "slot", "[I", true)
  | 1 => ("PretzelProofModel", "isTray", "Z", false)
  | 2 => ("PretzelProofModel", "acts", "I", false)
  | 3 => ("PretzelProofModel", "start", "I", false)
  | 4 => ("PretzelProofModel", "keptSeed", "[I", true)
  | 5 => ("PretzelProofModel", "keptHow", "[I", true)
  | 6 => ("PretzelProofModel", "length", "I", false)
  | 7 => ("PretzelProofModel", "text", "[B", true)
  | 8 => ("PretzelProofModel", "at", "I", false)
  | 9 => ("PretzelProofModel", "wrong", "I", false)
  | 10 => ("PretzelProofModel", "wrongAt", "I", false)
  | 11 => ("PretzelProofModel", "latest", "I", false)
  | 12 => ("PretzelProofModel", "newGrains", "I", false)
  | 13 => ("PretzelProofModel", "newMany", "I", false)
  | 14 => ("PretzelProofModel", "newLength", "[I", true)
  | 15 => ("PretzelProofModel", "newPass", "[I", true)
  | 16 => ("PretzelProofModel", "names", "[I", true)
  | 17 => ("PretzelProofModel", "entries", "I", false)
  | 18 => ("PretzelProofModel", "entryOf", "[I", true)
  | 19 => ("PretzelProofModel", "entryTold", "[I", true)
  | 20 => ("PretzelProofModel", "size", "I", false)
  | 21 => ("PretzelProofModel", "row", "[I", true)
  | 22 => ("PretzelProofModel", "other", "[I", true)
  | 23 => ("PretzelProofModel", "anew", "[I", true)
  | 24 => ("PretzelProofModel", "salts", "I", false)
  | 25 => ("PretzelProofModel", "lefts", "I", false)
  | 26 => ("PretzelProofModel", "line", "[I", true)
  | 27 => ("PretzelProofModel", "far", "[I", true)
  | 28 => ("PretzelProofModel", "by", "[I", true)
  | 29 => ("PretzelProofModel", "over", "[I", true)
  | 30 => ("PretzelProofModel", "under", "[I", true)
  | 31 => ("PretzelProofModel", "matrix", "[I", true)
  | 32 => ("PretzelProofModel", "above", "[I", true)
  | 33 => ("PretzelProofModel", "stop", "[I", true)
  | _ => ("PretzelProofModel", "hue", "[I", true)
def tyX11 : Nat → FieldType := fun k => match k with
  | 0 => .array .int
  | 1 => .boolean
  | 2 => .int
  | 3 => .int
  | 4 => .array .int
  | 5 => .array .int
  | 6 => .int
  | 7 => .array .byte
  | 8 => .int
  | 9 => .int
  | 10 => .int
  | 11 => .int
  | 12 => .int
  | 13 => .int
  | 14 => .array .int
  | 15 => .array .int
  | 16 => .array .int
  | 17 => .int
  | 18 => .array .int
  | 19 => .array .int
  | 20 => .int
  | 21 => .array .int
  | 22 => .array .int
  | 23 => .array .int
  | 24 => .int
  | 25 => .int
  | 26 => .array .int
  | 27 => .array .int
  | 28 => .array .int
  | 29 => .array .int
  | 30 => .array .int
  | 31 => .array .int
  | 32 => .array .int
  | 33 => .array .int
  | _ => .array .int
abbrev wsX110 : List Cond := u_ws RX11 TX11 35
theorem nmX11 : ∀ a, a < 35 → ∀ b, b < 35 → a ≠ b → (TX11 a).2.1 ≠ (TX11 b).2.1 := by decide +kernel
theorem tyX11_ok : ∀ k, k < 35 → parseFieldDescriptor (TX11 k).2.2.1 = some (tyX11 k) := by decide +kernel
abbrev cX11_init : ByteArray := prog_13_method_1_code
def yX11_init : MethodName := ⟨RX11, "<init>", "()V"⟩
abbrev cX11_in : ByteArray := prog_13_method_2_code
def yX11_in : MethodName := ⟨RX11, "in", "(JJJ)Z"⟩
abbrev cX11_has : ByteArray := prog_13_method_3_code
def yX11_has : MethodName := ⟨RX11, "has", "(II)Z"⟩
abbrev cX11_bits : ByteArray := prog_13_method_4_code
def yX11_bits : MethodName := ⟨RX11, "bits", "(I)I"⟩
abbrev cX11_base : ByteArray := prog_13_method_5_code
def yX11_base : MethodName := ⟨RX11, "base", "(I)I"⟩
abbrev cX11_isOne : ByteArray := prog_13_method_6_code
def yX11_isOne : MethodName := ⟨RX11, "isOne", "(I)Z"⟩
abbrev cX11_passes : ByteArray := prog_13_method_7_code
def yX11_passes : MethodName := ⟨RX11, "passes", "(I)I"⟩
abbrev cX11_crossings : ByteArray := prog_13_method_8_code
def yX11_crossings : MethodName := ⟨RX11, "crossings", "(I)I"⟩
abbrev cX11_isCrossing : ByteArray := prog_13_method_9_code
def yX11_isCrossing : MethodName := ⟨RX11, "isCrossing", "(II)Z"⟩
abbrev cX11_copies : ByteArray := prog_13_method_10_code
def yX11_copies : MethodName := ⟨RX11, "copies", "(II)V"⟩
abbrev cX11_feed : ByteArray := prog_13_method_11_code
def yX11_feed : MethodName := ⟨RX11, "feed", "(I)I"⟩
abbrev cX11_next : ByteArray := prog_13_method_12_code
def yX11_next : MethodName := ⟨RX11, "next", "()I"⟩
abbrev cX11_blames : ByteArray := prog_13_method_13_code
def yX11_blames : MethodName := ⟨RX11, "blames", "(II)V"⟩
abbrev cX11_ends : ByteArray := prog_13_method_14_code
def yX11_ends : MethodName := ⟨RX11, "ends", "()V"⟩
abbrev cX11_grains : ByteArray := prog_13_method_15_code
def yX11_grains : MethodName := ⟨RX11, "grains", "()V"⟩
abbrev cX11_nameOf : ByteArray := prog_13_method_16_code
def yX11_nameOf : MethodName := ⟨RX11, "nameOf", "(I)I"⟩
abbrev cX11_threads : ByteArray := prog_13_method_17_code
def yX11_threads : MethodName := ⟨RX11, "threads", "()V"⟩
abbrev cX11_reads : ByteArray := prog_13_method_18_code
def yX11_reads : MethodName := ⟨RX11, "reads", "()V"⟩
abbrev cX11_tray : ByteArray := prog_13_method_19_code
def yX11_tray : MethodName := ⟨RX11, "tray", "()I"⟩
abbrev cX11_fault : ByteArray := prog_13_method_20_code
def yX11_fault : MethodName := ⟨RX11, "fault", "()I"⟩
abbrev cX11_loads : ByteArray := prog_13_method_21_code
def yX11_loads : MethodName := ⟨RX11, "loads", "(I)V"⟩
abbrev cX11_numbers : ByteArray := prog_13_method_22_code
def yX11_numbers : MethodName := ⟨RX11, "numbers", "(I)I"⟩
abbrev cX11_stores : ByteArray := prog_13_method_23_code
def yX11_stores : MethodName := ⟨RX11, "stores", "(I)V"⟩
abbrev cX11_turns : ByteArray := prog_13_method_24_code
def yX11_turns : MethodName := ⟨RX11, "turns", "(I)V"⟩
abbrev cX11_reverses : ByteArray := prog_13_method_25_code
def yX11_reverses : MethodName := ⟨RX11, "reverses", "()V"⟩
abbrev cX11_drops : ByteArray := prog_13_method_26_code
def yX11_drops : MethodName := ⟨RX11, "drops", "(I)V"⟩
abbrev cX11_leaves : ByteArray := prog_13_method_27_code
def yX11_leaves : MethodName := ⟨RX11, "leaves", "(I)V"⟩
abbrev cX11_isBeside : ByteArray := prog_13_method_28_code
def yX11_isBeside : MethodName := ⟨RX11, "isBeside", "(II)Z"⟩
abbrev cX11_isMove : ByteArray := prog_13_method_29_code
def yX11_isMove : MethodName := ⟨RX11, "isMove", "(IIII)Z"⟩
abbrev cX11_without : ByteArray := prog_13_method_30_code
def yX11_without : MethodName := ⟨RX11, "without", "(III)I"⟩
abbrev cX11_shakes : ByteArray := prog_13_method_31_code
def yX11_shakes : MethodName := ⟨RX11, "shakes", "(I)V"⟩
abbrev cX11_comesTo : ByteArray := prog_13_method_32_code
def yX11_comesTo : MethodName := ⟨RX11, "comesTo", "(III)V"⟩
abbrev cX11_shaken : ByteArray := prog_13_method_33_code
def yX11_shaken : MethodName := ⟨RX11, "shaken", "(II)I"⟩
abbrev cX11_moveOf : ByteArray := prog_13_method_34_code
def yX11_moveOf : MethodName := ⟨RX11, "moveOf", "(I)I"⟩
abbrev cX11_moves : ByteArray := prog_13_method_35_code
def yX11_moves : MethodName := ⟨RX11, "moves", "(II)I"⟩
abbrev cX11_toShake : ByteArray := prog_13_method_36_code
def yX11_toShake : MethodName := ⟨RX11, "toShake", "(II)I"⟩
abbrev cX11_parts : ByteArray := prog_13_method_37_code
def yX11_parts : MethodName := ⟨RX11, "parts", "()V"⟩
abbrev cX11_left : ByteArray := prog_13_method_38_code
def yX11_left : MethodName := ⟨RX11, "left", "(II)I"⟩
abbrev cX11_colours : ByteArray := prog_13_method_39_code
def yX11_colours : MethodName := ⟨RX11, "colours", "(I)I"⟩
abbrev cX11_swaps : ByteArray := prog_13_method_40_code
def yX11_swaps : MethodName := ⟨RX11, "swaps", "(II)V"⟩
abbrev cX11_clears : ByteArray := prog_13_method_41_code
def yX11_clears : MethodName := ⟨RX11, "clears", "(IIII)V"⟩
abbrev cX11_isWay : ByteArray := prog_13_method_42_code
def yX11_isWay : MethodName := ⟨RX11, "isWay", "(I)Z"⟩
abbrev cX11_colour : ByteArray := prog_13_method_43_code
def yX11_colour : MethodName := ⟨RX11, "colour", "(II)I"⟩
abbrev cX11_isOut : ByteArray := prog_13_method_44_code
def yX11_isOut : MethodName := ⟨RX11, "isOut", "(I)Z"⟩
abbrev cX11_weak : ByteArray := prog_13_method_45_code
def yX11_weak : MethodName := ⟨RX11, "weak", "()I"⟩
abbrev cX11_switches : ByteArray := prog_13_method_46_code
def yX11_switches : MethodName := ⟨RX11, "switches", "()I"⟩
abbrev cX11_inside : ByteArray := prog_13_method_47_code
def yX11_inside : MethodName := ⟨RX11, "inside", "(I)I"⟩
abbrev cX11_odd : ByteArray := prog_13_method_48_code
def yX11_odd : MethodName := ⟨RX11, "odd", "()I"⟩
abbrev cX11_told : ByteArray := prog_13_method_49_code
def yX11_told : MethodName := ⟨RX11, "told", "(I)I"⟩
abbrev cX11_pretzel : ByteArray := prog_13_method_50_code
def yX11_pretzel : MethodName := ⟨RX11, "pretzel", "(II)I"⟩
abbrev cX11_pass : ByteArray := prog_13_method_51_code
def yX11_pass : MethodName := ⟨RX11, "pass", "(II)I"⟩
abbrev cX11_within : ByteArray := prog_13_method_52_code
def yX11_within : MethodName := ⟨RX11, "within", "(II)I"⟩
abbrev cX11_isTwo : ByteArray := prog_13_method_53_code
def yX11_isTwo : MethodName := ⟨RX11, "isTwo", "(II)Z"⟩
abbrev cX11_isSame : ByteArray := prog_13_method_54_code
def yX11_isSame : MethodName := ⟨RX11, "isSame", "(I)Z"⟩
abbrev cX11_same : ByteArray := prog_13_method_55_code
def yX11_same : MethodName := ⟨RX11, "same", "(II)I"⟩
abbrev cX11_tells : ByteArray := prog_13_method_56_code
def yX11_tells : MethodName := ⟨RX11, "tells", "(II)I"⟩
abbrev cX11_words : ByteArray := prog_13_method_57_code
def yX11_words : MethodName := ⟨RX11, "words", "(II)I"⟩
abbrev cX11_known : ByteArray := prog_13_method_58_code
def yX11_known : MethodName := ⟨RX11, "known", "()V"⟩
abbrev cX11_shake : ByteArray := prog_13_method_59_code
def yX11_shake : MethodName := ⟨RX11, "shake", "(III)I"⟩
abbrev cX11_curls : ByteArray := prog_13_method_60_code
def yX11_curls : MethodName := ⟨RX11, "curls", "(IIZ)V"⟩
abbrev cX11_curl : ByteArray := prog_13_method_61_code
def yX11_curl : MethodName := ⟨RX11, "curl", "(IIZ)I"⟩
abbrev cX11_turn : ByteArray := prog_13_method_62_code
def yX11_turn : MethodName := ⟨RX11, "turn", "(II)I"⟩
abbrev cX11_reverse : ByteArray := prog_13_method_63_code
def yX11_reverse : MethodName := ⟨RX11, "reverse", "(I)I"⟩
abbrev cX11_mirror : ByteArray := prog_13_method_64_code
def yX11_mirror : MethodName := ⟨RX11, "mirror", "(I)I"⟩
abbrev cX11_rolls : ByteArray := prog_13_method_65_code
def yX11_rolls : MethodName := ⟨RX11, "rolls", "(I)V"⟩
abbrev cX11_roll : ByteArray := prog_13_method_66_code
def yX11_roll : MethodName := ⟨RX11, "roll", "(I)I"⟩
abbrev cX11_join : ByteArray := prog_13_method_67_code
def yX11_join : MethodName := ⟨RX11, "join", "(II)I"⟩
abbrev cX11_salt : ByteArray := prog_13_method_68_code
def yX11_salt : MethodName := ⟨RX11, "salt", "(IIZ)I"⟩
abbrev cX11_draw : ByteArray := prog_13_method_69_code
def yX11_draw : MethodName := ⟨RX11, "draw", "(I)I"⟩
abbrev cX11_drifts : ByteArray := prog_13_method_70_code
def yX11_drifts : MethodName := ⟨RX11, "drifts", "()V"⟩
abbrev cX11_drift : ByteArray := prog_13_method_71_code
def yX11_drift : MethodName := ⟨RX11, "drift", "(I)I"⟩
abbrev cX11_undo : ByteArray := prog_13_method_72_code
def yX11_undo : MethodName := ⟨RX11, "undo", "()I"⟩
abbrev cX11_whole : ByteArray := prog_13_method_73_code
def yX11_whole : MethodName := ⟨RX11, "whole", "(II)I"⟩
abbrev cX11_write : ByteArray := prog_13_method_74_code
def yX11_write : MethodName := ⟨RX11, "write", "(II)I"⟩
abbrev cX11_tear : ByteArray := prog_13_method_75_code
def yX11_tear : MethodName := ⟨RX11, "tear", "()I"⟩
abbrev cX11_judge : ByteArray := prog_13_method_76_code
def yX11_judge : MethodName := ⟨RX11, "judge", "()I"⟩
abbrev cX11_seed : ByteArray := prog_13_method_77_code
def yX11_seed : MethodName := ⟨RX11, "seed", "(I)I"⟩
abbrev cX11_keep : ByteArray := prog_13_method_78_code
def yX11_keep : MethodName := ⟨RX11, "keep", "(I)I"⟩
abbrev cX11_goBack : ByteArray := prog_13_method_79_code
def yX11_goBack : MethodName := ⟨RX11, "goBack", "(I)I"⟩
def RJ6 : String := "java/lang/Integer"
def TJ6 : u_T := fun k => match k with
  | _ => ("", "", "", false)
def tyJ6 : Nat → FieldType := fun k => match k with
  | _ => .int
abbrev wsJ60 : List Cond := u_ws RJ6 TJ6 0
theorem nmJ6 : ∀ a, a < 0 → ∀ b, b < 0 → a ≠ b → (TJ6 a).2.1 ≠ (TJ6 b).2.1 := by decide +kernel
theorem tyJ6_ok : ∀ k, k < 0 → parseFieldDescriptor (TJ6 k).2.2.1 = some (tyJ6 k) := by decide +kernel
abbrev cJ6_bitCount_0f7a4 : ByteArray := prog_14_method_49_code
def yJ6_bitCount_0f7a4 : MethodName := ⟨RJ6, "bitCount", "(I)I"⟩
def RJ9 : String := "java/lang/Math"
def TJ9 : u_T := fun k => match k with
  | _ => ("", "", "", false)
def tyJ9 : Nat → FieldType := fun k => match k with
  | _ => .int
abbrev wsJ90 : List Cond := u_ws RJ9 TJ9 0
theorem nmJ9 : ∀ a, a < 0 → ∀ b, b < 0 → a ≠ b → (TJ9 a).2.1 ≠ (TJ9 b).2.1 := by decide +kernel
theorem tyJ9_ok : ∀ k, k < 0 → parseFieldDescriptor (TJ9 k).2.2.1 = some (tyJ9 k) := by decide +kernel
abbrev cJ9_max_7cf53 : ByteArray := prog_15_method_65_code
def yJ9_max_7cf53 : MethodName := ⟨RJ9, "max", "(II)I"⟩
abbrev cJ9_min_7cf53 : ByteArray := prog_15_method_69_code
def yJ9_min_7cf53 : MethodName := ⟨RJ9, "min", "(II)I"⟩
def RJ10 : String := "java/lang/System"
def TJ10 : u_T := fun k => match k with
  | _ => ("", "", "", false)
def tyJ10 : Nat → FieldType := fun k => match k with
  | _ => .int
abbrev wsJ100 : List Cond := u_ws RJ10 TJ10 0
theorem nmJ10 : ∀ a, a < 0 → ∀ b, b < 0 → a ≠ b → (TJ10 a).2.1 ≠ (TJ10 b).2.1 := by decide +kernel
theorem tyJ10_ok : ∀ k, k < 0 → parseFieldDescriptor (TJ10 k).2.2.1 = some (tyJ10 k) := by decide +kernel
def RJ7 : String := "java/util/Arrays"
def TJ7 : u_T := fun k => match k with
  | _ => ("", "", "", false)
def tyJ7 : Nat → FieldType := fun k => match k with
  | _ => .int
abbrev wsJ70 : List Cond := u_ws RJ7 TJ7 0
theorem nmJ7 : ∀ a, a < 0 → ∀ b, b < 0 → a ≠ b → (TJ7 a).2.1 ≠ (TJ7 b).2.1 := by decide +kernel
theorem tyJ7_ok : ∀ k, k < 0 → parseFieldDescriptor (TJ7 k).2.2.1 = some (tyJ7 k) := by decide +kernel
abbrev cJ7_fill_53178 : ByteArray := prog_17_method_103_code
def yJ7_fill_53178 : MethodName := ⟨RJ7, "fill", "([II)V"⟩
def RL : String := "PretzelProofLaw"
abbrev cL_law : ByteArray := code
def yL_law : MethodName := ⟨RL, "law", "([I)Z"⟩
abbrev vwCl : List vw_C := [(RX0, TX0, 3), (RX1, TX1, 6), (RX2, TX2, 3), (RX3, TX3, 6), (RX4, TX4, 3), (RX5, TX5, 12), (RX6, TX6, 4), (RX7, TX7, 3), (RX8, TX8, 6), (RX9, TX9, 3), (RX10, TX10, 14), (RX11, TX11, 35)]
end
section
def nw_all : List Cond := [.methodLinkNest "PretzelProof$Reader" 104 ⟨"PretzelProof", "isIn", "(II)Z"⟩ "PretzelProof", .methodLinkNest "PretzelProof$Numbering" 22 ⟨"PretzelProof", "isIn", "(II)Z"⟩ "PretzelProof", .methodLinkNest "PretzelProof$MoveList" 65 ⟨"PretzelProof", "crossingOf", "(I)I"⟩ "PretzelProof", .methodLinkNest "PretzelProof$MoveList" 68 ⟨"PretzelProof", "isIn", "(II)Z"⟩ "PretzelProof", .methodLinkNest "PretzelProof$MoveList" 55 ⟨"PretzelProof", "takenBy", "(I)I"⟩ "PretzelProof", .methodLinkNest "PretzelProof$Colours" 80 ⟨"PretzelProof", "crossingOf", "(I)I"⟩ "PretzelProof", .methodLinkNest "PretzelProof$Colours" 37 ⟨"PretzelProof", "leftOver", "(II)I"⟩ "PretzelProof", .methodLinkNest "PretzelProof$Rope" 50 ⟨"PretzelProof", "crossingOf", "(I)I"⟩ "PretzelProof", .methodLinkNest "PretzelProof$Rope" 57 ⟨"PretzelProof", "isIn", "(II)Z"⟩ "PretzelProof", .methodLinkNest "PretzelProof$Shaking" 70 ⟨"PretzelProof", "takenBy", "(I)I"⟩ "PretzelProof", .methodLinkNest "PretzelProof$Rounds" 62 ⟨"PretzelProof", "crossingOf", "(I)I"⟩ "PretzelProof"]
/-! an abstract machine over the kit's rows: ints as Int in range, cells by (tag, number), a heap as a function -/
abbrev AV : Type := Int ⊕ (Int ⊕ Option (Nat × Nat))
abbrev HH : Type := Nat → Nat → Nat → Int
abbrev GG : Type := va_G × (Nat → ClassId) × (Nat → Nat → Nat)
abbrev EN : Type := Nat × Instr × Nat × Nat × Nat
abbrev MD : Type := MethodName × ByteArray × Nat × Option FieldType × (Nat × Nat) × List EN
def vi (a : Int) : AV := .inl a
def vl (a : Int) : AV := .inr (.inl a)
def vr (t i : Nat) : AV := .inr (.inr (some (t, i)))
def vn : AV := .inr (.inr none)
/-- how many cells a tag has -/
def cnt (t : Nat) : Nat := match t with
  | 1 => 2 | 2 => 2 | 3 => 20 | 4 => 20 | 5 => 100 | 6 => 100 | 27 => 8 | _ => 1
/-- the class of an object's tag, by its place in vwCl -/
def ko (t : Nat) : Option Nat := match t with
  | 0 => some 10 | 1 => some 4 | 3 => some 9 | 5 => some 6 | 7 => some 5 | 10 => some 2 | 14 => some 0 | 17 => some 3 | 22 => some 8 | 25 => some 1 | 31 => some 7 | 40 => some 11 | _ => none
/-- an array's tag: its kind (0 int, 1 byte, 2 Tray, 3 Rope, 4 int rows), its length -/
def ka (t : Nat) : Option (Nat × Nat) := match t with
  | 2 => some (0, 26) | 4 => some (3, 5) | 6 => some (0, 16) | 8 => some (0, 240) | 9 => some (0, 16) | 11 => some (2, 16) | 12 => some (2, 2) | 13 => some (0, 2) | 15 => some (0, 15) | 16 => some (0, 15)
  | 18 => some (0, 16) | 19 => some (0, 8) | 20 => some (0, 8) | 21 => some (0, 36) | 23 => some (0, 256) | 24 => some (0, 256) | 26 => some (4, 8) | 27 => some (0, 8) | 28 => some (0, 8) | 29 => some (0, 8) | 30 => some (0, 8)
  | 32 => some (0, 16) | 33 => some (0, 16)
  | 41 => some (0, 1748) | 42 => some (0, 2) | 43 => some (0, 2) | 44 => some (1, 240) | 45 => some (0, 5) | 46 => some (0, 80) | 47 => some (0, 26) | 48 => some (0, 15) | 49 => some (0, 15) | 50 => some (0, 16) | 51 => some (0, 16) | 52 => some (0, 16)
  | 53 => some (0, 16) | 54 => some (0, 256) | 55 => some (0, 256) | 56 => some (0, 8) | 57 => some (0, 8) | 58 => some (0, 64) | 59 => some (0, 8) | 60 => some (0, 8) | 61 => some (0, 8)
  | _ => none
/-- the cells that cells refer to -/
def rf (t i k : Nat) : Option (Nat × Nat) := match t with
  | 0 => (match k with | 0 => some (7, 0) | 1 => some (3, 1) | 2 => some (10, 0) | 3 => some (12, 0) | 4 => some (13, 0) | 5 => some (14, 0) | 6 => some (17, 0) | 7 => some (22, 0) | 8 => some (25, 0) | 9 => some (31, 0) | _ => none)
  | 1 => (match k with | 0 => some (2, i) | _ => none)
  | 3 => (match k with | 0 => some (4, i) | _ => none)
  | 4 => some (5, 5 * i + k)
  | 5 => (match k with | 0 => some (1, 0) | 1 => some (6, i) | _ => none)
  | 7 => (match k with | 0 => some (8, 0) | 1 => some (3, 0) | 2 => some (1, 1) | 3 => some (9, 0) | _ => none)
  | 10 => (match k with | 0 => some (11, 0) | _ => none)
  | 11 => some (3, 2 + k)
  | 12 => some (3, 18 + k)
  | 14 => (match k with | 0 => some (15, 0) | 1 => some (16, 0) | _ => none)
  | 17 => (match k with | 0 => some (18, 0) | 1 => some (19, 0) | 2 => some (20, 0) | 3 => some (21, 0) | _ => none)
  | 22 => (match k with | 0 => some (23, 0) | 1 => some (24, 0) | _ => none)
  | 25 => (match k with | 0 => some (26, 0) | 1 => some (28, 0) | 2 => some (29, 0) | 3 => some (30, 0) | _ => none)
  | 26 => some (27, k)
  | 31 => (match k with | 0 => some (1, 0) | 1 => some (32, 0) | 2 => some (33, 0) | _ => none)
  | 40 => (match k with | 0 => some (41, 0) | 4 => some (42, 0) | 5 => some (43, 0) | 7 => some (44, 0) | 14 => some (45, 0) | 15 => some (46, 0) | 16 => some (47, 0) | 18 => some (48, 0) | 19 => some (49, 0) | 21 => some (50, 0) | 22 => some (51, 0) | 23 => some (52, 0) | 26 => some (53, 0) | 27 => some (54, 0) | 28 => some (55, 0) | 29 => some (56, 0) | 30 => some (57, 0) | 31 => some (58, 0) | 32 => some (59, 0) | 33 => some (60, 0) | 34 => some (61, 0) | _ => none)
  | _ => none
def tg_all : List Nat := [0, 1, 2, 3, 4, 5, 6, 7, 8, 9, 10, 11, 12, 13, 14, 15, 16, 17, 18, 19, 20, 21, 22, 23, 24, 25, 26, 27, 28, 29, 30, 31, 32, 33, 40, 41, 42, 43, 44, 45, 46, 47, 48, 49, 50, 51, 52, 53, 54, 55, 56, 57, 58, 59, 60, 61]
def cs : List (Nat × Nat) := tg_all.flatMap fun t => (List.range (cnt t)).map fun i => (t, i)
def vt (t i : Nat) : Prop := t ∈ tg_all ∧ i < cnt t
theorem cs_mem {t i : Nat} (h : vt t i) : (t, i) ∈ cs := List.mem_flatMap.mpr ⟨t, h.1, List.mem_map.mpr ⟨i, List.mem_range.mpr h.2, rfl⟩⟩
def nfc (c : Nat) : Nat := ((vwCl[c]?).map fun q => q.2.2).getD 0
def cv (ad : Nat → Nat → Nat) : AV → Value
  | .inl a => .int (Int32.ofInt a)
  | .inr (.inl a) => .long (Int64.ofInt a)
  | .inr (.inr (some q)) => .ref (ad q.1 q.2)
  | .inr (.inr none) => .null
def I3 (a : Int) : Prop := -2147483648 ≤ a ∧ a < 2147483648
def I6 (a : Int) : Prop := -9223372036854775808 ≤ a ∧ a < 9223372036854775808
def rg : AV → Prop
  | .inl a => I3 a
  | .inr (.inl a) => I6 a
  | .inr (.inr (some q)) => vt q.1 q.2
  | .inr (.inr none) => True
def fv (ad : Nat → Nat → Nat) (t i k : Nat) (x : Int) : Value := match rf t i k with
  | some q => .ref (ad q.1 q.2)
  | none => .int (Int32.ofInt x)
def ce (G : GG) (t i : Nat) (g : Nat → Int) : va_E := match ko t with
  | some c => .inr (c, (List.range (nfc c)).map fun k => fv G.2.2 t i k (g k))
  | none => match ka t with
    | some an => if an.1 ≤ 1 then .inl (G.2.1 an.1, an.2, .inl fun k => Int32.ofInt (g k)) else .inl (G.2.1 an.1, an.2, .inr (.inr (.inr (.inr fun k => (rf t i k).map fun q => G.2.2 q.1 q.2))))
    | none => .inr (0, [])
def ws_ (G : GG) (h : HH) : va_W := cs.map fun q => (G.2.2 q.1 q.2, ce G q.1 q.2 (h q.1 q.2))
def HW (h : HH) : Prop := ∀ t i k, I3 (h t i k)
def put (h : HH) (t i k : Nat) (v : Int) : HH := fun t' i' k' => if t' = t ∧ i' = i ∧ k' = k then v else h t' i' k'
theorem put_wf {h : HH} {t i k : Nat} {v : Int} (hh : HW h) (hv : I3 v) : HW (put h t i k v) := by
  intro t' i' k'
  unfold put
  split
  · exact hv
  · exact hh t' i' k'
theorem ws_at {G : GG} {h : HH} {t i : Nat} (hv : vt t i) : ∃ k0 : Nat, cs[k0]? = some (t, i) ∧ (ws_ G h)[k0]? = some (G.2.2 t i, ce G t i (h t i)) := by
  obtain ⟨k0, hk⟩ := List.getElem?_of_mem (cs_mem hv)
  exact ⟨k0, hk, by simp [ws_, List.getElem?_map, hk]⟩
theorem ws_set {G : GG} {h h' : HH} {t i k0 : Nat} {A : Nat → Prop} (hD : va_D A (ws_ G h)) (hk : cs[k0]? = some (t, i)) (ho : ∀ t' i', ¬ (t' = t ∧ i' = i) → h' t' i' = h t' i') : (ws_ G h).set k0 (G.2.2 t i, ce G t i (h' t i)) = ws_ G h' := by
  apply List.ext_getElem?
  intro j
  rw [List.getElem?_set]
  by_cases hj : k0 = j
  · subst hj
    have hlt : k0 < (ws_ G h).length := by
      have := (List.getElem?_eq_some_iff.mp hk).1
      simpa [ws_] using this
    rw [if_pos rfl, if_pos hlt]
    simp [ws_, List.getElem?_map, hk]
  · rw [if_neg hj]
    cases hq : cs[j]? with
    | none => simp [ws_, List.getElem?_map, hq]
    | some q =>
      have hne : ¬ (q.1 = t ∧ q.2 = i) := by
        intro hh
        have e1 : (ws_ G h)[j]? = some (G.2.2 q.1 q.2, ce G q.1 q.2 (h q.1 q.2)) := by simp [ws_, List.getElem?_map, hq]
        have e2 : (ws_ G h)[k0]? = some (G.2.2 t i, ce G t i (h t i)) := by simp [ws_, List.getElem?_map, hk]
        exact hj (hD.1 k0 j _ _ e2 e1 (by rw [hh.1, hh.2]))
      simp [ws_, List.getElem?_map, hq, ho q.1 q.2 hne]
def tk (G : GG) : List (ClassId × FieldType) := [(G.2.1 0, .int), (G.2.1 1, .byte), (G.2.1 2, .object "PretzelProof$Tray"), (G.2.1 3, .object "PretzelProof$Rope"), (G.2.1 4, .array .int)]
def lw_gd : List Cond := lw_tbl.filter goodWord
theorem gd_good : GoodIn lw_gd lw_gd := fun w hw => ⟨hw, good_of_word (List.mem_filter.mp hw).2⟩
theorem gd_in {w : Cond} (h : w ∈ lw_tbl) (hg : goodWord w = true) : w ∈ lw_gd := List.mem_filter.mpr ⟨h, hg⟩
def WK (G : GG) (U : State) : Prop := va_K G.1 vwCl (tk G) U ∧ ∀ w ∈ nw_all, va_Nw w U
theorem WK.warm {G : GG} {s U : State} (hW : s.WarmedH U.vm) (h : WK G s) : WK G U := by
  refine ⟨va_K.moved hW.alike h.1, fun w hw => ?_⟩
  have h2 := h.2 w hw
  simp only [nw_all, List.mem_cons, List.not_mem_nil, or_false] at hw
  rcases hw with rfl | rfl | rfl | rfl | rfl | rfl | rfl | rfl | rfl | rfl | rfl <;> exact va_Nw.warmM hW h2
theorem WK.same {G : GG} {s U : State} (hW : s.vm = U.vm) (h : WK G s) : WK G U := by
  refine ⟨va_K.moved (by rw [hW]; exact Vm.Alike.refl U.vm) h.1, fun w hw => ?_⟩
  have h2 := h.2 w hw
  simp only [nw_all, List.mem_cons, List.not_mem_nil, or_false] at hw
  rcases hw with rfl | rfl | rfl | rfl | rfl | rfl | rfl | rfl | rfl | rfl | rfl <;> exact va_Nw.same rfl hW h2
def off_ : Instr → Option Int
  | .goto o => some o
  | .if_icmp _ o => some o
  | .ifCond _ o => some o
  | .ifnull o => some o
  | .ifnonnull o => some o
  | _ => none
def cst_ : Instr → Bool
  | .iconst n => decide (-2147483648 ≤ n) && decide (n < 2147483648)
  | .bipush n => decide ((Int8.ofInt n).toInt32 = Int32.ofInt n) && decide (-2147483648 ≤ n) && decide (n < 2147483648)
  | .sipush n => decide ((Int16.ofInt n).toInt32 = Int32.ofInt n) && decide (-2147483648 ≤ n) && decide (n < 2147483648)
  | _ => true
def ok1 (code : ByteArray) (e : EN) : Bool := decide (decode code e.1 = .ok (e.2.1, e.2.2.1)) && decide (e.2.2.2.1 = e.1 + e.2.2.1) && cst_ e.2.1 && (match off_ e.2.1 with | some o => decide ((e.1 : Int) + o = (e.2.2.2.2 : Int)) | none => true)
def okc (code : ByteArray) (T : List EN) : Bool := T.all (ok1 code)
def wq (M : MD) : List Cond := .code M.1 M.2.1 M.2.2.1 M.2.2.2.1 :: lw_gd
def rq (M : MD) : Room := { frames := M.2.2.2.2.1.1, cells := 0, slots := 0, locals := M.2.2.2.2.1.2 }
def tb (M : MD) : List EN := M.2.2.2.2.2
def QQ (G : GG) (P : Option AV → HH → Prop) (A : Nat → Prop) : Array Value → State → Outcome → State → Prop := fun _ st oc t => (∃ (r : Option AV) (h' : HH), oc = .returned (r.map (cv G.2.2)) ∧ P r h' ∧ (∀ v ∈ r, rg v) ∧ HW h' ∧ va_P G.1 vwCl (ws_ G h') t.heap ∧ WK G t ∧ va_D A (ws_ G h')) ∧ va_F A st t
def CX (M : MD) (G : GG) (A : Nat → Prop) (p : Program) (s : State) (m : MethodId) (args : Array Value) (meth : Method) (c : Code) : Prop := p.tables.exec = Jvm.exec ∧ c.code = M.2.1 ∧ meth.sig.returnType = M.2.2.2.1 ∧ c.maxLocals = M.2.2.1 ∧ s.vm.findClass M.1.cls = some m.cls ∧ (∀ w ∈ wq M, w.before args s = true) ∧ meth.locks = false ∧ WK G s ∧ okc M.2.1 (tb M) = true ∧ (∀ q, s.heap.size ≤ q → A q)
abbrev LV : Type := List (Nat × AV)
def lvc (ad : Nat → Nat → Nat) (lv : LV) : List (Nat × Value) := lv.map fun q => (q.1, cv ad q.2)
/-- from here the method comes to its end with P -/
def AW (M : MD) (P : Option AV → HH → Prop) (pc : Nat) (lv : LV) (st : List AV) (h : HH) : Prop :=
  ∀ (l : Launch) (p : Program) (e : Env) (s : State) (m : MethodId) (args : Array Value) (below : List Frame) (meth : Method) (c : Code) (G : GG) (A : Nat → Prop), CX M G A p s m args meth c → (∀ q ∈ lv, rg q.2) → (∀ v ∈ st, rg v) → HW h → ∀ (H : Heap) (locs : List Loc) (ls : Array Slot), va_P G.1 vwCl (ws_ G h) H → va_D A (ws_ G h) → va_S A s.heap H locs → lv_has ls M.2.2.1 (lvc G.2.2 lv) →
    W p l e (rq M) s m args below meth c H locs 0 0 (MQ below (QQ G P A) args s 0 0 A) (F0 m pc ls (st.map (cv G.2.2)))
/-- a method's contract -/
def Sp (M : MD) (av : List AV) (h : HH) (P : Option AV → HH → Prop) : Prop :=
  (∀ v ∈ av, rg v) → HW h → ∀ (l : Launch) (G : GG) (sz : Nat), Met l M.1 (wq M) (rq M) (va_Pc (av.map (cv G.2.2)) (fun U => U.heap.size = sz ∧ WK G U ∧ va_P G.1 vwCl (ws_ G h) U.heap ∧ va_D (fun _ => True) (ws_ G h))) (QQ G P (va_A (ws_ G h) sz)) 0 0 (va_A (ws_ G h) sz)
theorem ok_at {code : ByteArray} {T : List EN} {k pc n np tg : Nat} {i : Instr} (h : okc code T = true) (hk : T[k]? = some (pc, i, n, np, tg)) : decode code pc = .ok (i, n) ∧ np = pc + n ∧ cst_ i = true ∧ (∀ o, off_ i = some o → (pc : Int) + o = (tg : Int)) := by
  have h1 := List.all_eq_true.mp h _ (List.mem_of_getElem? hk)
  simp only [ok1, Bool.and_eq_true, decide_eq_true_eq] at h1
  obtain ⟨⟨⟨h2, h3⟩, h4⟩, h5⟩ := h1
  refine ⟨h2, h3, h4, fun o ho => ?_⟩
  rw [ho] at h5
  simpa using h5
def la : Nat → List AV → LV
  | _, [] => []
  | i, v :: vs => (i, v) :: la (match v with | .inr (.inl _) => i + 2 | _ => i + 1) vs
def aw_ : List AV → Nat
  | [] => 0
  | v :: vs => (match v with | .inr (.inl _) => 2 | _ => 1) + aw_ vs
theorem la_cv (ad : Nat → Nat → Nat) : ∀ (vs : List AV) (i : Nat), lv_args i (vs.map (cv ad)) = lvc ad (la i vs)
  | [], i => rfl
  | .inl a :: vs, i => by
    show (i, _) :: lv_args (i + 1) (vs.map (cv ad)) = (i, _) :: lvc ad (la (i + 1) vs)
    rw [la_cv ad vs (i + 1)]
  | .inr (.inl a) :: vs, i => by
    show (i, _) :: lv_args (i + 2) (vs.map (cv ad)) = (i, _) :: lvc ad (la (i + 2) vs)
    rw [la_cv ad vs (i + 2)]
  | .inr (.inr (some q)) :: vs, i => by
    show (i, _) :: lv_args (i + 1) (vs.map (cv ad)) = (i, _) :: lvc ad (la (i + 1) vs)
    rw [la_cv ad vs (i + 1)]
  | .inr (.inr none) :: vs, i => by
    show (i, _) :: lv_args (i + 1) (vs.map (cv ad)) = (i, _) :: lvc ad (la (i + 1) vs)
    rw [la_cv ad vs (i + 1)]
theorem aw_len (ad : Nat → Nat → Nat) : ∀ vs : List AV, (lg_sl (vs.map (cv ad))).length = aw_ vs
  | [] => rfl
  | .inl a :: vs => by
    show ([Slot.val _] ++ lg_sl (vs.map (cv ad))).length = 1 + aw_ vs
    rw [List.length_append, aw_len ad vs]; rfl
  | .inr (.inl a) :: vs => by
    show ([Slot.val _, .second] ++ lg_sl (vs.map (cv ad))).length = 2 + aw_ vs
    rw [List.length_append, aw_len ad vs]; rfl
  | .inr (.inr (some q)) :: vs => by
    show ([Slot.val _] ++ lg_sl (vs.map (cv ad))).length = 1 + aw_ vs
    rw [List.length_append, aw_len ad vs]; rfl
  | .inr (.inr none) :: vs => by
    show ([Slot.val _] ++ lg_sl (vs.map (cv ad))).length = 1 + aw_ vs
    rw [List.length_append, aw_len ad vs]; rfl
theorem la_rg : ∀ (vs : List AV) (i : Nat), (∀ v ∈ vs, rg v) → ∀ q ∈ la i vs, rg q.2
  | [], i, _, q, hq => by cases hq
  | v :: vs, i, h, q, hq => by
    rcases List.mem_cons.mp hq with rfl | hq
    · exact h v List.mem_cons_self
    · exact la_rg vs _ (fun w hw => h w (List.mem_cons_of_mem _ hw)) q hq
theorem Sp.of {M : MD} {av : List AV} {h : HH} {P : Option AV → HH → Prop} (hy : plainName M.1.cls = true) (hok : okc M.2.1 (tb M) = true) (hn : aw_ av ≤ M.2.2.1) (kk : AW M P 0 (la 0 av) [] h) : Sp M av h P := by
  intro hr hw l G sz
  refine Met.ofW (cc := M.2.1) (maxL := M.2.2.1) (ret := M.2.2.2.1) hy rfl ?_
  intro p e s m args below meth c s₁ B hml hv
  obtain ⟨rfl, hsz, hK, hP, hD0⟩ := hv
  subst hsz
  have hts := atoms_spec (ws := wq M) B.pre
  have hown : s.vm.findClass M.1.cls = some m.cls := findClass_of_methodNamed B.named
  have hl := lv_entry (av.map (cv G.2.2)) (n := M.2.2.1) (by rw [aw_len]; exact hn)
  rw [lg_entry_eq]
  generalize (lg_sl (av.map (cv G.2.2)) ++ List.replicate (M.2.2.1 - (lg_sl (av.map (cv G.2.2))).length) Slot.unset).toArray = ls at hl ⊢
  rw [la_cv] at hl
  exact kk l p e s m _ below meth c G (va_A (ws_ G h) s.heap.size) ⟨B.exec, B.bytes, B.returns, hml, hown, hts, B.notSynchronized, hK, hok, fun q hq => Or.inr hq⟩ (la_rg av 0 hr) (fun v hv => by cases hv) hw s.heap [] ls hP hD0.self va_S.rf hl
end
section
theorem fb_rng_ (x : Int32) : -2147483648 ≤ x.toInt ∧ x.toInt < 2147483648 := by
  have h1 := Int32.le_toInt x
  have h2 := Int32.toInt_lt x
  omega
theorem fb_rngL_ (x : Int64) : -9223372036854775808 ≤ x.toInt ∧ x.toInt < 9223372036854775808 := by
  have h1 := Int64.le_toInt x
  have h2 := Int64.toInt_lt x
  omega
theorem fb_ofI_ {z : Int} (h1 : -2147483648 ≤ z) (h2 : z < 2147483648) : (Int32.ofInt z).toInt = z := by
  have e : z.bmod (2 ^ 32) = z := by rw [Int.bmod_eq_of_le (by omega) (by omega)]
  rw [Int32.toInt_ofInt]
  exact e
theorem fb_ofL_ {z : Int} (h1 : -9223372036854775808 ≤ z) (h2 : z < 9223372036854775808) : (Int64.ofInt z).toInt = z := by
  have e : z.bmod (2 ^ 64) = z := by rw [Int.bmod_eq_of_le (by omega) (by omega)]
  rw [Int64.toInt_ofInt]
  exact e
/-! numbers -/
def w3 (x : Int) : Int := (Int32.ofInt x).toInt
def w6 (x : Int) : Int := (Int64.ofInt x).toInt
theorem w3_of (x : Int) : Int32.ofInt (w3 x) = Int32.ofInt x := Int32.ofInt_toInt _
theorem w6_of (x : Int) : Int64.ofInt (w6 x) = Int64.ofInt x := Int64.ofInt_toInt _
theorem i3_of (z : Int32) : I3 z.toInt := fb_rng_ z
theorem i6_of (z : Int64) : I6 z.toInt := fb_rngL_ z
theorem i3_w (x : Int) : I3 (w3 x) := i3_of _
theorem i6_w (x : Int) : I6 (w6 x) := i6_of _
theorem to3 {a : Int} (h : I3 a) : (Int32.ofInt a).toInt = a := fb_ofI_ h.1 h.2
theorem to6 {a : Int} (h : I6 a) : (Int64.ofInt a).toInt = a := fb_ofL_ h.1 h.2
def ia (a b : Int) : Int := w3 (a + b)
def ib (a b : Int) : Int := w3 (a - b)
def im (a b : Int) : Int := w3 (a * b)
def iq (a b : Int) : Int := w3 (a.tdiv b)
def ir (a b : Int) : Int := w3 (a.tmod b)
def in_ (a : Int) : Int := w3 (-a)
def iand (a b : Int) : Int := (Int32.ofInt a &&& Int32.ofInt b).toInt
def ior (a b : Int) : Int := (Int32.ofInt a ||| Int32.ofInt b).toInt
def ixor (a b : Int) : Int := (Int32.ofInt a ^^^ Int32.ofInt b).toInt
def ishl (a b : Int) : Int := (Int32.ofInt a <<< (Int32.ofInt b &&& 31)).toInt
def ishr (a b : Int) : Int := (Int32.ofInt a >>> (Int32.ofInt b &&& 31)).toInt
def iushr (a b : Int) : Int := ((Int32.ofInt a).toUInt32 >>> ((Int32.ofInt b).toUInt32 &&& Int32.toUInt32 31)).toInt32.toInt
def la_ (a b : Int) : Int := w6 (a + b)
def lm (a b : Int) : Int := w6 (a * b)
def lq (a b : Int) : Int := w6 (a.tdiv b)
def lr (a b : Int) : Int := w6 (a.tmod b)
def land_ (a b : Int) : Int := (Int64.ofInt a &&& Int64.ofInt b).toInt
def sb (a : Int) : Int := (Int32.ofInt a).toInt8.toInt32.toInt
theorem cv_ia (a b : Int) : Int32.ofInt (ia a b) = Int32.ofInt a + Int32.ofInt b := by rw [ia, w3_of, Int32.ofInt_add]
theorem cv_ib (a b : Int) : Int32.ofInt (ib a b) = Int32.ofInt a - Int32.ofInt b := by rw [ib, w3_of, Int32.ofInt_sub]
theorem cv_im (a b : Int) : Int32.ofInt (im a b) = Int32.ofInt a * Int32.ofInt b := by rw [im, w3_of, Int32.ofInt_mul]
theorem cv_in (a : Int) : Int32.ofInt (in_ a) = -Int32.ofInt a := by rw [in_, w3_of, Int32.ofInt_neg]
theorem cv_iq {a b : Int} (ha : I3 a) (hb : I3 b) : Int32.ofInt (iq a b) = Int32.ofInt a / Int32.ofInt b := by
  rw [iq, w3_of]
  apply Int32.toInt_inj.mp
  rw [Int32.toInt_div, to3 ha, to3 hb, Int32.toInt_ofInt]
theorem cv_ir {a b : Int} (ha : I3 a) (hb : I3 b) : Int32.ofInt (ir a b) = Int32.ofInt a - Int32.ofInt a / Int32.ofInt b * Int32.ofInt b := by
  rw [← cv_iq ha hb, iq, ir, w3_of, w3_of, ← Int32.ofInt_mul, ← Int32.ofInt_sub]
  congr 1
  have := Int.mul_tdiv_add_tmod a b
  rw [Int.mul_comm] at this
  omega
theorem cv_la (a b : Int) : Int64.ofInt (la_ a b) = Int64.ofInt a + Int64.ofInt b := by rw [la_, w6_of, Int64.ofInt_add]
theorem cv_lm (a b : Int) : Int64.ofInt (lm a b) = Int64.ofInt a * Int64.ofInt b := by rw [lm, w6_of, Int64.ofInt_mul]
theorem cv_lq {a b : Int} (ha : I6 a) (hb : I6 b) : Int64.ofInt (lq a b) = Int64.ofInt a / Int64.ofInt b := by
  rw [lq, w6_of]
  apply Int64.toInt_inj.mp
  rw [Int64.toInt_div, to6 ha, to6 hb, Int64.toInt_ofInt]
theorem cv_lr {a b : Int} (ha : I6 a) (hb : I6 b) : Int64.ofInt (lr a b) = Int64.ofInt a - Int64.ofInt a / Int64.ofInt b * Int64.ofInt b := by
  rw [← cv_lq ha hb, lq, lr, w6_of, w6_of, ← Int64.ofInt_mul, ← Int64.ofInt_sub]
  congr 1
  have := Int.mul_tdiv_add_tmod a b
  rw [Int.mul_comm] at this
  omega
theorem cv_iand (a b : Int) : Int32.ofInt (iand a b) = Int32.ofInt a &&& Int32.ofInt b := Int32.ofInt_toInt _
theorem cv_ior (a b : Int) : Int32.ofInt (ior a b) = Int32.ofInt a ||| Int32.ofInt b := Int32.ofInt_toInt _
theorem cv_ixor (a b : Int) : Int32.ofInt (ixor a b) = Int32.ofInt a ^^^ Int32.ofInt b := Int32.ofInt_toInt _
theorem cv_ishl (a b : Int) : Int32.ofInt (ishl a b) = Int32.ofInt a <<< (Int32.ofInt b &&& 31) := Int32.ofInt_toInt _
theorem cv_ishr (a b : Int) : Int32.ofInt (ishr a b) = Int32.ofInt a >>> (Int32.ofInt b &&& 31) := Int32.ofInt_toInt _
theorem cv_iushr (a b : Int) : Int32.ofInt (iushr a b) = ((Int32.ofInt a).toUInt32 >>> ((Int32.ofInt b).toUInt32 &&& Int32.toUInt32 31)).toInt32 := Int32.ofInt_toInt _
theorem cv_land (a b : Int) : Int64.ofInt (land_ a b) = Int64.ofInt a &&& Int64.ofInt b := Int64.ofInt_toInt _
theorem cv_sb (a : Int) : Int32.ofInt (sb a) = (Int32.ofInt a).toInt8.toInt32 := Int32.ofInt_toInt _
theorem c3_lt {a b : Int} (ha : I3 a) (hb : I3 b) : Int32.ofInt a < Int32.ofInt b ↔ a < b := by rw [Int32.lt_iff_toInt_lt, to3 ha, to3 hb]
theorem c3_le {a b : Int} (ha : I3 a) (hb : I3 b) : Int32.ofInt a ≤ Int32.ofInt b ↔ a ≤ b := by rw [Int32.le_iff_toInt_le, to3 ha, to3 hb]
theorem c3_eq {a b : Int} (ha : I3 a) (hb : I3 b) : Int32.ofInt a = Int32.ofInt b ↔ a = b := by rw [← Int32.toInt_inj, to3 ha, to3 hb]
theorem c6_lt {a b : Int} (ha : I6 a) (hb : I6 b) : Int64.ofInt a < Int64.ofInt b ↔ a < b := by rw [Int64.lt_iff_toInt_lt, to6 ha, to6 hb]
theorem c6_eq {a b : Int} (ha : I6 a) (hb : I6 b) : Int64.ofInt a = Int64.ofInt b ↔ a = b := by rw [← Int64.toInt_inj, to6 ha, to6 hb]
theorem c0_3 : I3 0 := by unfold I3; omega
theorem ofI0 : Int32.ofInt 0 = 0 := rfl
theorem clamp3 {a : Int} (h : I3 a) : (Int32.ofInt a).toNatClampNeg = a.toNat := by rw [Int32.toNatClampNeg, to3 h]
theorem in_of {a : Int} {n : Nat} (h : I3 a) (h0 : 0 ≤ a) (h1 : a < n) : vp_in (Int32.ofInt a) n := vp_in_iff.mpr (by rw [to3 h]; exact ⟨h0, h1⟩)
theorem rg_c {st : List AV} {v : AV} (h : ∀ w ∈ v :: st, rg w) : rg v ∧ ∀ w ∈ st, rg w := ⟨h v List.mem_cons_self, fun w hw => h w (List.mem_cons_of_mem _ hw)⟩
theorem rg_k {st : List AV} {v : AV} (hv : rg v) (h : ∀ w ∈ st, rg w) : ∀ w ∈ v :: st, rg w := fun w hw => by
  rcases List.mem_cons.mp hw with rfl | hw
  · exact hv
  · exact h w hw
section AWR
variable {M : MD} {P : Option AV → HH → Prop} {lv : LV} {st : List AV} {h : HH} {k pc np tg : Nat}

theorem a_iadd {a b : Int} (hd : (tb M)[k]? = some (pc, .iadd, 1, np, tg)) (kk : AW M P np lv (vi (ia a b) :: st) h) : AW M P pc lv (vi b :: vi a :: st) h := by
  intro l p e s m args below meth c G A C hl hs hw H locs ls hP hD hS hv
  obtain ⟨d1, rfl, d3, d4⟩ := ok_at C.2.2.2.2.2.2.2.2.1 hd
  obtain ⟨r1, hs⟩ := rg_c hs
  obtain ⟨r2, hs⟩ := rg_c hs
  refine lv_iadd C.1 C.2.1 d1 ?_
  have z := kk l p e s m args below meth c G A C hl (rg_k (i3_of _) hs) hw H locs ls hP hD hS hv
  rw [← cv_ia a b]
  exact z

theorem a_isub {a b : Int} (hd : (tb M)[k]? = some (pc, .isub, 1, np, tg)) (kk : AW M P np lv (vi (ib a b) :: st) h) : AW M P pc lv (vi b :: vi a :: st) h := by
  intro l p e s m args below meth c G A C hl hs hw H locs ls hP hD hS hv
  obtain ⟨d1, rfl, d3, d4⟩ := ok_at C.2.2.2.2.2.2.2.2.1 hd
  obtain ⟨r1, hs⟩ := rg_c hs
  obtain ⟨r2, hs⟩ := rg_c hs
  refine lv_isub C.1 C.2.1 d1 ?_
  have z := kk l p e s m args below meth c G A C hl (rg_k (i3_of _) hs) hw H locs ls hP hD hS hv
  rw [← cv_ib a b]
  exact z

theorem a_imul {a b : Int} (hd : (tb M)[k]? = some (pc, .imul, 1, np, tg)) (kk : AW M P np lv (vi (im a b) :: st) h) : AW M P pc lv (vi b :: vi a :: st) h := by
  intro l p e s m args below meth c G A C hl hs hw H locs ls hP hD hS hv
  obtain ⟨d1, rfl, d3, d4⟩ := ok_at C.2.2.2.2.2.2.2.2.1 hd
  obtain ⟨r1, hs⟩ := rg_c hs
  obtain ⟨r2, hs⟩ := rg_c hs
  refine lv_imul C.1 C.2.1 d1 ?_
  have z := kk l p e s m args below meth c G A C hl (rg_k (i3_of _) hs) hw H locs ls hP hD hS hv
  rw [← cv_im a b]
  exact z

theorem a_iand {a b : Int} (hd : (tb M)[k]? = some (pc, .iand, 1, np, tg)) (kk : AW M P np lv (vi (iand a b) :: st) h) : AW M P pc lv (vi b :: vi a :: st) h := by
  intro l p e s m args below meth c G A C hl hs hw H locs ls hP hD hS hv
  obtain ⟨d1, rfl, d3, d4⟩ := ok_at C.2.2.2.2.2.2.2.2.1 hd
  obtain ⟨r1, hs⟩ := rg_c hs
  obtain ⟨r2, hs⟩ := rg_c hs
  refine lv_iand C.1 C.2.1 d1 ?_
  have z := kk l p e s m args below meth c G A C hl (rg_k (i3_of _) hs) hw H locs ls hP hD hS hv
  rw [← cv_iand a b]
  exact z

theorem a_ior {a b : Int} (hd : (tb M)[k]? = some (pc, .ior, 1, np, tg)) (kk : AW M P np lv (vi (ior a b) :: st) h) : AW M P pc lv (vi b :: vi a :: st) h := by
  intro l p e s m args below meth c G A C hl hs hw H locs ls hP hD hS hv
  obtain ⟨d1, rfl, d3, d4⟩ := ok_at C.2.2.2.2.2.2.2.2.1 hd
  obtain ⟨r1, hs⟩ := rg_c hs
  obtain ⟨r2, hs⟩ := rg_c hs
  refine lv_ior C.1 C.2.1 d1 ?_
  have z := kk l p e s m args below meth c G A C hl (rg_k (i3_of _) hs) hw H locs ls hP hD hS hv
  rw [← cv_ior a b]
  exact z

theorem a_ixor {a b : Int} (hd : (tb M)[k]? = some (pc, .ixor, 1, np, tg)) (kk : AW M P np lv (vi (ixor a b) :: st) h) : AW M P pc lv (vi b :: vi a :: st) h := by
  intro l p e s m args below meth c G A C hl hs hw H locs ls hP hD hS hv
  obtain ⟨d1, rfl, d3, d4⟩ := ok_at C.2.2.2.2.2.2.2.2.1 hd
  obtain ⟨r1, hs⟩ := rg_c hs
  obtain ⟨r2, hs⟩ := rg_c hs
  refine lv_ixor C.1 C.2.1 d1 ?_
  have z := kk l p e s m args below meth c G A C hl (rg_k (i3_of _) hs) hw H locs ls hP hD hS hv
  rw [← cv_ixor a b]
  exact z

theorem a_ishl {a b : Int} (hd : (tb M)[k]? = some (pc, .ishl, 1, np, tg)) (kk : AW M P np lv (vi (ishl a b) :: st) h) : AW M P pc lv (vi b :: vi a :: st) h := by
  intro l p e s m args below meth c G A C hl hs hw H locs ls hP hD hS hv
  obtain ⟨d1, rfl, d3, d4⟩ := ok_at C.2.2.2.2.2.2.2.2.1 hd
  obtain ⟨r1, hs⟩ := rg_c hs
  obtain ⟨r2, hs⟩ := rg_c hs
  refine lv_ishl C.1 C.2.1 d1 ?_
  have z := kk l p e s m args below meth c G A C hl (rg_k (i3_of _) hs) hw H locs ls hP hD hS hv
  rw [← cv_ishl a b]
  exact z

theorem a_ishr {a b : Int} (hd : (tb M)[k]? = some (pc, .ishr, 1, np, tg)) (kk : AW M P np lv (vi (ishr a b) :: st) h) : AW M P pc lv (vi b :: vi a :: st) h := by
  intro l p e s m args below meth c G A C hl hs hw H locs ls hP hD hS hv
  obtain ⟨d1, rfl, d3, d4⟩ := ok_at C.2.2.2.2.2.2.2.2.1 hd
  obtain ⟨r1, hs⟩ := rg_c hs
  obtain ⟨r2, hs⟩ := rg_c hs
  refine lv_ishr C.1 C.2.1 d1 ?_
  have z := kk l p e s m args below meth c G A C hl (rg_k (i3_of _) hs) hw H locs ls hP hD hS hv
  rw [← cv_ishr a b]
  exact z

theorem a_idiv {a b : Int} (hd : (tb M)[k]? = some (pc, .idiv, 1, np, tg)) (h0 : ¬ b = 0) (kk : AW M P np lv (vi (iq a b) :: st) h) : AW M P pc lv (vi b :: vi a :: st) h := by
  intro l p e s m args below meth c G A C hl hs hw H locs ls hP hD hS hv
  obtain ⟨d1, rfl, d3, d4⟩ := ok_at C.2.2.2.2.2.2.2.2.1 hd
  obtain ⟨r1, hs⟩ := rg_c hs
  obtain ⟨r2, hs⟩ := rg_c hs
  refine lv_idiv C.1 C.2.1 d1 (fun q => h0 ((c3_eq r1 c0_3).mp q)) ?_
  have z := kk l p e s m args below meth c G A C hl (rg_k (i3_of _) hs) hw H locs ls hP hD hS hv
  rw [← cv_iq r2 r1]
  exact z

theorem a_irem {a b : Int} (hd : (tb M)[k]? = some (pc, .irem, 1, np, tg)) (h0 : ¬ b = 0) (kk : AW M P np lv (vi (ir a b) :: st) h) : AW M P pc lv (vi b :: vi a :: st) h := by
  intro l p e s m args below meth c G A C hl hs hw H locs ls hP hD hS hv
  obtain ⟨d1, rfl, d3, d4⟩ := ok_at C.2.2.2.2.2.2.2.2.1 hd
  obtain ⟨r1, hs⟩ := rg_c hs
  obtain ⟨r2, hs⟩ := rg_c hs
  refine lv_irem C.1 C.2.1 d1 (fun q => h0 ((c3_eq r1 c0_3).mp q)) ?_
  have z := kk l p e s m args below meth c G A C hl (rg_k (i3_of _) hs) hw H locs ls hP hD hS hv
  rw [← cv_ir r2 r1]
  exact z

theorem a_ladd {a b : Int} (hd : (tb M)[k]? = some (pc, .ladd, 1, np, tg)) (kk : AW M P np lv (vl (la_ a b) :: st) h) : AW M P pc lv (vl b :: vl a :: st) h := by
  intro l p e s m args below meth c G A C hl hs hw H locs ls hP hD hS hv
  obtain ⟨d1, rfl, d3, d4⟩ := ok_at C.2.2.2.2.2.2.2.2.1 hd
  obtain ⟨r1, hs⟩ := rg_c hs
  obtain ⟨r2, hs⟩ := rg_c hs
  refine lv_ladd C.1 C.2.1 d1 ?_
  have z := kk l p e s m args below meth c G A C hl (rg_k (i6_of _) hs) hw H locs ls hP hD hS hv
  rw [← cv_la a b]
  exact z

theorem a_lmul {a b : Int} (hd : (tb M)[k]? = some (pc, .lmul, 1, np, tg)) (kk : AW M P np lv (vl (lm a b) :: st) h) : AW M P pc lv (vl b :: vl a :: st) h := by
  intro l p e s m args below meth c G A C hl hs hw H locs ls hP hD hS hv
  obtain ⟨d1, rfl, d3, d4⟩ := ok_at C.2.2.2.2.2.2.2.2.1 hd
  obtain ⟨r1, hs⟩ := rg_c hs
  obtain ⟨r2, hs⟩ := rg_c hs
  refine lv_lmul C.1 C.2.1 d1 ?_
  have z := kk l p e s m args below meth c G A C hl (rg_k (i6_of _) hs) hw H locs ls hP hD hS hv
  rw [← cv_lm a b]
  exact z

theorem a_land {a b : Int} (hd : (tb M)[k]? = some (pc, .land, 1, np, tg)) (kk : AW M P np lv (vl (land_ a b) :: st) h) : AW M P pc lv (vl b :: vl a :: st) h := by
  intro l p e s m args below meth c G A C hl hs hw H locs ls hP hD hS hv
  obtain ⟨d1, rfl, d3, d4⟩ := ok_at C.2.2.2.2.2.2.2.2.1 hd
  obtain ⟨r1, hs⟩ := rg_c hs
  obtain ⟨r2, hs⟩ := rg_c hs
  refine lv_land C.1 C.2.1 d1 ?_
  have z := kk l p e s m args below meth c G A C hl (rg_k (i6_of _) hs) hw H locs ls hP hD hS hv
  rw [← cv_land a b]
  exact z

theorem a_ldiv {a b : Int} (hd : (tb M)[k]? = some (pc, .ldiv, 1, np, tg)) (h0 : ¬ b = 0) (kk : AW M P np lv (vl (lq a b) :: st) h) : AW M P pc lv (vl b :: vl a :: st) h := by
  intro l p e s m args below meth c G A C hl hs hw H locs ls hP hD hS hv
  obtain ⟨d1, rfl, d3, d4⟩ := ok_at C.2.2.2.2.2.2.2.2.1 hd
  obtain ⟨r1, hs⟩ := rg_c hs
  obtain ⟨r2, hs⟩ := rg_c hs
  refine lv_ldiv C.1 C.2.1 d1 (fun q => h0 ((c6_eq r1 (by unfold I6; omega)).mp q)) ?_
  have z := kk l p e s m args below meth c G A C hl (rg_k (i6_of _) hs) hw H locs ls hP hD hS hv
  rw [← cv_lq r2 r1]
  exact z

theorem a_lrem {a b : Int} (hd : (tb M)[k]? = some (pc, .lrem, 1, np, tg)) (h0 : ¬ b = 0) (kk : AW M P np lv (vl (lr a b) :: st) h) : AW M P pc lv (vl b :: vl a :: st) h := by
  intro l p e s m args below meth c G A C hl hs hw H locs ls hP hD hS hv
  obtain ⟨d1, rfl, d3, d4⟩ := ok_at C.2.2.2.2.2.2.2.2.1 hd
  obtain ⟨r1, hs⟩ := rg_c hs
  obtain ⟨r2, hs⟩ := rg_c hs
  refine lv_lrem C.1 C.2.1 d1 (fun q => h0 ((c6_eq r1 (by unfold I6; omega)).mp q)) ?_
  have z := kk l p e s m args below meth c G A C hl (rg_k (i6_of _) hs) hw H locs ls hP hD hS hv
  rw [← cv_lr r2 r1]
  exact z

theorem a_ineg {a : Int} (hd : (tb M)[k]? = some (pc, .ineg, 1, np, tg)) (kk : AW M P np lv (vi (in_ a) :: st) h) : AW M P pc lv (vi a :: st) h := by
  intro l p e s m args below meth c G A C hl hs hw H locs ls hP hD hS hv
  obtain ⟨d1, rfl, d3, d4⟩ := ok_at C.2.2.2.2.2.2.2.2.1 hd
  obtain ⟨r1, hs⟩ := rg_c hs
  refine lv_ineg C.1 C.2.1 d1 ?_
  have z := kk l p e s m args below meth c G A C hl (rg_k (i3_of _) hs) hw H locs ls hP hD hS hv
  rw [← cv_in a]
  exact z
theorem a_iushr {a b : Int} (hd : (tb M)[k]? = some (pc, .iushr, 1, np, tg)) (kk : AW M P np lv (vi (iushr a b) :: st) h) : AW M P pc lv (vi b :: vi a :: st) h := by
  intro l p e s m args below meth c G A C hl hs hw H locs ls hP hD hS hv
  obtain ⟨d1, rfl, d3, d4⟩ := ok_at C.2.2.2.2.2.2.2.2.1 hd
  obtain ⟨r1, hs⟩ := rg_c hs
  obtain ⟨r2, hs⟩ := rg_c hs
  refine lv_iushr C.1 C.2.1 d1 (cv_iushr a b).symm ?_
  exact kk l p e s m args below meth c G A C hl (rg_k (i3_of _) hs) hw H locs ls hP hD hS hv
theorem a_i2l {a : Int} (hd : (tb M)[k]? = some (pc, .i2l, 1, np, tg)) (kk : AW M P np lv (vl a :: st) h) : AW M P pc lv (vi a :: st) h := by
  intro l p e s m args below meth c G A C hl hs hw H locs ls hP hD hS hv
  obtain ⟨d1, rfl, d3, d4⟩ := ok_at C.2.2.2.2.2.2.2.2.1 hd
  obtain ⟨r1, hs⟩ := rg_c hs
  have r1 : I3 a := r1
  refine lv_i2l C.1 C.2.1 d1 (v := Int64.ofInt a) ?_ ?_
  · apply Int64.toInt_inj.mp
    rw [Int32.toInt_toInt64, to3 r1, to6 (by unfold I3 at r1; unfold I6; omega)]
  exact kk l p e s m args below meth c G A C hl (rg_k (by unfold I3 at r1; show I6 a; unfold I6; omega) hs) hw H locs ls hP hD hS hv
theorem a_l2i {a : Int} (hd : (tb M)[k]? = some (pc, .l2i, 1, np, tg)) (kk : AW M P np lv (vi (w3 a) :: st) h) : AW M P pc lv (vl a :: st) h := by
  intro l p e s m args below meth c G A C hl hs hw H locs ls hP hD hS hv
  obtain ⟨d1, rfl, d3, d4⟩ := ok_at C.2.2.2.2.2.2.2.2.1 hd
  obtain ⟨r1, hs⟩ := rg_c hs
  have r1 : I6 a := r1
  refine lv_l2i C.1 C.2.1 d1 (v := Int32.ofInt (w3 a)) ?_ ?_
  · rw [w3_of]
    apply Int32.toInt_inj.mp
    rw [Int64.toInt_toInt32, to6 r1, Int32.toInt_ofInt]
  exact kk l p e s m args below meth c G A C hl (rg_k (i3_of _) hs) hw H locs ls hP hD hS hv
theorem a_i2b {a : Int} (hd : (tb M)[k]? = some (pc, .i2b, 1, np, tg)) (kk : AW M P np lv (vi (sb a) :: st) h) : AW M P pc lv (vi a :: st) h := by
  intro l p e s m args below meth c G A C hl hs hw H locs ls hP hD hS hv
  obtain ⟨d1, rfl, d3, d4⟩ := ok_at C.2.2.2.2.2.2.2.2.1 hd
  obtain ⟨r1, hs⟩ := rg_c hs
  refine lv_i2b C.1 C.2.1 d1 (cv_sb a).symm ?_
  exact kk l p e s m args below meth c G A C hl (rg_k (i3_of _) hs) hw H locs ls hP hD hS hv
theorem a_lcmp {a b : Int} (hd : (tb M)[k]? = some (pc, .lcmp, 1, np, tg)) (k1 : b < a → AW M P np lv (vi 1 :: st) h) (k2 : a = b → AW M P np lv (vi 0 :: st) h) (k3 : a < b → AW M P np lv (vi (-1) :: st) h) : AW M P pc lv (vl b :: vl a :: st) h := by
  intro l p e s m args below meth c G A C hl hs hw H locs ls hP hD hS hv
  obtain ⟨d1, rfl, d3, d4⟩ := ok_at C.2.2.2.2.2.2.2.2.1 hd
  obtain ⟨r1, hs⟩ := rg_c hs
  obtain ⟨r2, hs⟩ := rg_c hs
  refine W.lcmp C.1 C.2.1 d1 ?_
  have e1 : Int64.ofInt b < Int64.ofInt a ↔ b < a := c6_lt r1 r2
  have e2 : Int64.ofInt a = Int64.ofInt b ↔ a = b := c6_eq r2 r1
  by_cases q1 : b < a
  · have z := k1 q1 l p e s m args below meth c G A C hl (rg_k (show I3 1 by unfold I3; omega) hs) hw H locs ls hP hD hS hv
    have : lg_cmp (Int64.ofInt a) (Int64.ofInt b) = 1 := by simp [lg_cmp, e1, q1]
    rw [this]; exact z
  · by_cases q2 : a = b
    · have z := k2 q2 l p e s m args below meth c G A C hl (rg_k (show I3 0 by unfold I3; omega) hs) hw H locs ls hP hD hS hv
      have : lg_cmp (Int64.ofInt a) (Int64.ofInt b) = 0 := by simp [lg_cmp, e1, q1, e2, q2]
      rw [this]; exact z
    · have z := k3 (by omega) l p e s m args below meth c G A C hl (rg_k (show I3 (-1) by unfold I3; omega) hs) hw H locs ls hP hD hS hv
      have : lg_cmp (Int64.ofInt a) (Int64.ofInt b) = -1 := by simp [lg_cmp, e1, q1, e2, q2]
      rw [this]; exact z

theorem a_iconst {v : Int} (hd : (tb M)[k]? = some (pc, .iconst v, 1, np, tg)) (kk : AW M P np lv (vi v :: st) h) : AW M P pc lv st h := by
  intro l p e s m args below meth c G A C hl hs hw H locs ls hP hD hS hv
  obtain ⟨d1, rfl, d3, d4⟩ := ok_at C.2.2.2.2.2.2.2.2.1 hd
  simp only [cst_, Bool.and_eq_true, decide_eq_true_eq] at d3
  refine lv_iconst C.1 C.2.1 d1 rfl ?_
  exact kk l p e s m args below meth c G A C hl (rg_k ⟨d3.1, d3.2⟩ hs) hw H locs ls hP hD hS hv

theorem a_bipush {v : Int} (hd : (tb M)[k]? = some (pc, .bipush v, 2, np, tg)) (kk : AW M P np lv (vi v :: st) h) : AW M P pc lv st h := by
  intro l p e s m args below meth c G A C hl hs hw H locs ls hP hD hS hv
  obtain ⟨d1, rfl, d3, d4⟩ := ok_at C.2.2.2.2.2.2.2.2.1 hd
  simp only [cst_, Bool.and_eq_true, decide_eq_true_eq] at d3
  refine lv_bipush C.1 C.2.1 d1 d3.1.1 ?_
  exact kk l p e s m args below meth c G A C hl (rg_k ⟨d3.1.2, d3.2⟩ hs) hw H locs ls hP hD hS hv

theorem a_sipush {v : Int} (hd : (tb M)[k]? = some (pc, .sipush v, 3, np, tg)) (kk : AW M P np lv (vi v :: st) h) : AW M P pc lv st h := by
  intro l p e s m args below meth c G A C hl hs hw H locs ls hP hD hS hv
  obtain ⟨d1, rfl, d3, d4⟩ := ok_at C.2.2.2.2.2.2.2.2.1 hd
  simp only [cst_, Bool.and_eq_true, decide_eq_true_eq] at d3
  refine lv_sipush C.1 C.2.1 d1 d3.1.1 ?_
  exact kk l p e s m args below meth c G A C hl (rg_k ⟨d3.1.2, d3.2⟩ hs) hw H locs ls hP hD hS hv

theorem a_lconst {v : Fin 2} (hd : (tb M)[k]? = some (pc, .lconst v, 1, np, tg)) (kk : AW M P np lv (vl (v.val : Int) :: st) h) : AW M P pc lv st h := by
  intro l p e s m args below meth c G A C hl hs hw H locs ls hP hD hS hv
  obtain ⟨d1, rfl, d3, d4⟩ := ok_at C.2.2.2.2.2.2.2.2.1 hd
  refine lv_lconst C.1 C.2.1 d1 (v := Int64.ofInt (v.val : Int)) ?_ ?_
  · match v with
    | 0 => rfl
    | 1 => rfl
  exact kk l p e s m args below meth c G A C hl (rg_k (by have := v.isLt; show I6 _; unfold I6; omega) hs) hw H locs ls hP hD hS hv
theorem a_ldc {v : Int} {x : Nat} (hd : (tb M)[k]? = some (pc, .ldc x, 2, np, tg)) (hc : Cond.constant M.1.cls x (Int32.ofInt v) ∈ lw_gd) (hr : I3 v) (kk : AW M P np lv (vi v :: st) h) : AW M P pc lv st h := by
  intro l p e s m args below meth c G A C hl hs hw H locs ls hP hD hS hv
  obtain ⟨d1, rfl, d3, d4⟩ := ok_at C.2.2.2.2.2.2.2.2.1 hd
  refine W.ldc C.1 C.2.1 C.2.2.2.2.1 (C.2.2.2.2.2.1 _ (List.mem_cons_of_mem _ hc)) rfl d1 ?_
  exact kk l p e s m args below meth c G A C hl (rg_k hr hs) hw H locs ls hP hD hS hv
theorem a_ldcw {v : Int} {x : Nat} (hd : (tb M)[k]? = some (pc, .ldc_w x, 3, np, tg)) (hc : Cond.constant M.1.cls x (Int32.ofInt v) ∈ lw_gd) (hr : I3 v) (kk : AW M P np lv (vi v :: st) h) : AW M P pc lv st h := by
  intro l p e s m args below meth c G A C hl hs hw H locs ls hP hD hS hv
  obtain ⟨d1, rfl, d3, d4⟩ := ok_at C.2.2.2.2.2.2.2.2.1 hd
  refine lv_ldcw C.1 C.2.1 C.2.2.2.2.1 (C.2.2.2.2.2.1 _ (List.mem_cons_of_mem _ hc)) d1 ?_
  exact kk l p e s m args below meth c G A C hl (rg_k hr hs) hw H locs ls hP hD hS hv
theorem a_ldc2 {v : Int} {x : Nat} (hd : (tb M)[k]? = some (pc, .ldc2_w x, 3, np, tg)) (hc : Cond.constantLong M.1.cls x (Int64.ofInt v) ∈ lw_gd) (hr : I6 v) (kk : AW M P np lv (vl v :: st) h) : AW M P pc lv st h := by
  intro l p e s m args below meth c G A C hl hs hw H locs ls hP hD hS hv
  obtain ⟨d1, rfl, d3, d4⟩ := ok_at C.2.2.2.2.2.2.2.2.1 hd
  refine W.ldc2 C.1 C.2.1 C.2.2.2.2.1 (C.2.2.2.2.2.1 _ (List.mem_cons_of_mem _ hc)) rfl d1 ?_
  exact kk l p e s m args below meth c G A C hl (rg_k hr hs) hw H locs ls hP hD hS hv
theorem a_null (hd : (tb M)[k]? = some (pc, .aconst_null, 1, np, tg)) (kk : AW M P np lv (vn :: st) h) : AW M P pc lv st h := by
  intro l p e s m args below meth c G A C hl hs hw H locs ls hP hD hS hv
  obtain ⟨d1, rfl, d3, d4⟩ := ok_at C.2.2.2.2.2.2.2.2.1 hd
  refine lv_null C.1 C.2.1 d1 ?_
  exact kk l p e s m args below meth c G A C hl (rg_k trivial hs) hw H locs ls hP hD hS hv
/-- a local's value, by its place in the list -/
theorem lv_get {ls : Array Slot} {nL j i : Nat} {ad : Nat → Nat → Nat} {v : AV} (hv : lv_has ls nL (lvc ad lv)) (hj : lv[j]? = some (i, v)) : ls[i]? = some (.val (cv ad v)) := lv_at hv j (by simp [lvc, hj])
theorem lv_rgj {j i : Nat} {v : AV} (hl : ∀ q ∈ lv, rg q.2) (hj : lv[j]? = some (i, v)) : rg v := hl _ (List.mem_of_getElem? hj)

theorem a_iloadn {a : Int} {x : Fin 4} (j : Nat) (hd : (tb M)[k]? = some (pc, .iload_n x, 1, np, tg)) (hj : lv[j]? = some (x.val, vi a)) (kk : AW M P np lv (vi a :: st) h) : AW M P pc lv st h := by
  intro l p e s m args below meth c G A C hl hs hw H locs ls hP hD hS hv
  obtain ⟨d1, rfl, d3, d4⟩ := ok_at C.2.2.2.2.2.2.2.2.1 hd
  refine lv_iload_n C.1 C.2.1 d1 rfl (lv_get hv hj) ?_
  exact kk l p e s m args below meth c G A C hl (rg_k (lv_rgj hl hj) hs) hw H locs ls hP hD hS hv
theorem a_iload {a : Int} {x : Nat} (j : Nat) (hd : (tb M)[k]? = some (pc, .iload x, 2, np, tg)) (hj : lv[j]? = some (x, vi a)) (kk : AW M P np lv (vi a :: st) h) : AW M P pc lv st h := by
  intro l p e s m args below meth c G A C hl hs hw H locs ls hP hD hS hv
  obtain ⟨d1, rfl, d3, d4⟩ := ok_at C.2.2.2.2.2.2.2.2.1 hd
  refine lv_iload C.1 C.2.1 d1 (lv_get hv hj) ?_
  exact kk l p e s m args below meth c G A C hl (rg_k (lv_rgj hl hj) hs) hw H locs ls hP hD hS hv

theorem a_lloadn {a : Int} {x : Fin 4} (j : Nat) (hd : (tb M)[k]? = some (pc, .lload_n x, 1, np, tg)) (hj : lv[j]? = some (x.val, vl a)) (kk : AW M P np lv (vl a :: st) h) : AW M P pc lv st h := by
  intro l p e s m args below meth c G A C hl hs hw H locs ls hP hD hS hv
  obtain ⟨d1, rfl, d3, d4⟩ := ok_at C.2.2.2.2.2.2.2.2.1 hd
  refine lv_lload_n C.1 C.2.1 d1 rfl (lv_get hv hj) ?_
  exact kk l p e s m args below meth c G A C hl (rg_k (lv_rgj hl hj) hs) hw H locs ls hP hD hS hv
theorem a_lload {a : Int} {x : Nat} (j : Nat) (hd : (tb M)[k]? = some (pc, .lload x, 2, np, tg)) (hj : lv[j]? = some (x, vl a)) (kk : AW M P np lv (vl a :: st) h) : AW M P pc lv st h := by
  intro l p e s m args below meth c G A C hl hs hw H locs ls hP hD hS hv
  obtain ⟨d1, rfl, d3, d4⟩ := ok_at C.2.2.2.2.2.2.2.2.1 hd
  refine lv_lload C.1 C.2.1 d1 (lv_get hv hj) ?_
  exact kk l p e s m args below meth c G A C hl (rg_k (lv_rgj hl hj) hs) hw H locs ls hP hD hS hv

theorem a_aloadn {t i : Nat} {x : Fin 4} (j : Nat) (hd : (tb M)[k]? = some (pc, .aload_n x, 1, np, tg)) (hj : lv[j]? = some (x.val, vr t i)) (kk : AW M P np lv (vr t i :: st) h) : AW M P pc lv st h := by
  intro l p e s m args below meth c G A C hl hs hw H locs ls hP hD hS hv
  obtain ⟨d1, rfl, d3, d4⟩ := ok_at C.2.2.2.2.2.2.2.2.1 hd
  refine lv_aload_n C.1 C.2.1 d1 rfl (lv_get hv hj) ?_
  exact kk l p e s m args below meth c G A C hl (rg_k (lv_rgj hl hj) hs) hw H locs ls hP hD hS hv
theorem a_aload {t i : Nat} {x : Nat} (j : Nat) (hd : (tb M)[k]? = some (pc, .aload x, 2, np, tg)) (hj : lv[j]? = some (x, vr t i)) (kk : AW M P np lv (vr t i :: st) h) : AW M P pc lv st h := by
  intro l p e s m args below meth c G A C hl hs hw H locs ls hP hD hS hv
  obtain ⟨d1, rfl, d3, d4⟩ := ok_at C.2.2.2.2.2.2.2.2.1 hd
  refine lv_aload C.1 C.2.1 d1 (lv_get hv hj) ?_
  exact kk l p e s m args below meth c G A C hl (rg_k (lv_rgj hl hj) hs) hw H locs ls hP hD hS hv

/-- locals behind a store -/
def isl (v : AV) : Bool := match v with | .inr (.inl _) => true | _ => false
def s1 (lv : LV) (i : Nat) (v : AV) : LV := (i, v) :: lv.filter fun q => !(q.1 == i) && !(q.1 + 1 == i && isl q.2)
def s2 (lv : LV) (i : Nat) (v : AV) : LV := (i, v) :: lv.filter fun q => !(q.1 == i) && (!(q.1 == i + 1) && !(q.1 + 1 == i && isl q.2))
theorem cat_cv (ad : Nat → Nat → Nat) (v : AV) : ((cv ad v).category == 2) = isl v := by
  match v with
  | .inl a => rfl
  | .inr (.inl a) => rfl
  | .inr (.inr (some q)) => rfl
  | .inr (.inr none) => rfl
theorem s1_cv (ad : Nat → Nat → Nat) (lv : LV) (i : Nat) (v : AV) : (i, cv ad v) :: (lvc ad lv).filter (fun q => !(q.1 == i) && !(q.1 + 1 == i && q.2.category == 2)) = lvc ad (s1 lv i v) := by
  unfold s1 lvc
  rw [List.map_cons, List.filter_map]
  congr 2
  apply List.filter_congr
  intro q _
  simp only [Function.comp, cat_cv]
theorem s2_cv (ad : Nat → Nat → Nat) (lv : LV) (i : Nat) (v : AV) : (i, cv ad v) :: (lvc ad lv).filter (fun q => !(q.1 == i) && (!(q.1 == i + 1) && !(q.1 + 1 == i && q.2.category == 2))) = lvc ad (s2 lv i v) := by
  unfold s2 lvc
  rw [List.map_cons, List.filter_map]
  congr 2
  apply List.filter_congr
  intro q _
  simp only [Function.comp, cat_cv]
theorem s1_rg {lv : LV} {i : Nat} {v : AV} (hv : rg v) (hl : ∀ q ∈ lv, rg q.2) : ∀ q ∈ s1 lv i v, rg q.2 := fun q hq => by
  rcases List.mem_cons.mp hq with rfl | hq
  · exact hv
  · exact hl q (List.mem_filter.mp hq).1
theorem s2_rg {lv : LV} {i : Nat} {v : AV} (hv : rg v) (hl : ∀ q ∈ lv, rg q.2) : ∀ q ∈ s2 lv i v, rg q.2 := fun q hq => by
  rcases List.mem_cons.mp hq with rfl | hq
  · exact hv
  · exact hl q (List.mem_filter.mp hq).1

theorem a_istoren {a : Int} {x : Fin 4} {lv' : LV} (hd : (tb M)[k]? = some (pc, .istore_n x, 1, np, tg)) (hn : x.val < M.2.2.1) (hl' : s1 lv x.val (vi a) = lv') (kk : AW M P np lv' st h) : AW M P pc lv (vi a :: st) h := by
  intro l p e s m args below meth c G A C hl hs hw H locs ls hP hD hS hv
  obtain ⟨d1, rfl, d3, d4⟩ := ok_at C.2.2.2.2.2.2.2.2.1 hd
  obtain ⟨r1, hs⟩ := rg_c hs
  subst hl'
  refine lv_istore_n C.1 C.2.1 d1 rfl hv hn (s1_cv G.2.2 lv x.val (vi a)) fun ls' hv' => ?_
  exact kk l p e s m args below meth c G A C (s1_rg r1 hl) hs hw H locs ls' hP hD hS hv'

theorem a_istore {a : Int} {x : Nat} {lv' : LV} (hd : (tb M)[k]? = some (pc, .istore x, 2, np, tg)) (hn : x < M.2.2.1) (hl' : s1 lv x (vi a) = lv') (kk : AW M P np lv' st h) : AW M P pc lv (vi a :: st) h := by
  intro l p e s m args below meth c G A C hl hs hw H locs ls hP hD hS hv
  obtain ⟨d1, rfl, d3, d4⟩ := ok_at C.2.2.2.2.2.2.2.2.1 hd
  obtain ⟨r1, hs⟩ := rg_c hs
  subst hl'
  refine lv_istore C.1 C.2.1 d1 hv hn (s1_cv G.2.2 lv x (vi a)) fun ls' hv' => ?_
  exact kk l p e s m args below meth c G A C (s1_rg r1 hl) hs hw H locs ls' hP hD hS hv'

theorem a_astoren {t i : Nat} {x : Fin 4} {lv' : LV} (hd : (tb M)[k]? = some (pc, .astore_n x, 1, np, tg)) (hn : x.val < M.2.2.1) (hl' : s1 lv x.val (vr t i) = lv') (kk : AW M P np lv' st h) : AW M P pc lv (vr t i :: st) h := by
  intro l p e s m args below meth c G A C hl hs hw H locs ls hP hD hS hv
  obtain ⟨d1, rfl, d3, d4⟩ := ok_at C.2.2.2.2.2.2.2.2.1 hd
  obtain ⟨r1, hs⟩ := rg_c hs
  subst hl'
  refine lv_astore_n C.1 C.2.1 d1 rfl hv hn (s1_cv G.2.2 lv x.val (vr t i)) fun ls' hv' => ?_
  exact kk l p e s m args below meth c G A C (s1_rg r1 hl) hs hw H locs ls' hP hD hS hv'

theorem a_astore {t i : Nat} {x : Nat} {lv' : LV} (hd : (tb M)[k]? = some (pc, .astore x, 2, np, tg)) (hn : x < M.2.2.1) (hl' : s1 lv x (vr t i) = lv') (kk : AW M P np lv' st h) : AW M P pc lv (vr t i :: st) h := by
  intro l p e s m args below meth c G A C hl hs hw H locs ls hP hD hS hv
  obtain ⟨d1, rfl, d3, d4⟩ := ok_at C.2.2.2.2.2.2.2.2.1 hd
  obtain ⟨r1, hs⟩ := rg_c hs
  subst hl'
  refine lv_astore C.1 C.2.1 d1 hv hn (s1_cv G.2.2 lv x (vr t i)) fun ls' hv' => ?_
  exact kk l p e s m args below meth c G A C (s1_rg r1 hl) hs hw H locs ls' hP hD hS hv'

theorem a_lstoren {a : Int} {x : Fin 4} {lv' : LV} (hd : (tb M)[k]? = some (pc, .lstore_n x, 1, np, tg)) (hn : x.val + 1 < M.2.2.1) (hl' : s2 lv x.val (vl a) = lv') (kk : AW M P np lv' st h) : AW M P pc lv (vl a :: st) h := by
  intro l p e s m args below meth c G A C hl hs hw H locs ls hP hD hS hv
  obtain ⟨d1, rfl, d3, d4⟩ := ok_at C.2.2.2.2.2.2.2.2.1 hd
  obtain ⟨r1, hs⟩ := rg_c hs
  subst hl'
  refine lv_lstore_n C.1 C.2.1 d1 rfl hv hn (s2_cv G.2.2 lv x.val (vl a)) fun ls' hv' => ?_
  exact kk l p e s m args below meth c G A C (s2_rg r1 hl) hs hw H locs ls' hP hD hS hv'

theorem a_lstore {a : Int} {x : Nat} {lv' : LV} (hd : (tb M)[k]? = some (pc, .lstore x, 2, np, tg)) (hn : x + 1 < M.2.2.1) (hl' : s2 lv x (vl a) = lv') (kk : AW M P np lv' st h) : AW M P pc lv (vl a :: st) h := by
  intro l p e s m args below meth c G A C hl hs hw H locs ls hP hD hS hv
  obtain ⟨d1, rfl, d3, d4⟩ := ok_at C.2.2.2.2.2.2.2.2.1 hd
  obtain ⟨r1, hs⟩ := rg_c hs
  subst hl'
  refine lv_lstore C.1 C.2.1 d1 hv hn (s2_cv G.2.2 lv x (vl a)) fun ls' hv' => ?_
  exact kk l p e s m args below meth c G A C (s2_rg r1 hl) hs hw H locs ls' hP hD hS hv'

theorem a_astoreN {x : Nat} {lv' : LV} (hd : (tb M)[k]? = some (pc, .astore x, 2, np, tg)) (kk : AW M P np lv' st h) (hf : False) : AW M P pc lv (vn :: st) h := hf.elim
theorem a_iinc {a : Int} {x : Nat} {n : Int} {lv' : LV} (j : Nat) (hd : (tb M)[k]? = some (pc, .iinc x n, 3, np, tg)) (hj : lv[j]? = some (x, vi a)) (hn : x < M.2.2.1) (hl' : s1 lv x (vi (ia a n)) = lv') (kk : AW M P np lv' st h) : AW M P pc lv st h := by
  intro l p e s m args below meth c G A C hl hs hw H locs ls hP hD hS hv
  obtain ⟨d1, rfl, d3, d4⟩ := ok_at C.2.2.2.2.2.2.2.2.1 hd
  subst hl'
  refine lv_iinc C.1 C.2.1 d1 hv (k := j) (x := Int32.ofInt a) (by simp [lvc, hj]; rfl) (cv_ia a n).symm hn (s1_cv G.2.2 lv x (vi (ia a n))) fun ls' hv' => ?_
  exact kk l p e s m args below meth c G A C (s1_rg (i3_of _) hl) hs hw H locs ls' hP hD hS hv'
theorem cat1_cv {ad : Nat → Nat → Nat} {v : AV} (h : isl v = false) : (cv ad v).category = 1 := by
  match v, h with
  | .inl a, _ => rfl
  | .inr (.inr (some q)), _ => rfl
  | .inr (.inr none), _ => rfl
theorem a_dup {v : AV} (hd : (tb M)[k]? = some (pc, .dup, 1, np, tg)) (hc : isl v = false) (kk : AW M P np lv (v :: v :: st) h) : AW M P pc lv (v :: st) h := by
  intro l p e s m args below meth c G A C hl hs hw H locs ls hP hD hS hv
  obtain ⟨d1, rfl, d3, d4⟩ := ok_at C.2.2.2.2.2.2.2.2.1 hd
  refine lv_dup C.1 C.2.1 d1 (cat1_cv hc) ?_
  exact kk l p e s m args below meth c G A C hl (rg_k (rg_c hs).1 hs) hw H locs ls hP hD hS hv
theorem a_dup2 {v w : AV} (hd : (tb M)[k]? = some (pc, .dup2, 1, np, tg)) (hc : isl v = false) (hc2 : isl w = false) (kk : AW M P np lv (v :: w :: v :: w :: st) h) : AW M P pc lv (v :: w :: st) h := by
  intro l p e s m args below meth c G A C hl hs hw H locs ls hP hD hS hv
  obtain ⟨d1, rfl, d3, d4⟩ := ok_at C.2.2.2.2.2.2.2.2.1 hd
  refine lv_dup2_11 C.1 C.2.1 d1 (cat1_cv hc) (cat1_cv hc2) ?_
  exact kk l p e s m args below meth c G A C hl (rg_k (rg_c hs).1 (rg_k (rg_c (rg_c hs).2).1 hs)) hw H locs ls hP hD hS hv
theorem a_pop {v : AV} (hd : (tb M)[k]? = some (pc, .pop, 1, np, tg)) (hc : isl v = false) (kk : AW M P np lv st h) : AW M P pc lv (v :: st) h := by
  intro l p e s m args below meth c G A C hl hs hw H locs ls hP hD hS hv
  obtain ⟨d1, rfl, d3, d4⟩ := ok_at C.2.2.2.2.2.2.2.2.1 hd
  refine lv_pop C.1 C.2.1 d1 (cat1_cv hc) ?_
  exact kk l p e s m args below meth c G A C hl (rg_c hs).2 hw H locs ls hP hD hS hv
theorem a_goto {o : Int} (hd : (tb M)[k]? = some (pc, .goto o, 3, np, tg)) (kk : AW M P tg lv st h) : AW M P pc lv st h := by
  intro l p e s m args below meth c G A C hl hs hw H locs ls hP hD hS hv
  obtain ⟨d1, rfl, d3, d4⟩ := ok_at C.2.2.2.2.2.2.2.2.1 hd
  refine lv_goto C.1 C.2.1 d1 (d4 _ rfl) ?_
  exact kk l p e s m args below meth c G A C hl hs hw H locs ls hP hD hS hv

theorem a_icmp_eq {a b o : Int} (hd : (tb M)[k]? = some (pc, .if_icmp .eq o, 3, np, tg)) (k1 : a = b → AW M P tg lv st h) (k2 : ¬ a = b → AW M P np lv st h) : AW M P pc lv (vi b :: vi a :: st) h := by
  intro l p e s m args below meth c G A C hl hs hw H locs ls hP hD hS hv
  obtain ⟨d1, rfl, d3, d4⟩ := ok_at C.2.2.2.2.2.2.2.2.1 hd
  obtain ⟨r1, hs⟩ := rg_c hs
  obtain ⟨r2, hs⟩ := rg_c hs
  exact lv_icmp_eq C.1 C.2.1 d1 (d4 _ rfl) (fun q => k1 ((c3_eq r2 r1).mp q) l p e s m args below meth c G A C hl hs hw H locs ls hP hD hS hv) (fun q => k2 ((not_congr (c3_eq r2 r1)).mp q) l p e s m args below meth c G A C hl hs hw H locs ls hP hD hS hv)

theorem a_icmp_ne {a b o : Int} (hd : (tb M)[k]? = some (pc, .if_icmp .ne o, 3, np, tg)) (k1 : ¬ a = b → AW M P tg lv st h) (k2 : a = b → AW M P np lv st h) : AW M P pc lv (vi b :: vi a :: st) h := by
  intro l p e s m args below meth c G A C hl hs hw H locs ls hP hD hS hv
  obtain ⟨d1, rfl, d3, d4⟩ := ok_at C.2.2.2.2.2.2.2.2.1 hd
  obtain ⟨r1, hs⟩ := rg_c hs
  obtain ⟨r2, hs⟩ := rg_c hs
  exact lv_icmp_ne C.1 C.2.1 d1 (d4 _ rfl) (fun q => k1 ((not_congr (c3_eq r2 r1)).mp q) l p e s m args below meth c G A C hl hs hw H locs ls hP hD hS hv) (fun q => k2 ((c3_eq r2 r1).mp q) l p e s m args below meth c G A C hl hs hw H locs ls hP hD hS hv)

theorem a_icmp_lt {a b o : Int} (hd : (tb M)[k]? = some (pc, .if_icmp .lt o, 3, np, tg)) (k1 : a < b → AW M P tg lv st h) (k2 : ¬ a < b → AW M P np lv st h) : AW M P pc lv (vi b :: vi a :: st) h := by
  intro l p e s m args below meth c G A C hl hs hw H locs ls hP hD hS hv
  obtain ⟨d1, rfl, d3, d4⟩ := ok_at C.2.2.2.2.2.2.2.2.1 hd
  obtain ⟨r1, hs⟩ := rg_c hs
  obtain ⟨r2, hs⟩ := rg_c hs
  exact lv_icmp_lt C.1 C.2.1 d1 (d4 _ rfl) (fun q => k1 ((c3_lt r2 r1).mp q) l p e s m args below meth c G A C hl hs hw H locs ls hP hD hS hv) (fun q => k2 ((not_congr (c3_lt r2 r1)).mp q) l p e s m args below meth c G A C hl hs hw H locs ls hP hD hS hv)

theorem a_icmp_ge {a b o : Int} (hd : (tb M)[k]? = some (pc, .if_icmp .ge o, 3, np, tg)) (k1 : b ≤ a → AW M P tg lv st h) (k2 : ¬ b ≤ a → AW M P np lv st h) : AW M P pc lv (vi b :: vi a :: st) h := by
  intro l p e s m args below meth c G A C hl hs hw H locs ls hP hD hS hv
  obtain ⟨d1, rfl, d3, d4⟩ := ok_at C.2.2.2.2.2.2.2.2.1 hd
  obtain ⟨r1, hs⟩ := rg_c hs
  obtain ⟨r2, hs⟩ := rg_c hs
  exact lv_icmp_ge C.1 C.2.1 d1 (d4 _ rfl) (fun q => k1 ((c3_le r1 r2).mp q) l p e s m args below meth c G A C hl hs hw H locs ls hP hD hS hv) (fun q => k2 ((not_congr (c3_le r1 r2)).mp q) l p e s m args below meth c G A C hl hs hw H locs ls hP hD hS hv)

theorem a_icmp_gt {a b o : Int} (hd : (tb M)[k]? = some (pc, .if_icmp .gt o, 3, np, tg)) (k1 : b < a → AW M P tg lv st h) (k2 : ¬ b < a → AW M P np lv st h) : AW M P pc lv (vi b :: vi a :: st) h := by
  intro l p e s m args below meth c G A C hl hs hw H locs ls hP hD hS hv
  obtain ⟨d1, rfl, d3, d4⟩ := ok_at C.2.2.2.2.2.2.2.2.1 hd
  obtain ⟨r1, hs⟩ := rg_c hs
  obtain ⟨r2, hs⟩ := rg_c hs
  exact lv_icmp_gt C.1 C.2.1 d1 (d4 _ rfl) (fun q => k1 ((c3_lt r1 r2).mp q) l p e s m args below meth c G A C hl hs hw H locs ls hP hD hS hv) (fun q => k2 ((not_congr (c3_lt r1 r2)).mp q) l p e s m args below meth c G A C hl hs hw H locs ls hP hD hS hv)

theorem a_icmp_le {a b o : Int} (hd : (tb M)[k]? = some (pc, .if_icmp .le o, 3, np, tg)) (k1 : a ≤ b → AW M P tg lv st h) (k2 : ¬ a ≤ b → AW M P np lv st h) : AW M P pc lv (vi b :: vi a :: st) h := by
  intro l p e s m args below meth c G A C hl hs hw H locs ls hP hD hS hv
  obtain ⟨d1, rfl, d3, d4⟩ := ok_at C.2.2.2.2.2.2.2.2.1 hd
  obtain ⟨r1, hs⟩ := rg_c hs
  obtain ⟨r2, hs⟩ := rg_c hs
  exact lv_icmp_le C.1 C.2.1 d1 (d4 _ rfl) (fun q => k1 ((c3_le r2 r1).mp q) l p e s m args below meth c G A C hl hs hw H locs ls hP hD hS hv) (fun q => k2 ((not_congr (c3_le r2 r1)).mp q) l p e s m args below meth c G A C hl hs hw H locs ls hP hD hS hv)

theorem a_if_eq {a o : Int} (hd : (tb M)[k]? = some (pc, .ifCond .eq o, 3, np, tg)) (k1 : a = 0 → AW M P tg lv st h) (k2 : ¬ a = 0 → AW M P np lv st h) : AW M P pc lv (vi a :: st) h := by
  intro l p e s m args below meth c G A C hl hs hw H locs ls hP hD hS hv
  obtain ⟨d1, rfl, d3, d4⟩ := ok_at C.2.2.2.2.2.2.2.2.1 hd
  obtain ⟨r1, hs⟩ := rg_c hs
  exact lv_if_eq C.1 C.2.1 d1 (d4 _ rfl) (fun q => k1 ((c3_eq r1 c0_3).mp q) l p e s m args below meth c G A C hl hs hw H locs ls hP hD hS hv) (fun q => k2 ((not_congr (c3_eq r1 c0_3)).mp q) l p e s m args below meth c G A C hl hs hw H locs ls hP hD hS hv)

theorem a_if_ne {a o : Int} (hd : (tb M)[k]? = some (pc, .ifCond .ne o, 3, np, tg)) (k1 : ¬ a = 0 → AW M P tg lv st h) (k2 : a = 0 → AW M P np lv st h) : AW M P pc lv (vi a :: st) h := by
  intro l p e s m args below meth c G A C hl hs hw H locs ls hP hD hS hv
  obtain ⟨d1, rfl, d3, d4⟩ := ok_at C.2.2.2.2.2.2.2.2.1 hd
  obtain ⟨r1, hs⟩ := rg_c hs
  exact lv_if_ne C.1 C.2.1 d1 (d4 _ rfl) (fun q => k1 ((not_congr (c3_eq r1 c0_3)).mp q) l p e s m args below meth c G A C hl hs hw H locs ls hP hD hS hv) (fun q => k2 ((c3_eq r1 c0_3).mp q) l p e s m args below meth c G A C hl hs hw H locs ls hP hD hS hv)

theorem a_if_lt {a o : Int} (hd : (tb M)[k]? = some (pc, .ifCond .lt o, 3, np, tg)) (k1 : a < 0 → AW M P tg lv st h) (k2 : ¬ a < 0 → AW M P np lv st h) : AW M P pc lv (vi a :: st) h := by
  intro l p e s m args below meth c G A C hl hs hw H locs ls hP hD hS hv
  obtain ⟨d1, rfl, d3, d4⟩ := ok_at C.2.2.2.2.2.2.2.2.1 hd
  obtain ⟨r1, hs⟩ := rg_c hs
  exact lv_if_lt C.1 C.2.1 d1 (d4 _ rfl) (fun q => k1 ((c3_lt r1 c0_3).mp q) l p e s m args below meth c G A C hl hs hw H locs ls hP hD hS hv) (fun q => k2 ((not_congr (c3_lt r1 c0_3)).mp q) l p e s m args below meth c G A C hl hs hw H locs ls hP hD hS hv)

theorem a_if_ge {a o : Int} (hd : (tb M)[k]? = some (pc, .ifCond .ge o, 3, np, tg)) (k1 : 0 ≤ a → AW M P tg lv st h) (k2 : ¬ 0 ≤ a → AW M P np lv st h) : AW M P pc lv (vi a :: st) h := by
  intro l p e s m args below meth c G A C hl hs hw H locs ls hP hD hS hv
  obtain ⟨d1, rfl, d3, d4⟩ := ok_at C.2.2.2.2.2.2.2.2.1 hd
  obtain ⟨r1, hs⟩ := rg_c hs
  exact lv_if_ge C.1 C.2.1 d1 (d4 _ rfl) (fun q => k1 ((c3_le c0_3 r1).mp q) l p e s m args below meth c G A C hl hs hw H locs ls hP hD hS hv) (fun q => k2 ((not_congr (c3_le c0_3 r1)).mp q) l p e s m args below meth c G A C hl hs hw H locs ls hP hD hS hv)

theorem a_if_gt {a o : Int} (hd : (tb M)[k]? = some (pc, .ifCond .gt o, 3, np, tg)) (k1 : 0 < a → AW M P tg lv st h) (k2 : ¬ 0 < a → AW M P np lv st h) : AW M P pc lv (vi a :: st) h := by
  intro l p e s m args below meth c G A C hl hs hw H locs ls hP hD hS hv
  obtain ⟨d1, rfl, d3, d4⟩ := ok_at C.2.2.2.2.2.2.2.2.1 hd
  obtain ⟨r1, hs⟩ := rg_c hs
  exact lv_if_gt C.1 C.2.1 d1 (d4 _ rfl) (fun q => k1 ((c3_lt c0_3 r1).mp q) l p e s m args below meth c G A C hl hs hw H locs ls hP hD hS hv) (fun q => k2 ((not_congr (c3_lt c0_3 r1)).mp q) l p e s m args below meth c G A C hl hs hw H locs ls hP hD hS hv)

theorem a_if_le {a o : Int} (hd : (tb M)[k]? = some (pc, .ifCond .le o, 3, np, tg)) (k1 : a ≤ 0 → AW M P tg lv st h) (k2 : ¬ a ≤ 0 → AW M P np lv st h) : AW M P pc lv (vi a :: st) h := by
  intro l p e s m args below meth c G A C hl hs hw H locs ls hP hD hS hv
  obtain ⟨d1, rfl, d3, d4⟩ := ok_at C.2.2.2.2.2.2.2.2.1 hd
  obtain ⟨r1, hs⟩ := rg_c hs
  exact lv_if_le C.1 C.2.1 d1 (d4 _ rfl) (fun q => k1 ((c3_le r1 c0_3).mp q) l p e s m args below meth c G A C hl hs hw H locs ls hP hD hS hv) (fun q => k2 ((not_congr (c3_le r1 c0_3)).mp q) l p e s m args below meth c G A C hl hs hw H locs ls hP hD hS hv)

theorem a_nullR {t i : Nat} {o : Int} (hd : (tb M)[k]? = some (pc, .ifnull o, 3, np, tg)) (kk : AW M P np lv st h) : AW M P pc lv (vr t i :: st) h := by
  intro l p e s m args below meth c G A C hl hs hw H locs ls hP hD hS hv
  obtain ⟨d1, rfl, d3, d4⟩ := ok_at C.2.2.2.2.2.2.2.2.1 hd
  refine lv_ifnull C.1 C.2.1 d1 ?_
  exact kk l p e s m args below meth c G A C hl (rg_c hs).2 hw H locs ls hP hD hS hv

theorem a_nullN {o : Int} (hd : (tb M)[k]? = some (pc, .ifnull o, 3, np, tg)) (kk : AW M P tg lv st h) : AW M P pc lv (vn :: st) h := by
  intro l p e s m args below meth c G A C hl hs hw H locs ls hP hD hS hv
  obtain ⟨d1, rfl, d3, d4⟩ := ok_at C.2.2.2.2.2.2.2.2.1 hd
  refine lv_ifnullN C.1 C.2.1 d1 (d4 _ rfl) ?_
  exact kk l p e s m args below meth c G A C hl (rg_c hs).2 hw H locs ls hP hD hS hv

theorem a_nonnullR {t i : Nat} {o : Int} (hd : (tb M)[k]? = some (pc, .ifnonnull o, 3, np, tg)) (kk : AW M P tg lv st h) : AW M P pc lv (vr t i :: st) h := by
  intro l p e s m args below meth c G A C hl hs hw H locs ls hP hD hS hv
  obtain ⟨d1, rfl, d3, d4⟩ := ok_at C.2.2.2.2.2.2.2.2.1 hd
  refine lv_ifnonnull C.1 C.2.1 d1 (d4 _ rfl) ?_
  exact kk l p e s m args below meth c G A C hl (rg_c hs).2 hw H locs ls hP hD hS hv

theorem a_nonnullN {o : Int} (hd : (tb M)[k]? = some (pc, .ifnonnull o, 3, np, tg)) (kk : AW M P np lv st h) : AW M P pc lv (vn :: st) h := by
  intro l p e s m args below meth c G A C hl hs hw H locs ls hP hD hS hv
  obtain ⟨d1, rfl, d3, d4⟩ := ok_at C.2.2.2.2.2.2.2.2.1 hd
  refine lv_ifnonnullN C.1 C.2.1 d1 ?_
  exact kk l p e s m args below meth c G A C hl (rg_c hs).2 hw H locs ls hP hD hS hv

theorem a_tabIn {a dflt lo hi o : Int} {offs : Array Int} {n t : Nat} (hd : (tb M)[k]? = some (pc, .tableswitch dflt lo hi offs, n, np, tg)) (h1 : ¬ a < lo) (h2 : ¬ hi < a) (ho : offs[(a - lo).toNat]? = some o) (ht : (pc : Int) + o = (t : Int)) (kk : AW M P t lv st h) : AW M P pc lv (vi a :: st) h := by
  intro l p e s m args below meth c G A C hl hs hw H locs ls hP hD hS hv
  obtain ⟨d1, rfl, d3, d4⟩ := ok_at C.2.2.2.2.2.2.2.2.1 hd
  obtain ⟨r1, hs⟩ := rg_c hs
  refine lv_tableIn C.1 C.2.1 d1 (by rw [to3 r1]; exact h1) (by rw [to3 r1]; exact h2) (by rw [to3 r1]; exact ho) ht ?_
  exact kk l p e s m args below meth c G A C hl hs hw H locs ls hP hD hS hv
theorem a_tabOut {a dflt lo hi : Int} {offs : Array Int} {n t : Nat} (hd : (tb M)[k]? = some (pc, .tableswitch dflt lo hi offs, n, np, tg)) (h1 : a < lo ∨ hi < a) (ht : (pc : Int) + dflt = (t : Int)) (kk : AW M P t lv st h) : AW M P pc lv (vi a :: st) h := by
  intro l p e s m args below meth c G A C hl hs hw H locs ls hP hD hS hv
  obtain ⟨d1, rfl, d3, d4⟩ := ok_at C.2.2.2.2.2.2.2.2.1 hd
  obtain ⟨r1, hs⟩ := rg_c hs
  refine lv_tableOut C.1 C.2.1 d1 (by rw [to3 r1]; exact h1) ht ?_
  exact kk l p e s m args below meth c G A C hl hs hw H locs ls hP hD hS hv
/-- fewer locals, by their places -/
theorem a_sub {lv' : LV} (ks : List Nat) (hk : ks.filterMap (fun j => lv[j]?) = lv') (kk : AW M P pc lv' st h) : AW M P pc lv st h := by
  intro l p e s m args below meth c G A C hl hs hw H locs ls hP hD hS hv
  subst hk
  refine kk l p e s m args below meth c G A C (fun q hq => ?_) hs hw H locs ls hP hD hS ⟨hv.1, hv.2.1, fun q hq => ?_⟩
  · obtain ⟨j, -, hj⟩ := List.mem_filterMap.mp hq
    exact hl q (List.mem_of_getElem? hj)
  · obtain ⟨r, hr, rfl⟩ := List.mem_map.mp hq
    obtain ⟨j, -, hj⟩ := List.mem_filterMap.mp hr
    exact hv.2.2 _ (List.mem_map.mpr ⟨r, List.mem_of_getElem? hj, rfl⟩)
/-- what is known of all numbers -/
theorem a_know (kk : (∀ q ∈ lv, rg q.2) → (∀ v ∈ st, rg v) → HW h → AW M P pc lv st h) : AW M P pc lv st h := fun l p e s m args below meth c G A C hl hs hw => kk hl hs hw l p e s m args below meth c G A C hl hs hw
theorem a_eq {pc' : Nat} {lv' : LV} {st' : List AV} {h' : HH} (kk : AW M P pc' lv' st' h') (e1 : pc' = pc) (e2 : lv' = lv) (e3 : st' = st) (e4 : h' = h) : AW M P pc lv st h := by
  subst e1 e2 e3 e4; exact kk
end AWR
end
section
theorem rf_vt {t i k : Nat} {q : Nat × Nat} (hv : vt t i) (hk : ∀ an, ka t = some an → k < an.2) (h : rf t i k = some q) : vt q.1 q.2 := by
  obtain ⟨-, hi⟩ := hv
  unfold rf at h
  split at h <;> (try split at h) <;> first | (cases h; done) | (cases h; refine ⟨by simp [tg_all], ?_⟩; first | decide | (have hk' := hk _ rfl; simp only [cnt] at hi ⊢; first | omega | (dsimp only at hk'; omega)) | (simp only [cnt] at hi ⊢; omega))
theorem ci_all : ∀ (c : Nat) (q : vw_C), vwCl[c]? = some q → (∀ w ∈ u_ws q.1 q.2.1 q.2.2, w ∈ lw_gd) ∧ (∃ ty : Nat → FieldType, ∀ k, k < q.2.2 → parseFieldDescriptor (q.2.1 k).2.2.1 = some (ty k)) ∧ (∀ a, a < q.2.2 → ∀ b, b < q.2.2 → a ≠ b → (q.2.1 a).2.1 ≠ (q.2.1 b).2.1) := by
  intro c q hq
  match c, hq with
  | 0, hq => cases hq; exact ⟨by decide +kernel, ⟨_, tyX0_ok⟩, nmX0⟩
  | 1, hq => cases hq; exact ⟨by decide +kernel, ⟨_, tyX1_ok⟩, nmX1⟩
  | 2, hq => cases hq; exact ⟨by decide +kernel, ⟨_, tyX2_ok⟩, nmX2⟩
  | 3, hq => cases hq; exact ⟨by decide +kernel, ⟨_, tyX3_ok⟩, nmX3⟩
  | 4, hq => cases hq; exact ⟨by decide +kernel, ⟨_, tyX4_ok⟩, nmX4⟩
  | 5, hq => cases hq; exact ⟨by decide +kernel, ⟨_, tyX5_ok⟩, nmX5⟩
  | 6, hq => cases hq; exact ⟨by decide +kernel, ⟨_, tyX6_ok⟩, nmX6⟩
  | 7, hq => cases hq; exact ⟨by decide +kernel, ⟨_, tyX7_ok⟩, nmX7⟩
  | 8, hq => cases hq; exact ⟨by decide +kernel, ⟨_, tyX8_ok⟩, nmX8⟩
  | 9, hq => cases hq; exact ⟨by decide +kernel, ⟨_, tyX9_ok⟩, nmX9⟩
  | 10, hq => cases hq; exact ⟨by decide +kernel, ⟨_, tyX10_ok⟩, nmX10⟩
  | 11, hq => cases hq; exact ⟨by decide +kernel, ⟨_, tyX11_ok⟩, nmX11⟩
  | c + 12, hq => simp [vwCl] at hq
def fl (own : String) (x ci kf : Nat) : Prop := ∃ q : vw_C, vwCl[ci]? = some q ∧ kf < q.2.2 ∧ Cond.fieldLink own x (q.2.1 kf).1 (q.2.1 kf).2.1 (q.2.1 kf).2.2.1 ∈ lw_gd
def fp (own : String) (x ci kf : Nat) (ty : FieldType) : Prop := ∃ q : vw_C, vwCl[ci]? = some q ∧ kf < q.2.2 ∧ Cond.fieldLink own x (q.2.1 kf).1 (q.2.1 kf).2.1 (q.2.1 kf).2.2.1 ∈ lw_gd ∧ (q.2.1 kf).2.2.2 = false ∧ parseFieldDescriptor (q.2.1 kf).2.2.1 = some ty
theorem nfc_of {c : Nat} {q : vw_C} (h : vwCl[c]? = some q) : nfc c = q.2.2 := by simp [nfc, h]
theorem ce_o {G : GG} {t i c : Nat} {g : Nat → Int} (h : ko t = some c) : ce G t i g = .inr (c, (List.range (nfc c)).map fun k => fv G.2.2 t i k (g k)) := by simp [ce, h]
theorem ce_i {G : GG} {t i a n : Nat} {g : Nat → Int} (h : ko t = none) (h2 : ka t = some (a, n)) (h3 : a ≤ 1) : ce G t i g = .inl (G.2.1 a, n, .inl fun k => Int32.ofInt (g k)) := by simp [ce, h, h2, h3]
theorem ce_q {G : GG} {t i a n : Nat} {g : Nat → Int} (h : ko t = none) (h2 : ka t = some (a, n)) (h3 : ¬ a ≤ 1) : ce G t i g = .inl (G.2.1 a, n, .inr (.inr (.inr (.inr fun k => (rf t i k).map fun q => G.2.2 q.1 q.2)))) := by simp [ce, h, h2, h3]
theorem put_same (h : HH) (t i k : Nat) (v : Int) : put h t i k v t i k = v := by simp [put]
theorem put_at (h : HH) (t i k : Nat) (v : Int) (j : Nat) : put h t i k v t i j = if j = k then v else h t i j := by simp [put]
theorem put_oc (h : HH) (t i k : Nat) (v : Int) (t' i' : Nat) (hne : ¬ (t' = t ∧ i' = i)) : put h t i k v t' i' = h t' i' := by
  funext j
  unfold put
  rw [if_neg (fun q => hne ⟨q.1, q.2.1⟩)]
theorem ce_put {G : GG} {t i c kf : Nat} {h : HH} {a : Int} (ho : ko t = some c) (hr : rf t i kf = none) : ce G t i (put h t i kf a t i) = .inr (c, ((List.range (nfc c)).map fun k => fv G.2.2 t i k (h t i k)).set kf (.int (Int32.ofInt a))) := by
  rw [ce_o ho]
  congr 2
  apply List.ext_getElem?
  intro j
  rw [List.getElem?_set]
  by_cases hj : kf = j
  · subst hj
    by_cases hl : kf < nfc c
    · simp [hl, fv, hr, put_at]
    · simp [hl]
  · rw [if_neg hj]
    by_cases hl : j < nfc c
    · simp [hl, put_at, Ne.symm hj]
    · simp [hl]
theorem ce_putA {G : GG} {t i a n k : Nat} {h : HH} {x : Int} (ho : ko t = none) (h2 : ka t = some (a, n)) (h3 : a ≤ 1) : ce G t i (put h t i k x t i) = .inl (G.2.1 a, n, .inl (upd (fun j => Int32.ofInt (h t i j)) k (Int32.ofInt x))) := by
  rw [ce_i ho h2 h3]
  congr 4
  funext j
  rw [put_at, upd]
  split <;> rfl
section AWH
variable {M : MD} {P : Option AV → HH → Prop} {lv : LV} {st : List AV} {h : HH} {k pc np tg t i : Nat}
theorem a_geti {x ci kf : Nat} (hd : (tb M)[k]? = some (pc, .getfield x, 3, np, tg)) (hf : fl M.1.cls x ci kf) (ho : ko t = some ci) (hr : rf t i kf = none) (kk : AW M P np lv (vi (h t i kf) :: st) h) : AW M P pc lv (vr t i :: st) h := by
  intro l p e s m args below meth c G A C hl hs hw H locs ls hP hD hS hv
  obtain ⟨d1, rfl, d3, d4⟩ := ok_at C.2.2.2.2.2.2.2.2.1 hd
  obtain ⟨r1, hs⟩ := rg_c hs
  have r1 : vt t i := r1
  obtain ⟨q, hq, hk, hlk⟩ := hf
  obtain ⟨k0, h1, h2⟩ := ws_at (G := G) (h := h) r1
  rw [ce_o ho] at h2
  refine va_get (D := G.1) (v := .int (Int32.ofInt (h t i kf))) C.1 C.2.1 (fun w hw => C.2.2.2.2.2.1 w (List.mem_cons_of_mem _ hw)) (ci_all ci q hq).1 C.2.2.2.2.1 C.2.2.2.2.2.2.2.1.1 hP k0 h2 hq kf hk (C.2.2.2.2.2.1 _ (List.mem_cons_of_mem _ hlk)) (fun _ z => z) ?_ d1 ?_
  · simp [nfc_of hq, hk, fv, hr]
  exact kk l p e s m args below meth c G A C hl (rg_k (hw t i kf) hs) hw H locs ls hP hD hS hv
theorem a_getr {x ci kf t' i' : Nat} (hd : (tb M)[k]? = some (pc, .getfield x, 3, np, tg)) (hf : fl M.1.cls x ci kf) (ho : ko t = some ci) (hka : ka t = none) (hr : rf t i kf = some (t', i')) (kk : AW M P np lv (vr t' i' :: st) h) : AW M P pc lv (vr t i :: st) h := by
  intro l p e s m args below meth c G A C hl hs hw H locs ls hP hD hS hv
  obtain ⟨d1, rfl, d3, d4⟩ := ok_at C.2.2.2.2.2.2.2.2.1 hd
  obtain ⟨r1, hs⟩ := rg_c hs
  have r1 : vt t i := r1
  obtain ⟨q, hq, hk, hlk⟩ := hf
  obtain ⟨k0, h1, h2⟩ := ws_at (G := G) (h := h) r1
  rw [ce_o ho] at h2
  refine va_get (D := G.1) (v := .ref (G.2.2 t' i')) C.1 C.2.1 (fun w hw => C.2.2.2.2.2.1 w (List.mem_cons_of_mem _ hw)) (ci_all ci q hq).1 C.2.2.2.2.1 C.2.2.2.2.2.2.2.1.1 hP k0 h2 hq kf hk (C.2.2.2.2.2.1 _ (List.mem_cons_of_mem _ hlk)) (fun _ z => z) ?_ d1 ?_
  · simp [nfc_of hq, hk, fv, hr]
  exact kk l p e s m args below meth c G A C hl (rg_k (rf_vt r1 (fun an h9 => by rw [hka] at h9; cases h9) hr) hs) hw H locs ls hP hD hS hv
theorem put_core {ty : FieldType} {x ci kf : Nat} {a : Int} (hd : (tb M)[k]? = some (pc, .putfield x, 3, np, tg)) (hf : fp M.1.cls x ci kf ty) (ho : ko t = some ci) (hr : rf t i kf = none) (hn : narrow ty (.int (Int32.ofInt a)) = .int (Int32.ofInt a)) (hfit : fits ty (.int (Int32.ofInt a)) = true) (kk : AW M P np lv st (put h t i kf a)) : AW M P pc lv (vi a :: vr t i :: st) h := by
  intro l p e s m args below meth c G A C hl hs hw H locs ls hP hD hS hv
  obtain ⟨d1, rfl, d3, d4⟩ := ok_at C.2.2.2.2.2.2.2.2.1 hd
  obtain ⟨r0, hs⟩ := rg_c hs
  obtain ⟨r1, hs⟩ := rg_c hs
  have r1 : vt t i := r1
  obtain ⟨q, hq, hk, hlk, hfin, hty⟩ := hf
  obtain ⟨k0, h1, h2⟩ := ws_at (G := G) (h := h) r1
  rw [ce_o ho] at h2
  obtain ⟨w1, ⟨ty0, w2⟩, w3⟩ := ci_all ci q hq
  refine va_put (D := G.1) (v := .int (Int32.ofInt a)) C.1 C.2.1 (fun w hw => C.2.2.2.2.2.1 w (List.mem_cons_of_mem _ hw)) w1 ty0 w2 w3 C.2.2.2.2.1 C.2.2.2.2.2.2.2.1.1 hP hD hS k0 h2 hq kf hk (C.2.2.2.2.2.1 _ (List.mem_cons_of_mem _ hlk)) (fun _ z => z) hfin hty hn hfit ?_ d1 (fun H1 locs1 hP1 hD1 hS1 => ?_)
  · simp [nfc_of hq, hk]
  rw [← ce_put (G := G) (h := h) (a := a) ho hr, ws_set hD h1 (put_oc h t i kf a)] at hP1 hD1
  exact kk l p e s m args below meth c G A C hl hs (put_wf hw r0) H1 locs1 ls hP1 hD1 hS1 hv
theorem a_puti {x ci kf : Nat} {a : Int} (hd : (tb M)[k]? = some (pc, .putfield x, 3, np, tg)) (hf : fp M.1.cls x ci kf .int) (ho : ko t = some ci) (hr : rf t i kf = none) (kk : AW M P np lv st (put h t i kf a)) : AW M P pc lv (vi a :: vr t i :: st) h := put_core hd hf ho hr rfl rfl kk
theorem a_putz {x ci kf : Nat} {a : Int} (hd : (tb M)[k]? = some (pc, .putfield x, 3, np, tg)) (hf : fp M.1.cls x ci kf .boolean) (ho : ko t = some ci) (hr : rf t i kf = none) (hz : a = 0 ∨ a = 1) (kk : AW M P np lv st (put h t i kf a)) : AW M P pc lv (vi a :: vr t i :: st) h := by
  refine put_core hd hf ho hr ?_ ?_ kk
  · rcases hz with rfl | rfl <;> rfl
  · rcases hz with rfl | rfl <;> rfl
theorem tk_at {G : GG} {a : Nat} (ha : a ≤ 4) : ∃ ty, (tk G)[a]? = some (G.2.1 a, ty) := by
  match a, ha with
  | 0, _ => exact ⟨_, rfl⟩
  | 1, _ => exact ⟨_, rfl⟩
  | 2, _ => exact ⟨_, rfl⟩
  | 3, _ => exact ⟨_, rfl⟩
  | 4, _ => exact ⟨_, rfl⟩
theorem a_iald {n : Nat} {j : Int} (hd : (tb M)[k]? = some (pc, .iaload, 1, np, tg)) (ho : ko t = none) (hk : ka t = some (0, n)) (h0 : 0 ≤ j) (h1 : j < n) (kk : AW M P np lv (vi (h t i j.toNat) :: st) h) : AW M P pc lv (vi j :: vr t i :: st) h := by
  intro l p e s m args below meth c G A C hl hs hw H locs ls hP hD hS hv
  obtain ⟨d1, rfl, d3, d4⟩ := ok_at C.2.2.2.2.2.2.2.2.1 hd
  obtain ⟨r0, hs⟩ := rg_c hs
  obtain ⟨r1, hs⟩ := rg_c hs
  have r1 : vt t i := r1
  obtain ⟨k0, q1, q2⟩ := ws_at (G := G) (h := h) r1
  rw [ce_i ho hk (Nat.zero_le 1)] at q2
  refine va_iald C.1 C.2.1 C.2.2.2.2.2.2.2.1.1 hP k0 0 q2 rfl (in_of r0 h0 h1) d1 ?_
  rw [clamp3 r0]
  exact kk l p e s m args below meth c G A C hl (rg_k (hw t i _) hs) hw H locs ls hP hD hS hv
theorem a_bald {n : Nat} {j : Int} (hd : (tb M)[k]? = some (pc, .baload, 1, np, tg)) (ho : ko t = none) (hk : ka t = some (1, n)) (h0 : 0 ≤ j) (h1 : j < n) (kk : AW M P np lv (vi (h t i j.toNat) :: st) h) : AW M P pc lv (vi j :: vr t i :: st) h := by
  intro l p e s m args below meth c G A C hl hs hw H locs ls hP hD hS hv
  obtain ⟨d1, rfl, d3, d4⟩ := ok_at C.2.2.2.2.2.2.2.2.1 hd
  obtain ⟨r0, hs⟩ := rg_c hs
  obtain ⟨r1, hs⟩ := rg_c hs
  have r1 : vt t i := r1
  obtain ⟨k0, q1, q2⟩ := ws_at (G := G) (h := h) r1
  rw [ce_i ho hk (Nat.le_refl 1)] at q2
  refine va_bald C.1 C.2.1 C.2.2.2.2.2.2.2.1.1 hP k0 1 q2 rfl (in_of r0 h0 h1) d1 ?_
  rw [clamp3 r0]
  exact kk l p e s m args below meth c G A C hl (rg_k (hw t i _) hs) hw H locs ls hP hD hS hv
theorem a_iast {n : Nat} {j a : Int} (hd : (tb M)[k]? = some (pc, .iastore, 1, np, tg)) (ho : ko t = none) (hk : ka t = some (0, n)) (h0 : 0 ≤ j) (h1 : j < n) (kk : AW M P np lv st (put h t i j.toNat a)) : AW M P pc lv (vi a :: vi j :: vr t i :: st) h := by
  intro l p e s m args below meth c G A C hl hs hw H locs ls hP hD hS hv
  obtain ⟨d1, rfl, d3, d4⟩ := ok_at C.2.2.2.2.2.2.2.2.1 hd
  obtain ⟨ra, hs⟩ := rg_c hs
  obtain ⟨r0, hs⟩ := rg_c hs
  obtain ⟨r1, hs⟩ := rg_c hs
  have r1 : vt t i := r1
  obtain ⟨k0, q1, q2⟩ := ws_at (G := G) (h := h) r1
  rw [ce_i ho hk (Nat.zero_le 1)] at q2
  refine va_iast C.1 C.2.1 C.2.2.2.2.2.2.2.1.1 hP hD hS k0 0 q2 rfl (in_of r0 h0 h1) d1 (fun H1 locs1 hP1 hD1 hS1 => ?_)
  rw [clamp3 r0, ← ce_putA (G := G) (h := h) (x := a) ho hk (Nat.zero_le 1), ws_set hD q1 (put_oc h t i _ a)] at hP1 hD1
  exact kk l p e s m args below meth c G A C hl hs (put_wf hw ra) H1 locs1 ls hP1 hD1 hS1 hv
theorem a_bast {n : Nat} {j a : Int} (hd : (tb M)[k]? = some (pc, .bastore, 1, np, tg)) (ho : ko t = none) (hk : ka t = some (1, n)) (h0 : 0 ≤ j) (h1 : j < n) (kk : AW M P np lv st (put h t i j.toNat (sb a))) : AW M P pc lv (vi a :: vi j :: vr t i :: st) h := by
  intro l p e s m args below meth c G A C hl hs hw H locs ls hP hD hS hv
  obtain ⟨d1, rfl, d3, d4⟩ := ok_at C.2.2.2.2.2.2.2.2.1 hd
  obtain ⟨ra, hs⟩ := rg_c hs
  obtain ⟨r0, hs⟩ := rg_c hs
  obtain ⟨r1, hs⟩ := rg_c hs
  have r1 : vt t i := r1
  obtain ⟨k0, q1, q2⟩ := ws_at (G := G) (h := h) r1
  rw [ce_i ho hk (Nat.le_refl 1)] at q2
  refine va_bast C.1 C.2.1 C.2.2.2.2.2.2.2.1.1 hP hD hS k0 1 q2 rfl (in_of r0 h0 h1) d1 (fun H1 locs1 hP1 hD1 hS1 => ?_)
  rw [clamp3 r0, vp_nar_byte, ← cv_sb, ← ce_putA (G := G) (h := h) (x := sb a) ho hk (Nat.le_refl 1), ws_set hD q1 (put_oc h t i _ (sb a))] at hP1 hD1
  exact kk l p e s m args below meth c G A C hl hs (put_wf hw (i3_of _)) H1 locs1 ls hP1 hD1 hS1 hv
theorem a_alen {a n : Nat} (hd : (tb M)[k]? = some (pc, .arraylength, 1, np, tg)) (ho : ko t = none) (hk : ka t = some (a, n)) (ha : a ≤ 4) (hn : n < 65536) (kk : AW M P np lv (vi (n : Int) :: st) h) : AW M P pc lv (vr t i :: st) h := by
  intro l p e s m args below meth c G A C hl hs hw H locs ls hP hD hS hv
  obtain ⟨d1, rfl, d3, d4⟩ := ok_at C.2.2.2.2.2.2.2.2.1 hd
  obtain ⟨r1, hs⟩ := rg_c hs
  have r1 : vt t i := r1
  obtain ⟨k0, q1, q2⟩ := ws_at (G := G) (h := h) r1
  obtain ⟨ty, hty⟩ := tk_at (G := G) ha
  have z := kk l p e s m args below meth c G A C hl (rg_k (show I3 n by unfold I3; omega) hs) hw H locs ls hP hD hS hv
  by_cases h1 : a ≤ 1
  · rw [ce_i ho hk h1] at q2
    exact va_alen (v := Int32.ofInt (n : Int)) C.1 C.2.1 C.2.2.2.2.2.2.2.1.1 hP k0 a q2 hty rfl d1 z
  · rw [ce_q ho hk h1] at q2
    exact va_alen (v := Int32.ofInt (n : Int)) C.1 C.2.1 C.2.2.2.2.2.2.2.1.1 hP k0 a q2 hty rfl d1 z
theorem a_aald {a n t' i' : Nat} {j : Int} (hd : (tb M)[k]? = some (pc, .aaload, 1, np, tg)) (ho : ko t = none) (hk : ka t = some (a, n)) (ha : a = 2 ∨ a = 3 ∨ a = 4) (h0 : 0 ≤ j) (h1 : j < n) (hr : rf t i j.toNat = some (t', i')) (kk : AW M P np lv (vr t' i' :: st) h) : AW M P pc lv (vi j :: vr t i :: st) h := by
  intro l p e s m args below meth c G A C hl hs hw H locs ls hP hD hS hv
  obtain ⟨d1, rfl, d3, d4⟩ := ok_at C.2.2.2.2.2.2.2.2.1 hd
  obtain ⟨r0, hs⟩ := rg_c hs
  obtain ⟨r1, hs⟩ := rg_c hs
  have r1 : vt t i := r1
  have z := kk l p e s m args below meth c G A C hl (rg_k (rf_vt r1 (fun an h9 => by rw [hk] at h9; cases h9; dsimp only; omega) hr) hs) hw H locs ls hP hD hS hv
  obtain ⟨k0, q1, q2⟩ := ws_at (G := G) (h := h) r1
  rw [ce_q ho hk (by omega)] at q2
  have hlt : (Int32.ofInt j).toNatClampNeg < n := by rw [clamp3 r0]; omega
  have hin := in_of r0 h0 h1
  rcases ha with rfl | rfl | rfl
  · refine va_aldq C.1 C.2.1 C.2.2.2.2.2.2.2.1.1 hP k0 2 q2 rfl hin d1 ?_
    rw [clamp3 r0, hr]
    exact z
  · refine va_aldq C.1 C.2.1 C.2.2.2.2.2.2.2.1.1 hP k0 3 q2 rfl hin d1 ?_
    rw [clamp3 r0, hr]
    exact z
  · refine W.aald (v := va_rf ((fun k => (rf t i k).map fun q => G.2.2 q.1 q.2) (Int32.ofInt j).toNatClampNeg)) (ty := .array .int) C.1 C.2.1 (hP k0 _ q2) ((C.2.2.2.2.2.2.2.1.1.2 4 _ rfl).1 n (fun j => va_rf ((rf t i j).map fun q => G.2.2 q.1 q.2))) rfl (fun q => by cases q) (by show ¬ (_ < 0 ∨ (arrV _ _ _).slots.size ≤ _); rw [arrV_size]; exact hin) (by show (arrV _ _ _).slots[_]? = _; rw [arrV_read _ _ hlt]) rfl rfl d1 ?_
    dsimp only
    rw [clamp3 r0, hr]
    exact z
theorem a_ireturn {a : Int} (hd : (tb M)[k]? = some (pc, .ireturn, 1, np, tg)) (hr : M.2.2.2.1 = some .int) (hp : P (some (vi a)) h) : AW M P pc lv [vi a] h := by
  intro l p e s m args below meth c G A C hl hs hw H locs ls hP hD hS hv
  obtain ⟨d1, rfl, d3, d4⟩ := ok_at C.2.2.2.2.2.2.2.2.1 hd
  exact W.iret (v := Int32.ofInt a) C.1 C.2.1 (C.2.2.1.trans hr) (fun t ht hW => ⟨⟨some (vi a), h, rfl, hp, fun v hv => by cases hv; exact (rg_c hs).1, hw, by rw [ht]; exact hP, C.2.2.2.2.2.2.2.1.warm hW, hD⟩, hS.F ht⟩) hS.2.2 d1 C.2.2.2.2.2.2.1
theorem a_zreturn {a : Int} (hd : (tb M)[k]? = some (pc, .ireturn, 1, np, tg)) (hr : M.2.2.2.1 = some .boolean) (hz : a = 0 ∨ a = 1) (hp : P (some (vi a)) h) : AW M P pc lv [vi a] h := by
  intro l p e s m args below meth c G A C hl hs hw H locs ls hP hD hS hv
  obtain ⟨d1, rfl, d3, d4⟩ := ok_at C.2.2.2.2.2.2.2.2.1 hd
  exact W.zret (v := Int32.ofInt a) C.1 C.2.1 (C.2.2.1.trans hr) (by rcases hz with rfl | rfl <;> rfl) (fun t ht hW => ⟨⟨some (vi a), h, rfl, hp, fun v hv => by cases hv; exact (rg_c hs).1, hw, by rw [ht]; exact hP, C.2.2.2.2.2.2.2.1.warm hW, hD⟩, hS.F ht⟩) hS.2.2 d1 C.2.2.2.2.2.2.1
theorem a_areturn {n : String} {v : AV} (hd : (tb M)[k]? = some (pc, .areturn, 1, np, tg)) (hr : M.2.2.2.1 = some (.object n)) (hvv : v = vn ∨ ∃ t i, v = vr t i) (hp : P (some v) h) : AW M P pc lv [v] h := by
  intro l p e s m args below meth c G A C hl hs hw H locs ls hP hD hS hv
  obtain ⟨d1, rfl, d3, d4⟩ := ok_at C.2.2.2.2.2.2.2.2.1 hd
  exact W.aret (v := cv G.2.2 v) C.1 C.2.1 (C.2.2.1.trans hr) (Or.inl ⟨_, rfl⟩) (hvv.elim (fun q => Or.inl (by rw [q]; rfl)) (fun ⟨t, i, q⟩ => Or.inr ⟨G.2.2 t i, by rw [q]; rfl⟩)) (fun t ht hW => ⟨⟨some v, h, rfl, hp, fun v hv => by cases hv; exact (rg_c hs).1, hw, by rw [ht]; exact hP, C.2.2.2.2.2.2.2.1.warm hW, hD⟩, hS.F ht⟩) hS.2.2 d1 C.2.2.2.2.2.2.1
theorem a_return (hd : (tb M)[k]? = some (pc, .return_, 1, np, tg)) (hr : M.2.2.2.1 = none) (hp : P none h) : AW M P pc lv [] h := by
  intro l p e s m args below meth c G A C hl hs hw H locs ls hP hD hS hv
  obtain ⟨d1, rfl, d3, d4⟩ := ok_at C.2.2.2.2.2.2.2.2.1 hd
  exact W.vret C.1 C.2.1 (C.2.2.1.trans hr) (fun t ht hW => ⟨⟨none, h, rfl, hp, fun v hv => (by cases hv), hw, by rw [ht]; exact hP, C.2.2.2.2.2.2.2.1.warm hW, hD⟩, hS.F ht⟩) hS.2.2 d1 C.2.2.2.2.2.2.1
end AWH
end
section
/-! calls -/
theorem met_pre {G : GG} {h : HH} {av : List AV} {s : State} {H : Heap} {A : Nat → Prop} (hK : WK G s) (hP : va_P G.1 vwCl (ws_ G h) H) (hD : va_D A (ws_ G h)) : FrameBlind (va_Pc (av.map (cv G.2.2)) (fun U => U.heap.size = H.size ∧ WK G U ∧ va_P G.1 vwCl (ws_ G h) U.heap ∧ va_D (fun _ => True) (ws_ G h))) ∧ ∀ U : State, U.heap = H → s.WarmedH U.vm → va_Pc (av.map (cv G.2.2)) (fun U => U.heap.size = H.size ∧ WK G U ∧ va_P G.1 vwCl (ws_ G h) U.heap ∧ va_D (fun _ => True) (ws_ G h)) (av.map (cv G.2.2)).toArray U := by
  refine ⟨fun a U g mk q => ?_, fun U hU hW => ?_⟩
  · obtain ⟨q0, q1, qK, qP, qD⟩ := q
    exact ⟨q0, q1, WK.same (s := U) (U := U.calling g mk a) rfl qK, qP, qD⟩
  · exact ⟨rfl, by rw [hU], hK.warm hW, by rw [hU]; exact hP, hD.weaken (fun _ _ _ _ => trivial)⟩
theorem call_go {M : MD} {G : GG} {A : Nat → Prop} {P' : Option AV → HH → Prop} {h : HH} {rest : List Value} {a : Array Value} {p : Program} {l : Launch} {e : Env} {s : State} {m : MethodId} {args : Array Value} {below : List Frame} {meth : Method} {c : Code} {H : Heap} {locs : List Loc} {Q : State → Prop} {pc : Nat} {ls : Array Slot} {st0 : List Value} (hA : ∀ q, s.heap.size ≤ q → A q)
    (hD : va_D A (ws_ G h)) (hS : va_S A s.heap H locs) (hr : va_Run p l e (rq M) s m args below meth c H locs 0 0 0 0 (F0 m pc ls st0) rest (QQ G P' (va_A (ws_ G h) H.size) a) (va_A (ws_ G h) H.size))
    (kk : ∀ (r : Option AV) (h' : HH) (H1 : Heap) (locs1 : List Loc), P' r h' → (∀ v ∈ r, rg v) → HW h' → va_P G.1 vwCl (ws_ G h') H1 → va_D A (ws_ G h') → va_S A s.heap H1 locs1 → W p l e (rq M) s m args below meth c H1 locs1 0 0 Q (F0 m (pc + 3) ls ((r.map (cv G.2.2)).toList ++ rest))) : W p l e (rq M) s m args below meth c H locs 0 0 Q (F0 m pc ls st0) := by
  intro T hT X
  obtain ⟨v, st₀, t, T', L, h0, X', hL, e1, e2, ⟨⟨r, h', hv, hp, hrg, hw, hP1, hK1, hD1⟩, hz, hk⟩, st⟩ := hr T hT X
  have hv : v = r.map (cv G.2.2) := by cases hv; rfl
  subst hv
  have hFA : ∀ q, va_A (ws_ G h) H.size q → A q := by
    intro q hq
    rcases hq with ⟨k, en, hq⟩ | hq
    · exact hD.2 k (q, en) hq
    · exact hA q (Nat.le_trans hS.1 hq)
  rw [h0] at hz hk
  obtain ⟨t2, a1, b1⟩ := kk r h' T'.heap (locs ++ L) hp hrg hw (by rw [e1]; exact hP1) (hD1.weaken (fun _ _ _ z => hFA _ z))
    ⟨Nat.le_trans hS.1 (by rw [e1]; exact hz), fun q h1 h2 => by rw [e1, hk q (Nat.lt_of_lt_of_le h1 hS.1) (fun z => h2 (hFA q z))]; exact hS.2.1 q h1 h2, fun q hq => by
      rcases List.mem_append.mp hq with h | h
      · exact hS.2.2 q h
      · exact hFA _ (hL q h)⟩ T' rfl X'
  exact ⟨t2, st t2 a1, b1⟩
/-- what links a call of M' at a place x of M's class -/
def rmok (M M' : MD) : Prop := (rq M').frames + 1 ≤ (rq M).frames ∧ 8 + (M'.2.2.1 + 11) + (rq M').locals ≤ (rq M).locals
def mdok (M' : MD) (n : Nat) : Prop := Cond.code M'.1 M'.2.1 M'.2.2.1 M'.2.2.2.1 ∈ lw_gd ∧ Cond.initialized M'.1.cls ∈ lw_gd ∧ M'.1.cls ≠ "java/lang/invoke/MethodHandle" ∧ M'.1.cls ≠ "java/lang/invoke/VarHandle" ∧ (parseMethodDescriptor M'.1.desc).map (fun d => d.parameters.length) = some n
def mvok (M' : MD) : Prop := Cond.instanceMethod M'.1 ∈ lw_gd ∧ Cond.selects M'.1.cls M'.1 M'.1 ∈ lw_gd
theorem good_wq {M' : MD} {n : Nat} (h : mdok M' n) : GoodIn lw_gd (wq M') := fun w hw => by
  rcases List.mem_cons.mp hw with rfl | hw
  · exact gd_good _ h.1
  · exact gd_good _ hw
theorem cat_sum (ad : Nat → Nat → Nat) : ∀ st : List AV, (((st.map (cv ad)).map fun v => v.category).sum) = aw_ st
  | [] => rfl
  | .inl a :: st => by
    show 1 + ((st.map (cv ad)).map fun v => v.category).sum = 1 + aw_ st
    rw [cat_sum ad st]
  | .inr (.inl a) :: st => by
    show 2 + ((st.map (cv ad)).map fun v => v.category).sum = 2 + aw_ st
    rw [cat_sum ad st]
  | .inr (.inr (some q)) :: st => by
    show 1 + ((st.map (cv ad)).map fun v => v.category).sum = 1 + aw_ st
    rw [cat_sum ad st]
  | .inr (.inr none) :: st => by
    show 1 + ((st.map (cv ad)).map fun v => v.category).sum = 1 + aw_ st
    rw [cat_sum ad st]
theorem rg_app {r : Option AV} {st : List AV} (h1 : ∀ v ∈ r, rg v) (h2 : ∀ v ∈ st, rg v) : ∀ v ∈ r.toList ++ st, rg v := fun v hv => by
  rcases List.mem_append.mp hv with h | h
  · exact h1 v (Option.mem_toList.mp h)
  · exact h2 v h
theorem opt_cv (ad : Nat → Nat → Nat) (r : Option AV) (st : List AV) : (r.map (cv ad)).toList ++ st.map (cv ad) = (r.toList ++ st).map (cv ad) := by
  cases r <;> rfl
section AWC
variable {M M' : MD} {P P' : Option AV → HH → Prop} {lv : LV} {st stk : List AV} {h : HH} {k pc np tg t i x n : Nat} {as : List AV}
theorem a_virt (hd : (tb M)[k]? = some (pc, .invokevirtual x, 3, np, tg)) (hlk : Cond.methodLink M.1.cls x M'.1 ∈ lw_gd) (hm : mdok M' n) (hmv : mvok M') (hR : rmok M M') (hn : as.length = n) (ho : ((ko t).bind fun c => (vwCl[c]?).map fun q => q.1) = some M'.1.cls) (hst : stk = as.reverse ++ vr t i :: st) (hwd : aw_ st ≤ 8) (hSp : Sp M' (vr t i :: as) h P') (kk : ∀ r h', P' r h' → AW M P np lv (r.toList ++ st) h') : AW M P pc lv stk h := by
  intro l p e s m args below meth c G A C hl hs hw H locs ls hP hD hS hv
  obtain ⟨d1, rfl, d3, d4⟩ := ok_at C.2.2.2.2.2.2.2.2.1 hd
  subst hst
  have hs1 : ∀ v ∈ st, rg v := fun v h9 => hs v (List.mem_append_right _ (List.mem_cons_of_mem _ h9))
  have r1 : vt t i := hs (vr t i) (List.mem_append_right _ List.mem_cons_self)
  have hsa : ∀ v ∈ vr t i :: as, rg v := fun v h9 => by
    rcases List.mem_cons.mp h9 with rfl | h9
    · exact r1
    · exact hs v (List.mem_append_left _ (List.mem_reverse.mpr h9))
  obtain ⟨k0, q1, q2⟩ := ws_at (G := G) (h := h) r1
  have hts : ∀ w ∈ lw_gd, w.before args s = true := fun w hw => C.2.2.2.2.2.1 w (List.mem_cons_of_mem _ hw)
  obtain ⟨pre1, pre2⟩ := met_pre (av := vr t i :: as) C.2.2.2.2.2.2.2.1 hP hD
  have hGI : GoodIn lw_gd (wsV M.1.cls x M'.1.cls M'.1 (wq M')) := fun w hw9 => by
    unfold wsV at hw9
    rcases List.mem_append.mp hw9 with h9 | h9
    · simp only [List.mem_cons, List.not_mem_nil, or_false] at h9
      rcases h9 with rfl | rfl | rfl | rfl
      · exact gd_good _ hlk
      · exact gd_good _ hmv.1
      · exact gd_good _ hmv.2
      · exact gd_good _ hm.2.1
    · exact good_wq hm w h9
  have hrecv : ∃ cellB : Cell, H[G.2.2 t i]? = some cellB ∧ cellB.vm.isStatics = false ∧ s.vm.findClass M'.1.cls = some cellB.cls := by
    cases hko : ko t with
    | none => rw [hko] at ho; cases ho
    | some ci =>
      rw [hko] at ho
      cases hq : vwCl[ci]? with
      | none => simp [hq] at ho
      | some q =>
        simp only [hq, Option.bind_some, Option.map_some, Option.some.injEq] at ho
        rw [ce_o hko] at q2
        rw [← ho]
        exact va_recv C.2.2.2.2.2.2.2.1.1 hP hq q2
  refine call_go (st0 := (as.reverse ++ vr t i :: st).map (cv G.2.2)) (rest := st.map (cv G.2.2)) C.2.2.2.2.2.2.2.2.2 hD hS (va_runV (C := M'.1.cls) (b := G.2.2 t i) (As := as.map (cv G.2.2)) (rest := st.map (cv G.2.2)) (nL := M.2.2.1) ⟨C.1, C.2.1, C.2.2.2.1, C.2.2.2.2.1, hts⟩ (hSp hsa hw l G H.size) (cwV n hts hGI rfl rfl rfl ⟨rfl, hm.2.2⟩ hR) ⟨pre1, hrecv, pre2⟩ rfl (by rw [List.length_map]; exact hn) hv.1 (by simp [vr, cv]) (by show 2 * 0 + _ ≤ 8; rw [cat_sum]; omega) d1 ⟨Nat.le_refl 0, Nat.le_refl 0⟩) ?_
  intro r h' H1 locs1 hp hrg hw' hP1 hD1 hS1
  rw [opt_cv]
  exact kk r h' hp l p e s m args below meth c G A C hl (rg_app hrg hs1) hw' H1 locs1 ls hP1 hD1 hS1 hv
theorem a_stat0 (hG : ∀ {s : State} {args : Array Value}, (∀ w ∈ lw_gd, w.before args s = true) → CallB (rq M) s args M.1.cls x M'.1 M'.2.1 M'.2.2.1 M'.2.2.2.1 (wq M') (rq M') 0 0 n ∧ (Cond.static M'.1).before args s = true) (hd : (tb M)[k]? = some (pc, .invokestatic x, 3, np, tg)) (hn : as.length = n) (hst : stk = as.reverse ++ st) (hwd : aw_ st ≤ 8) (hSp : Sp M' as h P') (kk : ∀ r h', P' r h' → AW M P np lv (r.toList ++ st) h') : AW M P pc lv stk h := by
  intro l p e s m args below meth c G A C hl hs hw H locs ls hP hD hS hv
  obtain ⟨d1, rfl, d3, d4⟩ := ok_at C.2.2.2.2.2.2.2.2.1 hd
  subst hst
  have hs1 : ∀ v ∈ st, rg v := fun v h9 => hs v (List.mem_append_right _ h9)
  have hsa : ∀ v ∈ as, rg v := fun v h9 => hs v (List.mem_append_left _ (List.mem_reverse.mpr h9))
  have hts : ∀ w ∈ lw_gd, w.before args s = true := fun w hw => C.2.2.2.2.2.1 w (List.mem_cons_of_mem _ hw)
  have pre := met_pre (av := as) C.2.2.2.2.2.2.2.1 hP hD
  refine call_go (st0 := (as.reverse ++ st).map (cv G.2.2)) (rest := st.map (cv G.2.2)) C.2.2.2.2.2.2.2.2.2 hD hS (va_runS (As := as.map (cv G.2.2)) (rest := st.map (cv G.2.2)) (nL := M.2.2.1) ⟨C.1, C.2.1, C.2.2.2.1, C.2.2.2.2.1, hts⟩ (hSp hsa hw l G H.size) (hG hts) pre rfl (by rw [List.length_map]; exact hn) hv.1 (by simp) (by show 2 * 0 + _ ≤ 8; rw [cat_sum]; omega) d1 ⟨Nat.le_refl 0, Nat.le_refl 0⟩) ?_
  intro r h' H1 locs1 hp hrg hw' hP1 hD1 hS1
  rw [opt_cv]
  exact kk r h' hp l p e s m args below meth c G A C hl (rg_app hrg hs1) hw' H1 locs1 ls hP1 hD1 hS1 hv
theorem a_stat (hd : (tb M)[k]? = some (pc, .invokestatic x, 3, np, tg)) (hlk : Cond.methodLink M.1.cls x M'.1 ∈ lw_gd) (hm : mdok M' n) (hms : Cond.static M'.1 ∈ lw_gd) (hR : rmok M M') (hn : as.length = n) (hst : stk = as.reverse ++ st) (hwd : aw_ st ≤ 8) (hSp : Sp M' as h P') (kk : ∀ r h', P' r h' → AW M P np lv (r.toList ++ st) h') : AW M P pc lv stk h := by
  refine a_stat0 (n := n) (fun hts => va_cwS n hts ?_ rfl rfl rfl hm.2.2 hR) hd hn hst hwd hSp kk
  intro w hw9
  unfold va_wsS at hw9
  rcases List.mem_append.mp hw9 with h9 | h9
  · simp only [List.mem_cons, List.not_mem_nil, or_false] at h9
    rcases h9 with rfl | rfl | rfl
    · exact gd_good _ hlk
    · exact gd_good _ hms
    · exact gd_good _ hm.2.1
  · exact good_wq hm w h9
/-- a nest mate's private static method -/
theorem a_statN {host : String} (hd : (tb M)[k]? = some (pc, .invokestatic x, 3, np, tg)) (hlk : Cond.methodLinkNest M.1.cls x M'.1 host ∈ nw_all) (hm : mdok M' n) (hms : Cond.static M'.1 ∈ lw_gd) (hR : rmok M M') (hn : as.length = n) (hst : stk = as.reverse ++ st) (hwd : aw_ st ≤ 8) (hSp : Sp M' as h P') (kk : ∀ r h', P' r h' → AW M P np lv (r.toList ++ st) h') : AW M P pc lv stk h := by
  intro l p e s m args below meth c G A C hl hs hw H locs ls hP hD hS hv
  obtain ⟨d1, rfl, d3, d4⟩ := ok_at C.2.2.2.2.2.2.2.2.1 hd
  subst hst
  have hs1 : ∀ v ∈ st, rg v := fun v h9 => hs v (List.mem_append_right _ h9)
  have hsa : ∀ v ∈ as, rg v := fun v h9 => hs v (List.mem_append_left _ (List.mem_reverse.mpr h9))
  have hts : ∀ w ∈ lw_gd, w.before args s = true := fun w hw => C.2.2.2.2.2.1 w (List.mem_cons_of_mem _ hw)
  have pre := met_pre (av := as) C.2.2.2.2.2.2.2.1 hP hD
  refine call_go (st0 := (as.reverse ++ st).map (cv G.2.2)) (rest := st.map (cv G.2.2)) C.2.2.2.2.2.2.2.2.2 hD hS (va_runSN (host := host) (As := as.map (cv G.2.2)) (rest := st.map (cv G.2.2)) (nL := M.2.2.1) ⟨C.1, C.2.1, C.2.2.2.1, C.2.2.2.2.1, hts⟩ (hSp hsa hw l G H.size) ⟨va_cnB n hts (good_wq hm) rfl rfl rfl (C.2.2.2.2.2.2.2.1.2 _ hlk) (hts _ hm.2.1) hm.2.2 hR, hts _ hms, trivial⟩ pre rfl (by rw [List.length_map]; exact hn) hv.1 (by simp) (by show 2 * 0 + _ ≤ 8; rw [cat_sum]; omega) d1 ⟨Nat.le_refl 0, Nat.le_refl 0⟩) ?_
  intro r h' H1 locs1 hp hrg hw' hP1 hD1 hS1
  rw [opt_cv]
  exact kk r h' hp l p e s m args below meth c G A C hl (rg_app hrg hs1) hw' H1 locs1 ls hP1 hD1 hS1 hv
end AWC
theorem Sp.weak {M : MD} {av : List AV} {h : HH} {P P' : Option AV → HH → Prop} (hS : Sp M av h P) (hw : ∀ r h', P r h' → P' r h') : Sp M av h P' := by
  intro hr hh l G sz
  have hM := hS hr hh l G sz
  intro p e ha hc hk s m args below hf hA hP hK
  obtain ⟨k, o, h1, h2, h3, ⟨⟨⟨r, h', e1, e2, e3⟩, hF⟩, hL⟩⟩ := hM p e ha hc hk s m args below hf hA hP hK
  exact ⟨k, o, h1, h2, h3, ⟨⟨⟨r, h', e1, hw r h' e2, e3⟩, hF⟩, hL⟩⟩
end
section
/-! rules for use: locals by number, sums without overflow -/
def lk : LV → Nat → Option AV
  | [], _ => none
  | q :: l, x => match Nat.beq q.1 x with
    | true => some q.2
    | false => lk l x
theorem lk_at : ∀ {lv : LV} {x : Nat} {v : AV}, lk lv x = some v → ∃ j : Nat, lv[j]? = some (x, v)
  | [], x, v, h => by cases h
  | q :: l, x, v, h => by
    unfold lk at h
    split at h
    · rename_i hq
      cases h
      exact ⟨0, by rw [← Nat.eq_of_beq_eq_true hq]; rfl⟩
    · obtain ⟨j, hj⟩ := lk_at h
      exact ⟨j + 1, hj⟩
theorem w3_id {a : Int} (h1 : -2147483648 ≤ a) (h2 : a < 2147483648) : w3 a = a := to3 ⟨h1, h2⟩
theorem w6_id {a : Int} (h1 : -9223372036854775808 ≤ a) (h2 : a < 9223372036854775808) : w6 a = a := to6 ⟨h1, h2⟩
theorem iq_pos {a b : Int} (h1 : 0 ≤ a) (h2 : a < 2147483648) (h3 : 0 < b) : iq a b = a / b := by
  have h4 : 0 ≤ a / b := Int.ediv_nonneg h1 (Int.le_of_lt h3)
  have h5 : a / b ≤ a := Int.ediv_le_self b h1
  rw [iq, Int.tdiv_eq_ediv_of_nonneg h1, w3_id (by omega) (by omega)]
theorem ir_pos {a b : Int} (h1 : 0 ≤ a) (h2 : a < 2147483648) (h3 : 0 < b) : ir a b = a % b := by
  have h4 : 0 ≤ a % b := Int.emod_nonneg a (by omega)
  have h5 : a % b ≤ a := by
    have := Int.emod_add_mul_ediv a b
    have h6 : 0 ≤ b * (a / b) := Int.mul_nonneg (Int.le_of_lt h3) (Int.ediv_nonneg h1 (Int.le_of_lt h3))
    omega
  rw [ir, Int.tmod_eq_emod_of_nonneg h1, w3_id (by omega) (by omega)]
section AWU
variable {M M' : MD} {P P' : Option AV → HH → Prop} {lv lv' : LV} {st stk : List AV} {h h' : HH} {k pc np tg t i x n : Nat} {as : List AV} {R : Option AV}

theorem u_iloadn {a : Int} {x : Fin 4} (hd : (tb M)[k]? = some (pc, .iload_n x, 1, np, tg)) (hj : lk lv x.val = some (vi a)) (kk : AW M P np lv (vi a :: st) h) : AW M P pc lv st h := by
  obtain ⟨j, hj⟩ := lk_at hj
  exact a_iloadn j hd hj kk
theorem u_iload {a : Int} (hd : (tb M)[k]? = some (pc, .iload x, 2, np, tg)) (hj : lk lv x = some (vi a)) (kk : AW M P np lv (vi a :: st) h) : AW M P pc lv st h := by
  obtain ⟨j, hj⟩ := lk_at hj
  exact a_iload j hd hj kk

theorem u_lloadn {a : Int} {x : Fin 4} (hd : (tb M)[k]? = some (pc, .lload_n x, 1, np, tg)) (hj : lk lv x.val = some (vl a)) (kk : AW M P np lv (vl a :: st) h) : AW M P pc lv st h := by
  obtain ⟨j, hj⟩ := lk_at hj
  exact a_lloadn j hd hj kk
theorem u_lload {a : Int} (hd : (tb M)[k]? = some (pc, .lload x, 2, np, tg)) (hj : lk lv x = some (vl a)) (kk : AW M P np lv (vl a :: st) h) : AW M P pc lv st h := by
  obtain ⟨j, hj⟩ := lk_at hj
  exact a_lload j hd hj kk

theorem u_aloadn {x : Fin 4} (hd : (tb M)[k]? = some (pc, .aload_n x, 1, np, tg)) (hj : lk lv x.val = some (vr t i)) (kk : AW M P np lv (vr t i :: st) h) : AW M P pc lv st h := by
  obtain ⟨j, hj⟩ := lk_at hj
  exact a_aloadn j hd hj kk
theorem u_aload (hd : (tb M)[k]? = some (pc, .aload x, 2, np, tg)) (hj : lk lv x = some (vr t i)) (kk : AW M P np lv (vr t i :: st) h) : AW M P pc lv st h := by
  obtain ⟨j, hj⟩ := lk_at hj
  exact a_aload j hd hj kk

theorem u_iinc {a n : Int} (hd : (tb M)[k]? = some (pc, .iinc x n, 3, np, tg)) (hj : lk lv x = some (vi a)) (hn : x < M.2.2.1) (hr : -2147483648 ≤ a + n ∧ a + n < 2147483648) (hl' : s1 lv x (vi (a + n)) = lv') (kk : AW M P np lv' st h) : AW M P pc lv st h := by
  obtain ⟨j, hj⟩ := lk_at hj
  exact a_iinc j hd hj hn (by rw [ia, w3_id hr.1 hr.2]; exact hl') kk

theorem u_iadd {a b : Int} (hd : (tb M)[k]? = some (pc, .iadd, 1, np, tg)) (hr : -2147483648 ≤ a + b ∧ a + b < 2147483648) (kk : AW M P np lv (vi (a + b) :: st) h) : AW M P pc lv (vi b :: vi a :: st) h := a_iadd hd (by rw [ia, w3_id hr.1 hr.2]; exact kk)

theorem u_isub {a b : Int} (hd : (tb M)[k]? = some (pc, .isub, 1, np, tg)) (hr : -2147483648 ≤ a - b ∧ a - b < 2147483648) (kk : AW M P np lv (vi (a - b) :: st) h) : AW M P pc lv (vi b :: vi a :: st) h := a_isub hd (by rw [ib, w3_id hr.1 hr.2]; exact kk)

theorem u_imul {a b : Int} (hd : (tb M)[k]? = some (pc, .imul, 1, np, tg)) (hr : -2147483648 ≤ a * b ∧ a * b < 2147483648) (kk : AW M P np lv (vi (a * b) :: st) h) : AW M P pc lv (vi b :: vi a :: st) h := a_imul hd (by rw [im, w3_id hr.1 hr.2]; exact kk)

theorem u_idiv {a b : Int} (hd : (tb M)[k]? = some (pc, .idiv, 1, np, tg)) (h1 : 0 ≤ a) (h3 : 0 < b) (kk : AW M P np lv (vi (a / b) :: st) h) : AW M P pc lv (vi b :: vi a :: st) h := a_know fun hl hs hw => a_idiv hd (by omega) (by rw [iq_pos h1 (hs (vi a) (by simp)).2 h3]; exact kk)
theorem u_irem {a b : Int} (hd : (tb M)[k]? = some (pc, .irem, 1, np, tg)) (h1 : 0 ≤ a) (h3 : 0 < b) (kk : AW M P np lv (vi (a % b) :: st) h) : AW M P pc lv (vi b :: vi a :: st) h := a_know fun hl hs hw => a_irem hd (by omega) (by rw [ir_pos h1 (hs (vi a) (by simp)).2 h3]; exact kk)
theorem u_iald {n j : Nat} (hd : (tb M)[k]? = some (pc, .iaload, 1, np, tg)) (ho : ko t = none) (hk : ka t = some (0, n)) (h1 : j < n) (kk : AW M P np lv (vi (h t i j) :: st) h) : AW M P pc lv (vi (j : Int) :: vr t i :: st) h := a_iald hd ho hk (by omega) (by omega) kk
theorem u_ialdx {n : Nat} {z : Int} (j : Nat) (hd : (tb M)[k]? = some (pc, .iaload, 1, np, tg)) (ho : ko t = none) (hk : ka t = some (0, n)) (hz : z = j) (h1 : j < n) (kk : AW M P np lv (vi (h t i j) :: st) h) : AW M P pc lv (vi z :: vr t i :: st) h := by
  subst hz; exact u_iald hd ho hk h1 kk
theorem u_iast {n j : Nat} {a : Int} (hd : (tb M)[k]? = some (pc, .iastore, 1, np, tg)) (ho : ko t = none) (hk : ka t = some (0, n)) (h1 : j < n) (kk : AW M P np lv st (put h t i j a)) : AW M P pc lv (vi a :: vi (j : Int) :: vr t i :: st) h := a_iast hd ho hk (by omega) (by omega) kk
theorem u_iastx {n : Nat} {z a : Int} (j : Nat) (hd : (tb M)[k]? = some (pc, .iastore, 1, np, tg)) (ho : ko t = none) (hk : ka t = some (0, n)) (hz : z = j) (h1 : j < n) (kk : AW M P np lv st (put h t i j a)) : AW M P pc lv (vi a :: vi z :: vr t i :: st) h := by
  subst hz; exact u_iast hd ho hk h1 kk
theorem u_bald {n j : Nat} (hd : (tb M)[k]? = some (pc, .baload, 1, np, tg)) (ho : ko t = none) (hk : ka t = some (1, n)) (h1 : j < n) (kk : AW M P np lv (vi (h t i j) :: st) h) : AW M P pc lv (vi (j : Int) :: vr t i :: st) h := a_bald hd ho hk (by omega) (by omega) kk
theorem u_bast {n j : Nat} {a : Int} (hd : (tb M)[k]? = some (pc, .bastore, 1, np, tg)) (ho : ko t = none) (hk : ka t = some (1, n)) (h1 : j < n) (kk : AW M P np lv st (put h t i j (sb a))) : AW M P pc lv (vi a :: vi (j : Int) :: vr t i :: st) h := a_bast hd ho hk (by omega) (by omega) kk
theorem u_aald {a n t' i' j : Nat} (hd : (tb M)[k]? = some (pc, .aaload, 1, np, tg)) (ho : ko t = none) (hk : ka t = some (a, n)) (ha : a = 2 ∨ a = 3 ∨ a = 4) (h1 : j < n) (hr : rf t i j = some (t', i')) (kk : AW M P np lv (vr t' i' :: st) h) : AW M P pc lv (vi (j : Int) :: vr t i :: st) h := a_aald hd ho hk ha (by omega) (by omega) hr kk
theorem u_aaldx {a n t' i' : Nat} {z : Int} (j : Nat) (hd : (tb M)[k]? = some (pc, .aaload, 1, np, tg)) (ho : ko t = none) (hk : ka t = some (a, n)) (ha : a = 2 ∨ a = 3 ∨ a = 4) (hz : z = j) (h1 : j < n) (hr : rf t i j = some (t', i')) (kk : AW M P np lv (vr t' i' :: st) h) : AW M P pc lv (vi z :: vr t i :: st) h := by
  subst hz; exact u_aald hd ho hk ha h1 hr kk
/-- a contract with one end -/
def SpE (M : MD) (av : List AV) (h : HH) (R : Option AV) (h' : HH) : Prop := Sp M av h (fun r g => r = R ∧ g = h')

theorem u_virt0 (hd : (tb M)[k]? = some (pc, .invokevirtual x, 3, np, tg)) (hlk : Cond.methodLink M.1.cls x M'.1 ∈ lw_gd) (hm : mdok M' n) (hmv : mvok M') (hR : rmok M M') (hn : 0 = n) (ho : ((ko t).bind fun c => (vwCl[c]?).map fun q => q.1) = some M'.1.cls) (hwd : aw_ st ≤ 8) (hSp : Sp M' [vr t i] h P') (kk : ∀ r h', P' r h' → AW M P np lv (r.toList ++ st) h') : AW M P pc lv (vr t i :: st) h := a_virt (as := []) hd hlk hm hmv hR hn ho rfl hwd hSp kk
theorem e_virt0 (hd : (tb M)[k]? = some (pc, .invokevirtual x, 3, np, tg)) (hlk : Cond.methodLink M.1.cls x M'.1 ∈ lw_gd) (hm : mdok M' n) (hmv : mvok M') (hR : rmok M M') (hn : 0 = n) (ho : ((ko t).bind fun c => (vwCl[c]?).map fun q => q.1) = some M'.1.cls) (hwd : aw_ st ≤ 8) (hSp : SpE M' [vr t i] h R h') (kk : AW M P np lv (R.toList ++ st) h') : AW M P pc lv (vr t i :: st) h := a_virt (as := []) hd hlk hm hmv hR hn ho rfl hwd hSp (fun r g hp => by obtain ⟨rfl, rfl⟩ := hp; exact kk)

theorem u_virt1 {x0 : AV} (hd : (tb M)[k]? = some (pc, .invokevirtual x, 3, np, tg)) (hlk : Cond.methodLink M.1.cls x M'.1 ∈ lw_gd) (hm : mdok M' n) (hmv : mvok M') (hR : rmok M M') (hn : 1 = n) (ho : ((ko t).bind fun c => (vwCl[c]?).map fun q => q.1) = some M'.1.cls) (hwd : aw_ st ≤ 8) (hSp : Sp M' [vr t i, x0] h P') (kk : ∀ r h', P' r h' → AW M P np lv (r.toList ++ st) h') : AW M P pc lv (x0 :: vr t i :: st) h := a_virt (as := [x0]) hd hlk hm hmv hR hn ho rfl hwd hSp kk
theorem e_virt1 {x0 : AV} (hd : (tb M)[k]? = some (pc, .invokevirtual x, 3, np, tg)) (hlk : Cond.methodLink M.1.cls x M'.1 ∈ lw_gd) (hm : mdok M' n) (hmv : mvok M') (hR : rmok M M') (hn : 1 = n) (ho : ((ko t).bind fun c => (vwCl[c]?).map fun q => q.1) = some M'.1.cls) (hwd : aw_ st ≤ 8) (hSp : SpE M' [vr t i, x0] h R h') (kk : AW M P np lv (R.toList ++ st) h') : AW M P pc lv (x0 :: vr t i :: st) h := a_virt (as := [x0]) hd hlk hm hmv hR hn ho rfl hwd hSp (fun r g hp => by obtain ⟨rfl, rfl⟩ := hp; exact kk)

theorem u_virt2 {x0 x1 : AV} (hd : (tb M)[k]? = some (pc, .invokevirtual x, 3, np, tg)) (hlk : Cond.methodLink M.1.cls x M'.1 ∈ lw_gd) (hm : mdok M' n) (hmv : mvok M') (hR : rmok M M') (hn : 2 = n) (ho : ((ko t).bind fun c => (vwCl[c]?).map fun q => q.1) = some M'.1.cls) (hwd : aw_ st ≤ 8) (hSp : Sp M' [vr t i, x0, x1] h P') (kk : ∀ r h', P' r h' → AW M P np lv (r.toList ++ st) h') : AW M P pc lv (x1 :: x0 :: vr t i :: st) h := a_virt (as := [x0, x1]) hd hlk hm hmv hR hn ho rfl hwd hSp kk
theorem e_virt2 {x0 x1 : AV} (hd : (tb M)[k]? = some (pc, .invokevirtual x, 3, np, tg)) (hlk : Cond.methodLink M.1.cls x M'.1 ∈ lw_gd) (hm : mdok M' n) (hmv : mvok M') (hR : rmok M M') (hn : 2 = n) (ho : ((ko t).bind fun c => (vwCl[c]?).map fun q => q.1) = some M'.1.cls) (hwd : aw_ st ≤ 8) (hSp : SpE M' [vr t i, x0, x1] h R h') (kk : AW M P np lv (R.toList ++ st) h') : AW M P pc lv (x1 :: x0 :: vr t i :: st) h := a_virt (as := [x0, x1]) hd hlk hm hmv hR hn ho rfl hwd hSp (fun r g hp => by obtain ⟨rfl, rfl⟩ := hp; exact kk)

theorem u_virt3 {x0 x1 x2 : AV} (hd : (tb M)[k]? = some (pc, .invokevirtual x, 3, np, tg)) (hlk : Cond.methodLink M.1.cls x M'.1 ∈ lw_gd) (hm : mdok M' n) (hmv : mvok M') (hR : rmok M M') (hn : 3 = n) (ho : ((ko t).bind fun c => (vwCl[c]?).map fun q => q.1) = some M'.1.cls) (hwd : aw_ st ≤ 8) (hSp : Sp M' [vr t i, x0, x1, x2] h P') (kk : ∀ r h', P' r h' → AW M P np lv (r.toList ++ st) h') : AW M P pc lv (x2 :: x1 :: x0 :: vr t i :: st) h := a_virt (as := [x0, x1, x2]) hd hlk hm hmv hR hn ho rfl hwd hSp kk
theorem e_virt3 {x0 x1 x2 : AV} (hd : (tb M)[k]? = some (pc, .invokevirtual x, 3, np, tg)) (hlk : Cond.methodLink M.1.cls x M'.1 ∈ lw_gd) (hm : mdok M' n) (hmv : mvok M') (hR : rmok M M') (hn : 3 = n) (ho : ((ko t).bind fun c => (vwCl[c]?).map fun q => q.1) = some M'.1.cls) (hwd : aw_ st ≤ 8) (hSp : SpE M' [vr t i, x0, x1, x2] h R h') (kk : AW M P np lv (R.toList ++ st) h') : AW M P pc lv (x2 :: x1 :: x0 :: vr t i :: st) h := a_virt (as := [x0, x1, x2]) hd hlk hm hmv hR hn ho rfl hwd hSp (fun r g hp => by obtain ⟨rfl, rfl⟩ := hp; exact kk)

theorem u_virt4 {x0 x1 x2 x3 : AV} (hd : (tb M)[k]? = some (pc, .invokevirtual x, 3, np, tg)) (hlk : Cond.methodLink M.1.cls x M'.1 ∈ lw_gd) (hm : mdok M' n) (hmv : mvok M') (hR : rmok M M') (hn : 4 = n) (ho : ((ko t).bind fun c => (vwCl[c]?).map fun q => q.1) = some M'.1.cls) (hwd : aw_ st ≤ 8) (hSp : Sp M' [vr t i, x0, x1, x2, x3] h P') (kk : ∀ r h', P' r h' → AW M P np lv (r.toList ++ st) h') : AW M P pc lv (x3 :: x2 :: x1 :: x0 :: vr t i :: st) h := a_virt (as := [x0, x1, x2, x3]) hd hlk hm hmv hR hn ho rfl hwd hSp kk
theorem e_virt4 {x0 x1 x2 x3 : AV} (hd : (tb M)[k]? = some (pc, .invokevirtual x, 3, np, tg)) (hlk : Cond.methodLink M.1.cls x M'.1 ∈ lw_gd) (hm : mdok M' n) (hmv : mvok M') (hR : rmok M M') (hn : 4 = n) (ho : ((ko t).bind fun c => (vwCl[c]?).map fun q => q.1) = some M'.1.cls) (hwd : aw_ st ≤ 8) (hSp : SpE M' [vr t i, x0, x1, x2, x3] h R h') (kk : AW M P np lv (R.toList ++ st) h') : AW M P pc lv (x3 :: x2 :: x1 :: x0 :: vr t i :: st) h := a_virt (as := [x0, x1, x2, x3]) hd hlk hm hmv hR hn ho rfl hwd hSp (fun r g hp => by obtain ⟨rfl, rfl⟩ := hp; exact kk)

theorem u_virt5 {x0 x1 x2 x3 x4 : AV} (hd : (tb M)[k]? = some (pc, .invokevirtual x, 3, np, tg)) (hlk : Cond.methodLink M.1.cls x M'.1 ∈ lw_gd) (hm : mdok M' n) (hmv : mvok M') (hR : rmok M M') (hn : 5 = n) (ho : ((ko t).bind fun c => (vwCl[c]?).map fun q => q.1) = some M'.1.cls) (hwd : aw_ st ≤ 8) (hSp : Sp M' [vr t i, x0, x1, x2, x3, x4] h P') (kk : ∀ r h', P' r h' → AW M P np lv (r.toList ++ st) h') : AW M P pc lv (x4 :: x3 :: x2 :: x1 :: x0 :: vr t i :: st) h := a_virt (as := [x0, x1, x2, x3, x4]) hd hlk hm hmv hR hn ho rfl hwd hSp kk
theorem e_virt5 {x0 x1 x2 x3 x4 : AV} (hd : (tb M)[k]? = some (pc, .invokevirtual x, 3, np, tg)) (hlk : Cond.methodLink M.1.cls x M'.1 ∈ lw_gd) (hm : mdok M' n) (hmv : mvok M') (hR : rmok M M') (hn : 5 = n) (ho : ((ko t).bind fun c => (vwCl[c]?).map fun q => q.1) = some M'.1.cls) (hwd : aw_ st ≤ 8) (hSp : SpE M' [vr t i, x0, x1, x2, x3, x4] h R h') (kk : AW M P np lv (R.toList ++ st) h') : AW M P pc lv (x4 :: x3 :: x2 :: x1 :: x0 :: vr t i :: st) h := a_virt (as := [x0, x1, x2, x3, x4]) hd hlk hm hmv hR hn ho rfl hwd hSp (fun r g hp => by obtain ⟨rfl, rfl⟩ := hp; exact kk)

theorem u_virt6 {x0 x1 x2 x3 x4 x5 : AV} (hd : (tb M)[k]? = some (pc, .invokevirtual x, 3, np, tg)) (hlk : Cond.methodLink M.1.cls x M'.1 ∈ lw_gd) (hm : mdok M' n) (hmv : mvok M') (hR : rmok M M') (hn : 6 = n) (ho : ((ko t).bind fun c => (vwCl[c]?).map fun q => q.1) = some M'.1.cls) (hwd : aw_ st ≤ 8) (hSp : Sp M' [vr t i, x0, x1, x2, x3, x4, x5] h P') (kk : ∀ r h', P' r h' → AW M P np lv (r.toList ++ st) h') : AW M P pc lv (x5 :: x4 :: x3 :: x2 :: x1 :: x0 :: vr t i :: st) h := a_virt (as := [x0, x1, x2, x3, x4, x5]) hd hlk hm hmv hR hn ho rfl hwd hSp kk
theorem e_virt6 {x0 x1 x2 x3 x4 x5 : AV} (hd : (tb M)[k]? = some (pc, .invokevirtual x, 3, np, tg)) (hlk : Cond.methodLink M.1.cls x M'.1 ∈ lw_gd) (hm : mdok M' n) (hmv : mvok M') (hR : rmok M M') (hn : 6 = n) (ho : ((ko t).bind fun c => (vwCl[c]?).map fun q => q.1) = some M'.1.cls) (hwd : aw_ st ≤ 8) (hSp : SpE M' [vr t i, x0, x1, x2, x3, x4, x5] h R h') (kk : AW M P np lv (R.toList ++ st) h') : AW M P pc lv (x5 :: x4 :: x3 :: x2 :: x1 :: x0 :: vr t i :: st) h := a_virt (as := [x0, x1, x2, x3, x4, x5]) hd hlk hm hmv hR hn ho rfl hwd hSp (fun r g hp => by obtain ⟨rfl, rfl⟩ := hp; exact kk)

theorem u_stat1 {x0 : AV} (hd : (tb M)[k]? = some (pc, .invokestatic x, 3, np, tg)) (hlk : Cond.methodLink M.1.cls x M'.1 ∈ lw_gd) (hm : mdok M' n) (hmv : Cond.static M'.1 ∈ lw_gd) (hR : rmok M M') (hn : 1 = n) (hwd : aw_ st ≤ 8) (hSp : Sp M' [x0] h P') (kk : ∀ r h', P' r h' → AW M P np lv (r.toList ++ st) h') : AW M P pc lv (x0 :: st) h := a_stat (as := [x0]) hd hlk hm hmv hR hn rfl hwd hSp kk
theorem e_stat1 {x0 : AV} (hd : (tb M)[k]? = some (pc, .invokestatic x, 3, np, tg)) (hlk : Cond.methodLink M.1.cls x M'.1 ∈ lw_gd) (hm : mdok M' n) (hmv : Cond.static M'.1 ∈ lw_gd) (hR : rmok M M') (hn : 1 = n) (hwd : aw_ st ≤ 8) (hSp : SpE M' [x0] h R h') (kk : AW M P np lv (R.toList ++ st) h') : AW M P pc lv (x0 :: st) h := a_stat (as := [x0]) hd hlk hm hmv hR hn rfl hwd hSp (fun r g hp => by obtain ⟨rfl, rfl⟩ := hp; exact kk)

theorem u_stat2 {x0 x1 : AV} (hd : (tb M)[k]? = some (pc, .invokestatic x, 3, np, tg)) (hlk : Cond.methodLink M.1.cls x M'.1 ∈ lw_gd) (hm : mdok M' n) (hmv : Cond.static M'.1 ∈ lw_gd) (hR : rmok M M') (hn : 2 = n) (hwd : aw_ st ≤ 8) (hSp : Sp M' [x0, x1] h P') (kk : ∀ r h', P' r h' → AW M P np lv (r.toList ++ st) h') : AW M P pc lv (x1 :: x0 :: st) h := a_stat (as := [x0, x1]) hd hlk hm hmv hR hn rfl hwd hSp kk
theorem e_stat2 {x0 x1 : AV} (hd : (tb M)[k]? = some (pc, .invokestatic x, 3, np, tg)) (hlk : Cond.methodLink M.1.cls x M'.1 ∈ lw_gd) (hm : mdok M' n) (hmv : Cond.static M'.1 ∈ lw_gd) (hR : rmok M M') (hn : 2 = n) (hwd : aw_ st ≤ 8) (hSp : SpE M' [x0, x1] h R h') (kk : AW M P np lv (R.toList ++ st) h') : AW M P pc lv (x1 :: x0 :: st) h := a_stat (as := [x0, x1]) hd hlk hm hmv hR hn rfl hwd hSp (fun r g hp => by obtain ⟨rfl, rfl⟩ := hp; exact kk)

theorem u_stat3 {x0 x1 x2 : AV} (hd : (tb M)[k]? = some (pc, .invokestatic x, 3, np, tg)) (hlk : Cond.methodLink M.1.cls x M'.1 ∈ lw_gd) (hm : mdok M' n) (hmv : Cond.static M'.1 ∈ lw_gd) (hR : rmok M M') (hn : 3 = n) (hwd : aw_ st ≤ 8) (hSp : Sp M' [x0, x1, x2] h P') (kk : ∀ r h', P' r h' → AW M P np lv (r.toList ++ st) h') : AW M P pc lv (x2 :: x1 :: x0 :: st) h := a_stat (as := [x0, x1, x2]) hd hlk hm hmv hR hn rfl hwd hSp kk
theorem e_stat3 {x0 x1 x2 : AV} (hd : (tb M)[k]? = some (pc, .invokestatic x, 3, np, tg)) (hlk : Cond.methodLink M.1.cls x M'.1 ∈ lw_gd) (hm : mdok M' n) (hmv : Cond.static M'.1 ∈ lw_gd) (hR : rmok M M') (hn : 3 = n) (hwd : aw_ st ≤ 8) (hSp : SpE M' [x0, x1, x2] h R h') (kk : AW M P np lv (R.toList ++ st) h') : AW M P pc lv (x2 :: x1 :: x0 :: st) h := a_stat (as := [x0, x1, x2]) hd hlk hm hmv hR hn rfl hwd hSp (fun r g hp => by obtain ⟨rfl, rfl⟩ := hp; exact kk)

theorem u_stat4 {x0 x1 x2 x3 : AV} (hd : (tb M)[k]? = some (pc, .invokestatic x, 3, np, tg)) (hlk : Cond.methodLink M.1.cls x M'.1 ∈ lw_gd) (hm : mdok M' n) (hmv : Cond.static M'.1 ∈ lw_gd) (hR : rmok M M') (hn : 4 = n) (hwd : aw_ st ≤ 8) (hSp : Sp M' [x0, x1, x2, x3] h P') (kk : ∀ r h', P' r h' → AW M P np lv (r.toList ++ st) h') : AW M P pc lv (x3 :: x2 :: x1 :: x0 :: st) h := a_stat (as := [x0, x1, x2, x3]) hd hlk hm hmv hR hn rfl hwd hSp kk
theorem e_stat4 {x0 x1 x2 x3 : AV} (hd : (tb M)[k]? = some (pc, .invokestatic x, 3, np, tg)) (hlk : Cond.methodLink M.1.cls x M'.1 ∈ lw_gd) (hm : mdok M' n) (hmv : Cond.static M'.1 ∈ lw_gd) (hR : rmok M M') (hn : 4 = n) (hwd : aw_ st ≤ 8) (hSp : SpE M' [x0, x1, x2, x3] h R h') (kk : AW M P np lv (R.toList ++ st) h') : AW M P pc lv (x3 :: x2 :: x1 :: x0 :: st) h := a_stat (as := [x0, x1, x2, x3]) hd hlk hm hmv hR hn rfl hwd hSp (fun r g hp => by obtain ⟨rfl, rfl⟩ := hp; exact kk)

theorem u_stat5 {x0 x1 x2 x3 x4 : AV} (hd : (tb M)[k]? = some (pc, .invokestatic x, 3, np, tg)) (hlk : Cond.methodLink M.1.cls x M'.1 ∈ lw_gd) (hm : mdok M' n) (hmv : Cond.static M'.1 ∈ lw_gd) (hR : rmok M M') (hn : 5 = n) (hwd : aw_ st ≤ 8) (hSp : Sp M' [x0, x1, x2, x3, x4] h P') (kk : ∀ r h', P' r h' → AW M P np lv (r.toList ++ st) h') : AW M P pc lv (x4 :: x3 :: x2 :: x1 :: x0 :: st) h := a_stat (as := [x0, x1, x2, x3, x4]) hd hlk hm hmv hR hn rfl hwd hSp kk
theorem e_stat5 {x0 x1 x2 x3 x4 : AV} (hd : (tb M)[k]? = some (pc, .invokestatic x, 3, np, tg)) (hlk : Cond.methodLink M.1.cls x M'.1 ∈ lw_gd) (hm : mdok M' n) (hmv : Cond.static M'.1 ∈ lw_gd) (hR : rmok M M') (hn : 5 = n) (hwd : aw_ st ≤ 8) (hSp : SpE M' [x0, x1, x2, x3, x4] h R h') (kk : AW M P np lv (R.toList ++ st) h') : AW M P pc lv (x4 :: x3 :: x2 :: x1 :: x0 :: st) h := a_stat (as := [x0, x1, x2, x3, x4]) hd hlk hm hmv hR hn rfl hwd hSp (fun r g hp => by obtain ⟨rfl, rfl⟩ := hp; exact kk)

theorem u_stat6 {x0 x1 x2 x3 x4 x5 : AV} (hd : (tb M)[k]? = some (pc, .invokestatic x, 3, np, tg)) (hlk : Cond.methodLink M.1.cls x M'.1 ∈ lw_gd) (hm : mdok M' n) (hmv : Cond.static M'.1 ∈ lw_gd) (hR : rmok M M') (hn : 6 = n) (hwd : aw_ st ≤ 8) (hSp : Sp M' [x0, x1, x2, x3, x4, x5] h P') (kk : ∀ r h', P' r h' → AW M P np lv (r.toList ++ st) h') : AW M P pc lv (x5 :: x4 :: x3 :: x2 :: x1 :: x0 :: st) h := a_stat (as := [x0, x1, x2, x3, x4, x5]) hd hlk hm hmv hR hn rfl hwd hSp kk
theorem e_stat6 {x0 x1 x2 x3 x4 x5 : AV} (hd : (tb M)[k]? = some (pc, .invokestatic x, 3, np, tg)) (hlk : Cond.methodLink M.1.cls x M'.1 ∈ lw_gd) (hm : mdok M' n) (hmv : Cond.static M'.1 ∈ lw_gd) (hR : rmok M M') (hn : 6 = n) (hwd : aw_ st ≤ 8) (hSp : SpE M' [x0, x1, x2, x3, x4, x5] h R h') (kk : AW M P np lv (R.toList ++ st) h') : AW M P pc lv (x5 :: x4 :: x3 :: x2 :: x1 :: x0 :: st) h := a_stat (as := [x0, x1, x2, x3, x4, x5]) hd hlk hm hmv hR hn rfl hwd hSp (fun r g hp => by obtain ⟨rfl, rfl⟩ := hp; exact kk)

theorem u_statN1 {x0 : AV} (hd : (tb M)[k]? = some (pc, .invokestatic x, 3, np, tg)) (hlk : Cond.methodLinkNest M.1.cls x M'.1 "PretzelProof" ∈ nw_all) (hm : mdok M' n) (hmv : Cond.static M'.1 ∈ lw_gd) (hR : rmok M M') (hn : 1 = n) (hwd : aw_ st ≤ 8) (hSp : Sp M' [x0] h P') (kk : ∀ r h', P' r h' → AW M P np lv (r.toList ++ st) h') : AW M P pc lv (x0 :: st) h := a_statN (as := [x0]) hd hlk hm hmv hR hn rfl hwd hSp kk
theorem e_statN1 {x0 : AV} (hd : (tb M)[k]? = some (pc, .invokestatic x, 3, np, tg)) (hlk : Cond.methodLinkNest M.1.cls x M'.1 "PretzelProof" ∈ nw_all) (hm : mdok M' n) (hmv : Cond.static M'.1 ∈ lw_gd) (hR : rmok M M') (hn : 1 = n) (hwd : aw_ st ≤ 8) (hSp : SpE M' [x0] h R h') (kk : AW M P np lv (R.toList ++ st) h') : AW M P pc lv (x0 :: st) h := a_statN (as := [x0]) hd hlk hm hmv hR hn rfl hwd hSp (fun r g hp => by obtain ⟨rfl, rfl⟩ := hp; exact kk)

theorem u_statN2 {x0 x1 : AV} (hd : (tb M)[k]? = some (pc, .invokestatic x, 3, np, tg)) (hlk : Cond.methodLinkNest M.1.cls x M'.1 "PretzelProof" ∈ nw_all) (hm : mdok M' n) (hmv : Cond.static M'.1 ∈ lw_gd) (hR : rmok M M') (hn : 2 = n) (hwd : aw_ st ≤ 8) (hSp : Sp M' [x0, x1] h P') (kk : ∀ r h', P' r h' → AW M P np lv (r.toList ++ st) h') : AW M P pc lv (x1 :: x0 :: st) h := a_statN (as := [x0, x1]) hd hlk hm hmv hR hn rfl hwd hSp kk
theorem e_statN2 {x0 x1 : AV} (hd : (tb M)[k]? = some (pc, .invokestatic x, 3, np, tg)) (hlk : Cond.methodLinkNest M.1.cls x M'.1 "PretzelProof" ∈ nw_all) (hm : mdok M' n) (hmv : Cond.static M'.1 ∈ lw_gd) (hR : rmok M M') (hn : 2 = n) (hwd : aw_ st ≤ 8) (hSp : SpE M' [x0, x1] h R h') (kk : AW M P np lv (R.toList ++ st) h') : AW M P pc lv (x1 :: x0 :: st) h := a_statN (as := [x0, x1]) hd hlk hm hmv hR hn rfl hwd hSp (fun r g hp => by obtain ⟨rfl, rfl⟩ := hp; exact kk)

theorem u_statN3 {x0 x1 x2 : AV} (hd : (tb M)[k]? = some (pc, .invokestatic x, 3, np, tg)) (hlk : Cond.methodLinkNest M.1.cls x M'.1 "PretzelProof" ∈ nw_all) (hm : mdok M' n) (hmv : Cond.static M'.1 ∈ lw_gd) (hR : rmok M M') (hn : 3 = n) (hwd : aw_ st ≤ 8) (hSp : Sp M' [x0, x1, x2] h P') (kk : ∀ r h', P' r h' → AW M P np lv (r.toList ++ st) h') : AW M P pc lv (x2 :: x1 :: x0 :: st) h := a_statN (as := [x0, x1, x2]) hd hlk hm hmv hR hn rfl hwd hSp kk
theorem e_statN3 {x0 x1 x2 : AV} (hd : (tb M)[k]? = some (pc, .invokestatic x, 3, np, tg)) (hlk : Cond.methodLinkNest M.1.cls x M'.1 "PretzelProof" ∈ nw_all) (hm : mdok M' n) (hmv : Cond.static M'.1 ∈ lw_gd) (hR : rmok M M') (hn : 3 = n) (hwd : aw_ st ≤ 8) (hSp : SpE M' [x0, x1, x2] h R h') (kk : AW M P np lv (R.toList ++ st) h') : AW M P pc lv (x2 :: x1 :: x0 :: st) h := a_statN (as := [x0, x1, x2]) hd hlk hm hmv hR hn rfl hwd hSp (fun r g hp => by obtain ⟨rfl, rfl⟩ := hp; exact kk)

theorem u_statN4 {x0 x1 x2 x3 : AV} (hd : (tb M)[k]? = some (pc, .invokestatic x, 3, np, tg)) (hlk : Cond.methodLinkNest M.1.cls x M'.1 "PretzelProof" ∈ nw_all) (hm : mdok M' n) (hmv : Cond.static M'.1 ∈ lw_gd) (hR : rmok M M') (hn : 4 = n) (hwd : aw_ st ≤ 8) (hSp : Sp M' [x0, x1, x2, x3] h P') (kk : ∀ r h', P' r h' → AW M P np lv (r.toList ++ st) h') : AW M P pc lv (x3 :: x2 :: x1 :: x0 :: st) h := a_statN (as := [x0, x1, x2, x3]) hd hlk hm hmv hR hn rfl hwd hSp kk
theorem e_statN4 {x0 x1 x2 x3 : AV} (hd : (tb M)[k]? = some (pc, .invokestatic x, 3, np, tg)) (hlk : Cond.methodLinkNest M.1.cls x M'.1 "PretzelProof" ∈ nw_all) (hm : mdok M' n) (hmv : Cond.static M'.1 ∈ lw_gd) (hR : rmok M M') (hn : 4 = n) (hwd : aw_ st ≤ 8) (hSp : SpE M' [x0, x1, x2, x3] h R h') (kk : AW M P np lv (R.toList ++ st) h') : AW M P pc lv (x3 :: x2 :: x1 :: x0 :: st) h := a_statN (as := [x0, x1, x2, x3]) hd hlk hm hmv hR hn rfl hwd hSp (fun r g hp => by obtain ⟨rfl, rfl⟩ := hp; exact kk)

theorem u_statN5 {x0 x1 x2 x3 x4 : AV} (hd : (tb M)[k]? = some (pc, .invokestatic x, 3, np, tg)) (hlk : Cond.methodLinkNest M.1.cls x M'.1 "PretzelProof" ∈ nw_all) (hm : mdok M' n) (hmv : Cond.static M'.1 ∈ lw_gd) (hR : rmok M M') (hn : 5 = n) (hwd : aw_ st ≤ 8) (hSp : Sp M' [x0, x1, x2, x3, x4] h P') (kk : ∀ r h', P' r h' → AW M P np lv (r.toList ++ st) h') : AW M P pc lv (x4 :: x3 :: x2 :: x1 :: x0 :: st) h := a_statN (as := [x0, x1, x2, x3, x4]) hd hlk hm hmv hR hn rfl hwd hSp kk
theorem e_statN5 {x0 x1 x2 x3 x4 : AV} (hd : (tb M)[k]? = some (pc, .invokestatic x, 3, np, tg)) (hlk : Cond.methodLinkNest M.1.cls x M'.1 "PretzelProof" ∈ nw_all) (hm : mdok M' n) (hmv : Cond.static M'.1 ∈ lw_gd) (hR : rmok M M') (hn : 5 = n) (hwd : aw_ st ≤ 8) (hSp : SpE M' [x0, x1, x2, x3, x4] h R h') (kk : AW M P np lv (R.toList ++ st) h') : AW M P pc lv (x4 :: x3 :: x2 :: x1 :: x0 :: st) h := a_statN (as := [x0, x1, x2, x3, x4]) hd hlk hm hmv hR hn rfl hwd hSp (fun r g hp => by obtain ⟨rfl, rfl⟩ := hp; exact kk)

theorem u_statN6 {x0 x1 x2 x3 x4 x5 : AV} (hd : (tb M)[k]? = some (pc, .invokestatic x, 3, np, tg)) (hlk : Cond.methodLinkNest M.1.cls x M'.1 "PretzelProof" ∈ nw_all) (hm : mdok M' n) (hmv : Cond.static M'.1 ∈ lw_gd) (hR : rmok M M') (hn : 6 = n) (hwd : aw_ st ≤ 8) (hSp : Sp M' [x0, x1, x2, x3, x4, x5] h P') (kk : ∀ r h', P' r h' → AW M P np lv (r.toList ++ st) h') : AW M P pc lv (x5 :: x4 :: x3 :: x2 :: x1 :: x0 :: st) h := a_statN (as := [x0, x1, x2, x3, x4, x5]) hd hlk hm hmv hR hn rfl hwd hSp kk
theorem e_statN6 {x0 x1 x2 x3 x4 x5 : AV} (hd : (tb M)[k]? = some (pc, .invokestatic x, 3, np, tg)) (hlk : Cond.methodLinkNest M.1.cls x M'.1 "PretzelProof" ∈ nw_all) (hm : mdok M' n) (hmv : Cond.static M'.1 ∈ lw_gd) (hR : rmok M M') (hn : 6 = n) (hwd : aw_ st ≤ 8) (hSp : SpE M' [x0, x1, x2, x3, x4, x5] h R h') (kk : AW M P np lv (R.toList ++ st) h') : AW M P pc lv (x5 :: x4 :: x3 :: x2 :: x1 :: x0 :: st) h := a_statN (as := [x0, x1, x2, x3, x4, x5]) hd hlk hm hmv hR hn rfl hwd hSp (fun r g hp => by obtain ⟨rfl, rfl⟩ := hp; exact kk)

end AWU
end
section
def mX0_addEntry : MD := (yX0_addEntry, cX0_addEntry, 3, (some .boolean), (0, 0), [(0, .aload_n 0, 1, 1, 0), (1, .getfield 18, 3, 4, 0), (4, .ifCond .lt 12, 3, 7, 16), (7, .aload_n 0, 1, 8, 0), (8, .getfield 18, 3, 11, 0), (11, .bipush 15, 2, 13, 0), (13, .if_icmp .lt 5, 3, 16, 18), (16, .iconst 0, 1, 17, 0), (17, .ireturn, 1, 18, 0), (18, .aload_n 0, 1, 19, 0), (19, .getfield 9, 3, 22, 0), (22, .aload_n 0, 1, 23, 0), (23, .getfield 18, 3, 26, 0), (26, .iload_n 1, 1, 27, 0), (27, .iastore, 1, 28, 0), (28, .aload_n 0, 1, 29, 0), (29, .getfield 15, 3, 32, 0), (32, .aload_n 0, 1, 33, 0), (33, .getfield 18, 3, 36, 0), (36, .iload_n 2, 1, 37, 0), (37, .iastore, 1, 38, 0), (38, .aload_n 0, 1, 39, 0), (39, .dup, 1, 40, 0), (40, .getfield 18, 3, 43, 0), (43, .iconst 1, 1, 44, 0), (44, .iadd, 1, 45, 0), (45, .putfield 18, 3, 48, 0), (48, .iconst 1, 1, 49, 0), (49, .ireturn, 1, 50, 0)])
theorem kX0_addEntry : okc cX0_addEntry (tb mX0_addEntry) = true := by decide +kernel
def mX9_ropeOf : MD := (yX9_ropeOf, cX9_ropeOf, 2, (some (.object "PretzelProof$Rope")), (0, 0), [(0, .iload_n 1, 1, 1, 0), (1, .ifCond .lt 25, 3, 4, 26), (4, .iload_n 1, 1, 5, 0), (5, .aload_n 0, 1, 6, 0), (6, .getfield 20, 3, 9, 0), (9, .if_icmp .ge 17, 3, 12, 26), (12, .iload_n 1, 1, 13, 0), (13, .iconst 5, 1, 14, 0), (14, .if_icmp .ge 12, 3, 17, 26), (17, .aload_n 0, 1, 18, 0), (18, .getfield 11, 3, 21, 0), (21, .iload_n 1, 1, 22, 0), (22, .aaload, 1, 23, 0), (23, .goto 4, 3, 26, 27), (26, .aconst_null, 1, 27, 0), (27, .areturn, 1, 28, 0)])
theorem kX9_ropeOf : okc cX9_ropeOf (tb mX9_ropeOf) = true := by decide +kernel
def mX0_firstWrong : MD := (yX0_firstWrong, cX0_firstWrong, 4, (some .int), (1, 21), [(0, .iconst 0, 1, 1, 0), (1, .istore_n 2, 1, 2, 0), (2, .iload_n 2, 1, 3, 0), (3, .aload_n 0, 1, 4, 0), (4, .getfield 18, 3, 7, 0), (7, .if_icmp .ge 45, 3, 10, 52), (10, .iload_n 2, 1, 11, 0), (11, .bipush 15, 2, 13, 0), (13, .if_icmp .ge 39, 3, 16, 52), (16, .aload_n 1, 1, 17, 0), (17, .aload_n 0, 1, 18, 0), (18, .getfield 9, 3, 21, 0), (21, .iload_n 2, 1, 22, 0), (22, .iaload, 1, 23, 0), (23, .invokevirtual 22, 3, 26, 0), (26, .astore_n 3, 1, 27, 0), (27, .aload_n 3, 1, 28, 0), (28, .ifnull 16, 3, 31, 44), (31, .aload_n 3, 1, 32, 0), (32, .getfield 28, 3, 35, 0), (35, .aload_n 0, 1, 36, 0), (36, .getfield 15, 3, 39, 0), (39, .iload_n 2, 1, 40, 0), (40, .iaload, 1, 41, 0), (41, .if_icmp .eq 5, 3, 44, 46), (44, .iload_n 2, 1, 45, 0), (45, .ireturn, 1, 46, 0), (46, .iinc 2 1, 3, 49, 0), (49, .goto (-47), 3, 52, 2), (52, .iconst (-1), 1, 53, 0), (53, .ireturn, 1, 54, 0)])
theorem kX0_firstWrong : okc cX0_firstWrong (tb mX0_firstWrong) = true := by decide +kernel
def mX10_leftOver : MD := (yX10_leftOver, cX10_leftOver, 2, (some .int), (0, 0), [(0, .iload_n 1, 1, 1, 0), (1, .ifCond .le 9, 3, 4, 10), (4, .iload_n 0, 1, 5, 0), (5, .iload_n 1, 1, 6, 0), (6, .irem, 1, 7, 0), (7, .goto 4, 3, 10, 11), (10, .iconst 0, 1, 11, 0), (11, .ireturn, 1, 12, 0)])
theorem kX10_leftOver : okc cX10_leftOver (tb mX10_leftOver) = true := by decide +kernel
def mX1_clearOthers : MD := (yX1_clearOthers, cX1_clearOthers, 8, none, (1, 21), [(0, .iconst 0, 1, 1, 0), (1, .istore 5, 2, 3, 0), (3, .iload 5, 2, 5, 0), (5, .iload_n 3, 1, 6, 0), (6, .if_icmp .ge 94, 3, 9, 100), (9, .iload 5, 2, 11, 0), (11, .iload_n 1, 1, 12, 0), (12, .if_icmp .ne 7, 3, 15, 19), (15, .iconst 0, 1, 16, 0), (16, .goto 15, 3, 19, 31), (19, .iload 4, 2, 21, 0), (21, .aload_n 0, 1, 22, 0), (22, .getfield 11, 3, 25, 0), (25, .iload 5, 2, 27, 0), (27, .aaload, 1, 28, 0), (28, .iload_n 2, 1, 29, 0), (29, .iaload, 1, 30, 0), (30, .isub, 1, 31, 0), (31, .istore 6, 2, 33, 0), (33, .iconst 0, 1, 34, 0), (34, .istore 7, 2, 36, 0), (36, .iload 7, 2, 38, 0), (38, .aload_n 0, 1, 39, 0), (39, .getfield 34, 3, 42, 0), (42, .if_icmp .ge 52, 3, 45, 94), (45, .iload 6, 2, 47, 0), (47, .ifCond .eq 47, 3, 50, 94), (50, .aload_n 0, 1, 51, 0), (51, .getfield 11, 3, 54, 0), (54, .iload 5, 2, 56, 0), (56, .aaload, 1, 57, 0), (57, .iload 7, 2, 59, 0), (59, .aload_n 0, 1, 60, 0), (60, .getfield 11, 3, 63, 0), (63, .iload 5, 2, 65, 0), (65, .aaload, 1, 66, 0), (66, .iload 7, 2, 68, 0), (68, .iaload, 1, 69, 0), (69, .iload 6, 2, 71, 0), (71, .aload_n 0, 1, 72, 0), (72, .getfield 11, 3, 75, 0), (75, .iload_n 1, 1, 76, 0), (76, .aaload, 1, 77, 0), (77, .iload 7, 2, 79, 0), (79, .iaload, 1, 80, 0), (80, .imul, 1, 81, 0), (81, .iadd, 1, 82, 0), (82, .iload 4, 2, 84, 0), (84, .invokestatic 37, 3, 87, 0), (87, .iastore, 1, 88, 0), (88, .iinc 7 1, 3, 91, 0), (91, .goto (-55), 3, 94, 36), (94, .iinc 5 1, 3, 97, 0), (97, .goto (-94), 3, 100, 3), (100, .return_, 1, 101, 0)])
theorem kX1_clearOthers : okc cX1_clearOthers (tb mX1_clearOthers) = true := by decide +kernel
def mX1_exchangeRows : MD := (yX1_exchangeRows, cX1_exchangeRows, 5, none, (0, 0), [(0, .iconst 0, 1, 1, 0), (1, .istore_n 3, 1, 2, 0), (2, .iload_n 3, 1, 3, 0), (3, .aload_n 0, 1, 4, 0), (4, .getfield 34, 3, 7, 0), (7, .if_icmp .ge 45, 3, 10, 52), (10, .aload_n 0, 1, 11, 0), (11, .getfield 11, 3, 14, 0), (14, .iload_n 1, 1, 15, 0), (15, .aaload, 1, 16, 0), (16, .iload_n 3, 1, 17, 0), (17, .iaload, 1, 18, 0), (18, .istore 4, 2, 20, 0), (20, .aload_n 0, 1, 21, 0), (21, .getfield 11, 3, 24, 0), (24, .iload_n 1, 1, 25, 0), (25, .aaload, 1, 26, 0), (26, .iload_n 3, 1, 27, 0), (27, .aload_n 0, 1, 28, 0), (28, .getfield 11, 3, 31, 0), (31, .iload_n 2, 1, 32, 0), (32, .aaload, 1, 33, 0), (33, .iload_n 3, 1, 34, 0), (34, .iaload, 1, 35, 0), (35, .iastore, 1, 36, 0), (36, .aload_n 0, 1, 37, 0), (37, .getfield 11, 3, 40, 0), (40, .iload_n 2, 1, 41, 0), (41, .aaload, 1, 42, 0), (42, .iload_n 3, 1, 43, 0), (43, .iload 4, 2, 45, 0), (45, .iastore, 1, 46, 0), (46, .iinc 3 1, 3, 49, 0), (49, .goto (-47), 3, 52, 2), (52, .return_, 1, 53, 0)])
theorem kX1_exchangeRows : okc cX1_exchangeRows (tb mX1_exchangeRows) = true := by decide +kernel
def mJ9_max_7cf53 : MD := (yJ9_max_7cf53, cJ9_max_7cf53, 2, (some .int), (0, 0), [(0, .iload_n 0, 1, 1, 0), (1, .iload_n 1, 1, 2, 0), (2, .if_icmp .lt 7, 3, 5, 9), (5, .iload_n 0, 1, 6, 0), (6, .goto 4, 3, 9, 10), (9, .iload_n 1, 1, 10, 0), (10, .ireturn, 1, 11, 0)])
theorem kJ9_max_7cf53 : okc cJ9_max_7cf53 (tb mJ9_max_7cf53) = true := by decide +kernel
def mX10_crossingOf : MD := (yX10_crossingOf, cX10_crossingOf, 1, (some .int), (0, 0), [(0, .iload_n 0, 1, 1, 0), (1, .iconst 1, 1, 2, 0), (2, .ishr, 1, 3, 0), (3, .bipush 7, 2, 5, 0), (5, .iand, 1, 6, 0), (6, .ireturn, 1, 7, 0)])
theorem kX10_crossingOf : okc cX10_crossingOf (tb mX10_crossingOf) = true := by decide +kernel
def mX6_length : MD := (yX6_length, cX6_length, 1, (some .int), (0, 0), [(0, .iconst 2, 1, 1, 0), (1, .aload_n 0, 1, 2, 0), (2, .getfield 19, 3, 5, 0), (5, .imul, 1, 6, 0), (6, .ireturn, 1, 7, 0)])
theorem kX6_length : okc cX6_length (tb mX6_length) = true := by decide +kernel
def mX1_findParts : MD := (yX1_findParts, cX1_findParts, 6, none, (1, 21), [(0, .aload_n 0, 1, 1, 0), (1, .iconst 1, 1, 2, 0), (2, .aload_n 1, 1, 3, 0), (3, .getfield 48, 3, 6, 0), (6, .invokestatic 68, 3, 9, 0), (9, .putfield 34, 3, 12, 0), (12, .iconst 0, 1, 13, 0), (13, .istore_n 2, 1, 14, 0), (14, .iconst 0, 1, 15, 0), (15, .istore_n 3, 1, 16, 0), (16, .iload_n 3, 1, 17, 0), (17, .aload_n 1, 1, 18, 0), (18, .invokevirtual 73, 3, 21, 0), (21, .if_icmp .ge 69, 3, 24, 90), (24, .aload_n 1, 1, 25, 0), (25, .getfield 77, 3, 28, 0), (28, .iload_n 3, 1, 29, 0), (29, .iaload, 1, 30, 0), (30, .istore 4, 2, 32, 0), (32, .iload 4, 2, 34, 0), (34, .invokestatic 80, 3, 37, 0), (37, .istore 5, 2, 39, 0), (39, .iload 4, 2, 41, 0), (41, .iconst 1, 1, 42, 0), (42, .iand, 1, 43, 0), (43, .iconst 1, 1, 44, 0), (44, .if_icmp .ne 29, 3, 47, 73), (47, .aload_n 0, 1, 48, 0), (48, .getfield 16, 3, 51, 0), (51, .iload 5, 2, 53, 0), (53, .iload_n 2, 1, 54, 0), (54, .ifCond .ne 12, 3, 57, 66), (57, .aload_n 0, 1, 58, 0), (58, .getfield 34, 3, 61, 0), (61, .iconst 1, 1, 62, 0), (62, .isub, 1, 63, 0), (63, .goto 6, 3, 66, 69), (66, .iload_n 2, 1, 67, 0), (67, .iconst 1, 1, 68, 0), (68, .isub, 1, 69, 0), (69, .iastore, 1, 70, 0), (70, .goto 14, 3, 73, 84), (73, .aload_n 0, 1, 74, 0), (74, .getfield 20, 3, 77, 0), (77, .iload 5, 2, 79, 0), (79, .iload_n 2, 1, 80, 0), (80, .iastore, 1, 81, 0), (81, .iinc 2 1, 3, 84, 0), (84, .iinc 3 1, 3, 87, 0), (87, .goto (-71), 3, 90, 16), (90, .return_, 1, 91, 0)])
theorem kX1_findParts : okc cX1_findParts (tb mX1_findParts) = true := by decide +kernel
def mX1_rowWith : MD := (yX1_rowWith, cX1_rowWith, 4, (some .int), (0, 0), [(0, .aload_n 0, 1, 1, 0), (1, .getfield 30, 3, 4, 0), (4, .istore_n 3, 1, 5, 0), (5, .iload_n 3, 1, 6, 0), (6, .iload_n 2, 1, 7, 0), (7, .if_icmp .ge 22, 3, 10, 29), (10, .aload_n 0, 1, 11, 0), (11, .getfield 11, 3, 14, 0), (14, .iload_n 3, 1, 15, 0), (15, .aaload, 1, 16, 0), (16, .iload_n 1, 1, 17, 0), (17, .iaload, 1, 18, 0), (18, .ifCond .eq 5, 3, 21, 23), (21, .iload_n 3, 1, 22, 0), (22, .ireturn, 1, 23, 0), (23, .iinc 3 1, 3, 26, 0), (26, .goto (-21), 3, 29, 5), (29, .iconst (-1), 1, 30, 0), (30, .ireturn, 1, 31, 0)])
theorem kX1_rowWith : okc cX1_rowWith (tb mX1_rowWith) = true := by decide +kernel
def mX1_scaleRow : MD := (yX1_scaleRow, cX1_scaleRow, 6, none, (1, 21), [(0, .iconst 1, 1, 1, 0), (1, .istore 4, 2, 3, 0), (3, .iload 4, 2, 5, 0), (5, .iload_n 3, 1, 6, 0), (6, .if_icmp .ge 28, 3, 9, 34), (9, .aload_n 0, 1, 10, 0), (10, .getfield 11, 3, 13, 0), (13, .iload_n 1, 1, 14, 0), (14, .aaload, 1, 15, 0), (15, .iload_n 2, 1, 16, 0), (16, .iaload, 1, 17, 0), (17, .iload 4, 2, 19, 0), (19, .imul, 1, 20, 0), (20, .iload_n 3, 1, 21, 0), (21, .invokestatic 37, 3, 24, 0), (24, .iconst 1, 1, 25, 0), (25, .if_icmp .eq 9, 3, 28, 34), (28, .iinc 4 1, 3, 31, 0), (31, .goto (-28), 3, 34, 3), (34, .iconst 0, 1, 35, 0), (35, .istore 5, 2, 37, 0), (37, .iload 5, 2, 39, 0), (39, .aload_n 0, 1, 40, 0), (40, .getfield 34, 3, 43, 0), (43, .if_icmp .ge 34, 3, 46, 77), (46, .aload_n 0, 1, 47, 0), (47, .getfield 11, 3, 50, 0), (50, .iload_n 1, 1, 51, 0), (51, .aaload, 1, 52, 0), (52, .iload 5, 2, 54, 0), (54, .aload_n 0, 1, 55, 0), (55, .getfield 11, 3, 58, 0), (58, .iload_n 1, 1, 59, 0), (59, .aaload, 1, 60, 0), (60, .iload 5, 2, 62, 0), (62, .iaload, 1, 63, 0), (63, .iload 4, 2, 65, 0), (65, .imul, 1, 66, 0), (66, .iload_n 3, 1, 67, 0), (67, .invokestatic 37, 3, 70, 0), (70, .iastore, 1, 71, 0), (71, .iinc 5 1, 3, 74, 0), (74, .goto (-37), 3, 77, 37), (77, .return_, 1, 78, 0)])
theorem kX1_scaleRow : okc cX1_scaleRow (tb mX1_scaleRow) = true := by decide +kernel
def mJ7_fill_53178 : MD := (yJ7_fill_53178, cJ7_fill_53178, 4, none, (0, 0), [(0, .iconst 0, 1, 1, 0), (1, .istore_n 2, 1, 2, 0), (2, .aload_n 0, 1, 3, 0), (3, .arraylength, 1, 4, 0), (4, .istore_n 3, 1, 5, 0), (5, .iload_n 2, 1, 6, 0), (6, .iload_n 3, 1, 7, 0), (7, .if_icmp .ge 13, 3, 10, 20), (10, .aload_n 0, 1, 11, 0), (11, .iload_n 2, 1, 12, 0), (12, .iload_n 1, 1, 13, 0), (13, .iastore, 1, 14, 0), (14, .iinc 2 1, 3, 17, 0), (17, .goto (-12), 3, 20, 5), (20, .return_, 1, 21, 0)])
theorem kJ7_fill_53178 : okc cJ7_fill_53178 (tb mJ7_fill_53178) = true := by decide +kernel
def mX1_addTo : MD := (yX1_addTo, cX1_addTo, 5, none, (1, 21), [(0, .iload_n 2, 1, 1, 0), (1, .ifCond .lt 32, 3, 4, 33), (4, .iload_n 2, 1, 5, 0), (5, .bipush 8, 2, 7, 0), (7, .if_icmp .ge 26, 3, 10, 33), (10, .aload_n 0, 1, 11, 0), (11, .getfield 11, 3, 14, 0), (14, .iload_n 1, 1, 15, 0), (15, .aaload, 1, 16, 0), (16, .iload_n 2, 1, 17, 0), (17, .aload_n 0, 1, 18, 0), (18, .getfield 11, 3, 21, 0), (21, .iload_n 1, 1, 22, 0), (22, .aaload, 1, 23, 0), (23, .iload_n 2, 1, 24, 0), (24, .iaload, 1, 25, 0), (25, .iload_n 3, 1, 26, 0), (26, .iadd, 1, 27, 0), (27, .iload 4, 2, 29, 0), (29, .invokestatic 37, 3, 32, 0), (32, .iastore, 1, 33, 0), (33, .return_, 1, 34, 0)])
theorem kX1_addTo : okc cX1_addTo (tb mX1_addTo) = true := by decide +kernel
def mX1_writeRows : MD := (yX1_writeRows, cX1_writeRows, 6, none, (2, 45), [(0, .iconst 0, 1, 1, 0), (1, .istore_n 3, 1, 2, 0), (2, .iload_n 3, 1, 3, 0), (3, .aload_n 1, 1, 4, 0), (4, .getfield 48, 3, 7, 0), (7, .if_icmp .ge 82, 3, 10, 89), (10, .aload_n 0, 1, 11, 0), (11, .getfield 20, 3, 14, 0), (14, .iload_n 3, 1, 15, 0), (15, .iaload, 1, 16, 0), (16, .istore 4, 2, 18, 0), (18, .iload 4, 2, 20, 0), (20, .ifCond .ne 12, 3, 23, 32), (23, .aload_n 0, 1, 24, 0), (24, .getfield 34, 3, 27, 0), (27, .iconst 1, 1, 28, 0), (28, .isub, 1, 29, 0), (29, .goto 7, 3, 32, 36), (32, .iload 4, 2, 34, 0), (34, .iconst 1, 1, 35, 0), (35, .isub, 1, 36, 0), (36, .istore 5, 2, 38, 0), (38, .aload_n 0, 1, 39, 0), (39, .getfield 11, 3, 42, 0), (42, .iload_n 3, 1, 43, 0), (43, .aaload, 1, 44, 0), (44, .iconst 0, 1, 45, 0), (45, .invokestatic 84, 3, 48, 0), (48, .aload_n 0, 1, 49, 0), (49, .iload_n 3, 1, 50, 0), (50, .aload_n 0, 1, 51, 0), (51, .getfield 16, 3, 54, 0), (54, .iload_n 3, 1, 55, 0), (55, .iaload, 1, 56, 0), (56, .iconst 2, 1, 57, 0), (57, .iload_n 2, 1, 58, 0), (58, .invokevirtual 90, 3, 61, 0), (61, .aload_n 0, 1, 62, 0), (62, .iload_n 3, 1, 63, 0), (63, .iload 4, 2, 65, 0), (65, .iload_n 2, 1, 66, 0), (66, .iconst 1, 1, 67, 0), (67, .isub, 1, 68, 0), (68, .iload_n 2, 1, 69, 0), (69, .invokevirtual 90, 3, 72, 0), (72, .aload_n 0, 1, 73, 0), (73, .iload_n 3, 1, 74, 0), (74, .iload 5, 2, 76, 0), (76, .iload_n 2, 1, 77, 0), (77, .iconst 1, 1, 78, 0), (78, .isub, 1, 79, 0), (79, .iload_n 2, 1, 80, 0), (80, .invokevirtual 90, 3, 83, 0), (83, .iinc 3 1, 3, 86, 0), (86, .goto (-84), 3, 89, 2), (89, .return_, 1, 90, 0)])
theorem kX1_writeRows : okc cX1_writeRows (tb mX1_writeRows) = true := by decide +kernel
def mX1_solve : MD := (yX1_solve, cX1_solve, 5, none, (3, 70), [(0, .aload_n 0, 1, 1, 0), (1, .aload_n 1, 1, 2, 0), (2, .invokevirtual 41, 3, 5, 0), (5, .aload_n 0, 1, 6, 0), (6, .aload_n 1, 1, 7, 0), (7, .iload_n 2, 1, 8, 0), (8, .invokevirtual 45, 3, 11, 0), (11, .aload_n 0, 1, 12, 0), (12, .iconst 0, 1, 13, 0), (13, .putfield 30, 3, 16, 0), (16, .aload_n 0, 1, 17, 0), (17, .getfield 34, 3, 20, 0), (20, .iconst 1, 1, 21, 0), (21, .isub, 1, 22, 0), (22, .istore_n 3, 1, 23, 0), (23, .iload_n 3, 1, 24, 0), (24, .ifCond .lt 90, 3, 27, 114), (27, .aload_n 0, 1, 28, 0), (28, .iload_n 3, 1, 29, 0), (29, .aload_n 1, 1, 30, 0), (30, .getfield 48, 3, 33, 0), (33, .invokevirtual 53, 3, 36, 0), (36, .istore 4, 2, 38, 0), (38, .aload_n 0, 1, 39, 0), (39, .getfield 23, 3, 42, 0), (42, .iload_n 3, 1, 43, 0), (43, .iload 4, 2, 45, 0), (45, .iconst (-1), 1, 46, 0), (46, .if_icmp .ne 7, 3, 49, 53), (49, .iconst (-1), 1, 50, 0), (50, .goto 7, 3, 53, 57), (53, .aload_n 0, 1, 54, 0), (54, .getfield 30, 3, 57, 0), (57, .iastore, 1, 58, 0), (58, .iload 4, 2, 60, 0), (60, .iconst (-1), 1, 61, 0), (61, .if_icmp .eq 47, 3, 64, 108), (64, .aload_n 0, 1, 65, 0), (65, .iload 4, 2, 67, 0), (67, .aload_n 0, 1, 68, 0), (68, .getfield 30, 3, 71, 0), (71, .invokevirtual 56, 3, 74, 0), (74, .aload_n 0, 1, 75, 0), (75, .aload_n 0, 1, 76, 0), (76, .getfield 30, 3, 79, 0), (79, .iload_n 3, 1, 80, 0), (80, .iload_n 2, 1, 81, 0), (81, .invokevirtual 60, 3, 84, 0), (84, .aload_n 0, 1, 85, 0), (85, .aload_n 0, 1, 86, 0), (86, .getfield 30, 3, 89, 0), (89, .iload_n 3, 1, 90, 0), (90, .aload_n 1, 1, 91, 0), (91, .getfield 48, 3, 94, 0), (94, .iload_n 2, 1, 95, 0), (95, .invokevirtual 64, 3, 98, 0), (98, .aload_n 0, 1, 99, 0), (99, .dup, 1, 100, 0), (100, .getfield 30, 3, 103, 0), (103, .iconst 1, 1, 104, 0), (104, .iadd, 1, 105, 0), (105, .putfield 30, 3, 108, 0), (108, .iinc 3 (-1), 3, 111, 0), (111, .goto (-88), 3, 114, 23), (114, .return_, 1, 115, 0)])
theorem kX1_solve : okc cX1_solve (tb mX1_solve) = true := by decide +kernel
def mX1_waysBy : MD := (yX1_waysBy, cX1_waysBy, 5, (some .int), (4, 94), [(0, .aload_n 0, 1, 1, 0), (1, .aload_n 1, 1, 2, 0), (2, .iload_n 2, 1, 3, 0), (3, .invokevirtual 26, 3, 6, 0), (6, .iconst 1, 1, 7, 0), (7, .istore_n 3, 1, 8, 0), (8, .aload_n 0, 1, 9, 0), (9, .getfield 30, 3, 12, 0), (12, .istore 4, 2, 14, 0), (14, .iload 4, 2, 16, 0), (16, .aload_n 0, 1, 17, 0), (17, .getfield 34, 3, 20, 0), (20, .if_icmp .ge 13, 3, 23, 33), (23, .iload_n 3, 1, 24, 0), (24, .iload_n 2, 1, 25, 0), (25, .imul, 1, 26, 0), (26, .istore_n 3, 1, 27, 0), (27, .iinc 4 1, 3, 30, 0), (30, .goto (-16), 3, 33, 14), (33, .iload_n 3, 1, 34, 0), (34, .ireturn, 1, 35, 0)])
theorem kX1_waysBy : okc cX1_waysBy (tb mX1_waysBy) = true := by decide +kernel
def mX1_firstColourOf : MD := (yX1_firstColourOf, cX1_firstColourOf, 5, (some .int), (4, 94), [(0, .aload_n 0, 1, 1, 0), (1, .aload_n 1, 1, 2, 0), (2, .iconst 3, 1, 3, 0), (3, .invokevirtual 26, 3, 6, 0), (6, .iload_n 2, 1, 7, 0), (7, .ifCond .lt 11, 3, 10, 18), (10, .iload_n 2, 1, 11, 0), (11, .aload_n 0, 1, 12, 0), (12, .getfield 34, 3, 15, 0), (15, .if_icmp .lt 5, 3, 18, 20), (18, .iconst (-1), 1, 19, 0), (19, .ireturn, 1, 20, 0), (20, .aload_n 0, 1, 21, 0), (21, .getfield 34, 3, 24, 0), (24, .iconst 1, 1, 25, 0), (25, .isub, 1, 26, 0), (26, .istore_n 3, 1, 27, 0), (27, .iload_n 3, 1, 28, 0), (28, .ifCond .le 19, 3, 31, 47), (31, .aload_n 0, 1, 32, 0), (32, .getfield 23, 3, 35, 0), (35, .iload_n 3, 1, 36, 0), (36, .iaload, 1, 37, 0), (37, .iconst (-1), 1, 38, 0), (38, .if_icmp .eq 9, 3, 41, 47), (41, .iinc 3 (-1), 3, 44, 0), (44, .goto (-17), 3, 47, 27), (47, .iload_n 3, 1, 48, 0), (48, .ifCond .gt 5, 3, 51, 53), (51, .iconst (-1), 1, 52, 0), (52, .ireturn, 1, 53, 0), (53, .aload_n 0, 1, 54, 0), (54, .getfield 23, 3, 57, 0), (57, .iload_n 2, 1, 58, 0), (58, .iaload, 1, 59, 0), (59, .istore 4, 2, 61, 0), (61, .iload 4, 2, 63, 0), (63, .ifCond .lt 10, 3, 66, 73), (66, .iload 4, 2, 68, 0), (68, .bipush 8, 2, 70, 0), (70, .if_icmp .lt 14, 3, 73, 84), (73, .iload_n 2, 1, 74, 0), (74, .iload_n 3, 1, 75, 0), (75, .if_icmp .ne 7, 3, 78, 82), (78, .iconst 1, 1, 79, 0), (79, .goto 4, 3, 82, 83), (82, .iconst 0, 1, 83, 0), (83, .ireturn, 1, 84, 0), (84, .iconst 3, 1, 85, 0), (85, .aload_n 0, 1, 86, 0), (86, .getfield 11, 3, 89, 0), (89, .iload 4, 2, 91, 0), (91, .aaload, 1, 92, 0), (92, .iload_n 3, 1, 93, 0), (93, .iaload, 1, 94, 0), (94, .isub, 1, 95, 0), (95, .iconst 3, 1, 96, 0), (96, .invokestatic 37, 3, 99, 0), (99, .ireturn, 1, 100, 0)])
theorem kX1_firstColourOf : okc cX1_firstColourOf (tb mX1_firstColourOf) = true := by decide +kernel
def mX2_forgetAll : MD := (yX2_forgetAll, cX2_forgetAll, 1, none, (0, 0), [(0, .aload_n 0, 1, 1, 0), (1, .iconst 0, 1, 2, 0), (2, .putfield 20, 3, 5, 0), (5, .return_, 1, 6, 0)])
theorem kX2_forgetAll : okc cX2_forgetAll (tb mX2_forgetAll) = true := by decide +kernel
def mJ9_min_7cf53 : MD := (yJ9_min_7cf53, cJ9_min_7cf53, 2, (some .int), (0, 0), [(0, .iload_n 0, 1, 1, 0), (1, .iload_n 1, 1, 2, 0), (2, .if_icmp .gt 7, 3, 5, 9), (5, .iload_n 0, 1, 6, 0), (6, .goto 4, 3, 9, 10), (9, .iload_n 1, 1, 10, 0), (10, .ireturn, 1, 11, 0)])
theorem kJ9_min_7cf53 : okc cJ9_min_7cf53 (tb mJ9_min_7cf53) = true := by decide +kernel
def mX6_copyFrom : MD := (yX6_copyFrom, cX6_copyFrom, 2, none, (1, 60), [(0, .aload_n 1, 1, 1, 0), (1, .getfield 15, 3, 4, 0), (4, .iconst 0, 1, 5, 0), (5, .aload_n 0, 1, 6, 0), (6, .getfield 15, 3, 9, 0), (9, .iconst 0, 1, 10, 0), (10, .bipush 16, 2, 12, 0), (12, .invokestatic 30, 3, 15, 0), (15, .aload_n 0, 1, 16, 0), (16, .aload_n 1, 1, 17, 0), (17, .getfield 19, 3, 20, 0), (20, .putfield 19, 3, 23, 0), (23, .aload_n 0, 1, 24, 0), (24, .aload_n 1, 1, 25, 0), (25, .getfield 27, 3, 28, 0), (28, .putfield 27, 3, 31, 0), (31, .return_, 1, 32, 0)])
theorem kX6_copyFrom : okc cX6_copyFrom (tb mX6_copyFrom) = true := by decide +kernel
def mX9_copyFrom : MD := (yX9_copyFrom, cX9_copyFrom, 3, none, (2, 81), [(0, .aload_n 0, 1, 1, 0), (1, .aload_n 1, 1, 2, 0), (2, .getfield 20, 3, 5, 0), (5, .putfield 20, 3, 8, 0), (8, .aload_n 0, 1, 9, 0), (9, .aload_n 1, 1, 10, 0), (10, .getfield 24, 3, 13, 0), (13, .putfield 24, 3, 16, 0), (16, .iconst 0, 1, 17, 0), (17, .istore_n 2, 1, 18, 0), (18, .iload_n 2, 1, 19, 0), (19, .iconst 5, 1, 20, 0), (20, .if_icmp .ge 24, 3, 23, 44), (23, .aload_n 0, 1, 24, 0), (24, .getfield 11, 3, 27, 0), (27, .iload_n 2, 1, 28, 0), (28, .aaload, 1, 29, 0), (29, .aload_n 1, 1, 30, 0), (30, .getfield 11, 3, 33, 0), (33, .iload_n 2, 1, 34, 0), (34, .aaload, 1, 35, 0), (35, .invokevirtual 27, 3, 38, 0), (38, .iinc 2 1, 3, 41, 0), (41, .goto (-23), 3, 44, 18), (44, .return_, 1, 45, 0)])
theorem kX9_copyFrom : okc cX9_copyFrom (tb mX9_copyFrom) = true := by decide +kernel
def mX2_remember : MD := (yX2_remember, cX2_remember, 2, none, (3, 103), [(0, .aload_n 0, 1, 1, 0), (1, .getfield 11, 3, 4, 0), (4, .aload_n 0, 1, 5, 0), (5, .getfield 24, 3, 8, 0), (8, .aaload, 1, 9, 0), (9, .aload_n 1, 1, 10, 0), (10, .invokevirtual 27, 3, 13, 0), (13, .aload_n 0, 1, 14, 0), (14, .aload_n 0, 1, 15, 0), (15, .getfield 24, 3, 18, 0), (18, .iconst 1, 1, 19, 0), (19, .iadd, 1, 20, 0), (20, .bipush 16, 2, 22, 0), (22, .irem, 1, 23, 0), (23, .putfield 24, 3, 26, 0), (26, .aload_n 0, 1, 27, 0), (27, .aload_n 0, 1, 28, 0), (28, .getfield 20, 3, 31, 0), (31, .iconst 1, 1, 32, 0), (32, .iadd, 1, 33, 0), (33, .bipush 16, 2, 35, 0), (35, .invokestatic 31, 3, 38, 0), (38, .putfield 20, 3, 41, 0), (41, .return_, 1, 42, 0)])
theorem kX2_remember : okc cX2_remember (tb mX2_remember) = true := by decide +kernel
def mX2_restore : MD := (yX2_restore, cX2_restore, 2, (some .boolean), (3, 103), [(0, .aload_n 0, 1, 1, 0), (1, .getfield 20, 3, 4, 0), (4, .ifCond .gt 5, 3, 7, 9), (7, .iconst 0, 1, 8, 0), (8, .ireturn, 1, 9, 0), (9, .aload_n 0, 1, 10, 0), (10, .aload_n 0, 1, 11, 0), (11, .getfield 24, 3, 14, 0), (14, .bipush 16, 2, 16, 0), (16, .iadd, 1, 17, 0), (17, .iconst 1, 1, 18, 0), (18, .isub, 1, 19, 0), (19, .bipush 16, 2, 21, 0), (21, .irem, 1, 22, 0), (22, .putfield 24, 3, 25, 0), (25, .aload_n 0, 1, 26, 0), (26, .dup, 1, 27, 0), (27, .getfield 20, 3, 30, 0), (30, .iconst 1, 1, 31, 0), (31, .isub, 1, 32, 0), (32, .putfield 20, 3, 35, 0), (35, .aload_n 1, 1, 36, 0), (36, .aload_n 0, 1, 37, 0), (37, .getfield 11, 3, 40, 0), (40, .aload_n 0, 1, 41, 0), (41, .getfield 24, 3, 44, 0), (44, .aaload, 1, 45, 0), (45, .invokevirtual 27, 3, 48, 0), (48, .iconst 1, 1, 49, 0), (49, .ireturn, 1, 50, 0)])
theorem kX2_restore : okc cX2_restore (tb mX2_restore) = true := by decide +kernel
def mX10_isIn : MD := (yX10_isIn, cX10_isIn, 2, (some .boolean), (0, 0), [(0, .iload_n 0, 1, 1, 0), (1, .iload_n 1, 1, 2, 0), (2, .ishr, 1, 3, 0), (3, .iconst 1, 1, 4, 0), (4, .iand, 1, 5, 0), (5, .iconst 1, 1, 6, 0), (6, .if_icmp .ne 7, 3, 9, 13), (9, .iconst 1, 1, 10, 0), (10, .goto 4, 3, 13, 14), (13, .iconst 0, 1, 14, 0), (14, .ireturn, 1, 15, 0)])
theorem kX10_isIn : okc cX10_isIn (tb mX10_isIn) = true := by decide +kernel
def mX3_listMoves : MD := (yX3_listMoves, cX3_listMoves, 5, none, (1, 21), [(0, .aload_n 0, 1, 1, 0), (1, .iconst 0, 1, 2, 0), (2, .putfield 49, 3, 5, 0), (5, .iconst 0, 1, 6, 0), (6, .istore_n 2, 1, 7, 0), (7, .iload_n 2, 1, 8, 0), (8, .bipush 8, 2, 10, 0), (10, .if_icmp .ge 112, 3, 13, 122), (13, .iload_n 1, 1, 14, 0), (14, .iload_n 2, 1, 15, 0), (15, .invokestatic 68, 3, 18, 0), (18, .ifCond .ne 6, 3, 21, 24), (21, .goto 95, 3, 24, 116), (24, .aload_n 0, 1, 25, 0), (25, .getfield 52, 3, 28, 0), (28, .iconst 1, 1, 29, 0), (29, .iload_n 2, 1, 30, 0), (30, .ishl, 1, 31, 0), (31, .iand, 1, 32, 0), (32, .aload_n 0, 1, 33, 0), (33, .getfield 15, 3, 36, 0), (36, .iload_n 2, 1, 37, 0), (37, .iaload, 1, 38, 0), (38, .aload_n 0, 1, 39, 0), (39, .getfield 18, 3, 42, 0), (42, .iload_n 2, 1, 43, 0), (43, .iaload, 1, 44, 0), (44, .iand, 1, 45, 0), (45, .ior, 1, 46, 0), (46, .iload_n 1, 1, 47, 0), (47, .iand, 1, 48, 0), (48, .istore_n 3, 1, 49, 0), (49, .iload_n 2, 1, 50, 0), (50, .istore 4, 2, 52, 0), (52, .iload 4, 2, 54, 0), (54, .bipush 8, 2, 56, 0), (56, .if_icmp .ge 60, 3, 59, 116), (59, .iload_n 3, 1, 60, 0), (60, .iload 4, 2, 62, 0), (62, .ishr, 1, 63, 0), (63, .ifCond .eq 53, 3, 66, 116), (66, .iload_n 3, 1, 67, 0), (67, .iload 4, 2, 69, 0), (69, .invokestatic 68, 3, 72, 0), (72, .ifCond .eq 38, 3, 75, 110), (75, .aload_n 0, 1, 76, 0), (76, .getfield 49, 3, 79, 0), (79, .bipush 36, 2, 81, 0), (81, .if_icmp .ge 29, 3, 84, 110), (84, .aload_n 0, 1, 85, 0), (85, .getfield 21, 3, 88, 0), (88, .aload_n 0, 1, 89, 0), (89, .getfield 49, 3, 92, 0), (92, .bipush 10, 2, 94, 0), (94, .iload_n 2, 1, 95, 0), (95, .imul, 1, 96, 0), (96, .iload 4, 2, 98, 0), (98, .iadd, 1, 99, 0), (99, .iastore, 1, 100, 0), (100, .aload_n 0, 1, 101, 0), (101, .dup, 1, 102, 0), (102, .getfield 49, 3, 105, 0), (105, .iconst 1, 1, 106, 0), (106, .iadd, 1, 107, 0), (107, .putfield 49, 3, 110, 0), (110, .iinc 4 1, 3, 113, 0), (113, .goto (-61), 3, 116, 52), (116, .iinc 2 1, 3, 119, 0), (119, .goto (-112), 3, 122, 7), (122, .return_, 1, 123, 0)])
theorem kX3_listMoves : okc cX3_listMoves (tb mX3_listMoves) = true := by decide +kernel
def mX3_seeNeighbours : MD := (yX3_seeNeighbours, cX3_seeNeighbours, 7, none, (1, 23), [(0, .aload_n 0, 1, 1, 0), (1, .getfield 15, 3, 4, 0), (4, .iconst 0, 1, 5, 0), (5, .invokestatic 72, 3, 8, 0), (8, .aload_n 0, 1, 9, 0), (9, .getfield 18, 3, 12, 0), (12, .iconst 0, 1, 13, 0), (13, .invokestatic 72, 3, 16, 0), (16, .aload_n 0, 1, 17, 0), (17, .iconst 0, 1, 18, 0), (18, .putfield 52, 3, 21, 0), (21, .iconst 0, 1, 22, 0), (22, .istore_n 2, 1, 23, 0), (23, .iload_n 2, 1, 24, 0), (24, .iload_n 1, 1, 25, 0), (25, .if_icmp .ge 151, 3, 28, 176), (28, .aload_n 0, 1, 29, 0), (29, .getfield 9, 3, 32, 0), (32, .iload_n 2, 1, 33, 0), (33, .iaload, 1, 34, 0), (34, .istore_n 3, 1, 35, 0), (35, .aload_n 0, 1, 36, 0), (36, .getfield 9, 3, 39, 0), (39, .iload_n 2, 1, 40, 0), (40, .iconst 1, 1, 41, 0), (41, .iadd, 1, 42, 0), (42, .iload_n 1, 1, 43, 0), (43, .if_icmp .ge 9, 3, 46, 52), (46, .iload_n 2, 1, 47, 0), (47, .iconst 1, 1, 48, 0), (48, .iadd, 1, 49, 0), (49, .goto 4, 3, 52, 53), (52, .iconst 0, 1, 53, 0), (53, .iaload, 1, 54, 0), (54, .istore 4, 2, 56, 0), (56, .iload_n 3, 1, 57, 0), (57, .invokestatic 65, 3, 60, 0), (60, .istore 5, 2, 62, 0), (62, .iload 4, 2, 64, 0), (64, .invokestatic 65, 3, 67, 0), (67, .istore 6, 2, 69, 0), (69, .iload 5, 2, 71, 0), (71, .iload 6, 2, 73, 0), (73, .if_icmp .ne 19, 3, 76, 92), (76, .aload_n 0, 1, 77, 0), (77, .dup, 1, 78, 0), (78, .getfield 52, 3, 81, 0), (81, .iconst 1, 1, 82, 0), (82, .iload 5, 2, 84, 0), (84, .ishl, 1, 85, 0), (85, .ior, 1, 86, 0), (86, .putfield 52, 3, 89, 0), (89, .goto 81, 3, 92, 170), (92, .iload_n 3, 1, 93, 0), (93, .iload 4, 2, 95, 0), (95, .iand, 1, 96, 0), (96, .iconst 1, 1, 97, 0), (97, .iand, 1, 98, 0), (98, .iconst 1, 1, 99, 0), (99, .if_icmp .ne 34, 3, 102, 133), (102, .aload_n 0, 1, 103, 0), (103, .getfield 15, 3, 106, 0), (106, .iload 5, 2, 108, 0), (108, .dup2, 1, 109, 0), (109, .iaload, 1, 110, 0), (110, .iconst 1, 1, 111, 0), (111, .iload 6, 2, 113, 0), (113, .ishl, 1, 114, 0), (114, .ior, 1, 115, 0), (115, .iastore, 1, 116, 0), (116, .aload_n 0, 1, 117, 0), (117, .getfield 15, 3, 120, 0), (120, .iload 6, 2, 122, 0), (122, .dup2, 1, 123, 0), (123, .iaload, 1, 124, 0), (124, .iconst 1, 1, 125, 0), (125, .iload 5, 2, 127, 0), (127, .ishl, 1, 128, 0), (128, .ior, 1, 129, 0), (129, .iastore, 1, 130, 0), (130, .goto 40, 3, 133, 170), (133, .iload_n 3, 1, 134, 0), (134, .iload 4, 2, 136, 0), (136, .ior, 1, 137, 0), (137, .iconst 1, 1, 138, 0), (138, .iand, 1, 139, 0), (139, .ifCond .ne 31, 3, 142, 170), (142, .aload_n 0, 1, 143, 0), (143, .getfield 18, 3, 146, 0), (146, .iload 5, 2, 148, 0), (148, .dup2, 1, 149, 0), (149, .iaload, 1, 150, 0), (150, .iconst 1, 1, 151, 0), (151, .iload 6, 2, 153, 0), (153, .ishl, 1, 154, 0), (154, .ior, 1, 155, 0), (155, .iastore, 1, 156, 0), (156, .aload_n 0, 1, 157, 0), (157, .getfield 18, 3, 160, 0), (160, .iload 6, 2, 162, 0), (162, .dup2, 1, 163, 0), (163, .iaload, 1, 164, 0), (164, .iconst 1, 1, 165, 0), (165, .iload 5, 2, 167, 0), (167, .ishl, 1, 168, 0), (168, .ior, 1, 169, 0), (169, .iastore, 1, 170, 0), (170, .iinc 2 1, 3, 173, 0), (173, .goto (-150), 3, 176, 23), (176, .return_, 1, 177, 0)])
theorem kX3_seeNeighbours : okc cX3_seeNeighbours (tb mX3_seeNeighbours) = true := by decide +kernel
def mX3_takeRow : MD := (yX3_takeRow, cX3_takeRow, 8, (some .int), (1, 21), [(0, .iconst 0, 1, 1, 0), (1, .istore 4, 2, 3, 0), (3, .iconst 0, 1, 4, 0), (4, .istore 5, 2, 6, 0), (6, .iload 5, 2, 8, 0), (8, .aload_n 1, 1, 9, 0), (9, .invokevirtual 59, 3, 12, 0), (12, .if_icmp .ge 53, 3, 15, 65), (15, .aload_n 1, 1, 16, 0), (16, .getfield 62, 3, 19, 0), (19, .iload 5, 2, 21, 0), (21, .iaload, 1, 22, 0), (22, .istore 6, 2, 24, 0), (24, .iload 6, 2, 26, 0), (26, .invokestatic 65, 3, 29, 0), (29, .istore 7, 2, 31, 0), (31, .iload_n 2, 1, 32, 0), (32, .iload 7, 2, 34, 0), (34, .invokestatic 68, 3, 37, 0), (37, .ifCond .eq 22, 3, 40, 59), (40, .aload_n 0, 1, 41, 0), (41, .getfield 9, 3, 44, 0), (44, .iload 4, 2, 46, 0), (46, .iload 6, 2, 48, 0), (48, .iload_n 3, 1, 49, 0), (49, .iload 7, 2, 51, 0), (51, .ishr, 1, 52, 0), (52, .iconst 1, 1, 53, 0), (53, .iand, 1, 54, 0), (54, .ixor, 1, 55, 0), (55, .iastore, 1, 56, 0), (56, .iinc 4 1, 3, 59, 0), (59, .iinc 5 1, 3, 62, 0), (62, .goto (-56), 3, 65, 6), (65, .iload 4, 2, 67, 0), (67, .ireturn, 1, 68, 0)])
theorem kX3_takeRow : okc cX3_takeRow (tb mX3_takeRow) = true := by decide +kernel
def mX3_lookAt : MD := (yX3_lookAt, cX3_lookAt, 5, none, (2, 49), [(0, .aload_n 0, 1, 1, 0), (1, .aload_n 0, 1, 2, 0), (2, .aload_n 1, 1, 3, 0), (3, .iload_n 2, 1, 4, 0), (4, .iload_n 3, 1, 5, 0), (5, .invokevirtual 38, 3, 8, 0), (8, .invokevirtual 42, 3, 11, 0), (11, .aload_n 0, 1, 12, 0), (12, .iload_n 2, 1, 13, 0), (13, .iload 4, 2, 15, 0), (15, .iconst (-1), 1, 16, 0), (16, .ixor, 1, 17, 0), (17, .iand, 1, 18, 0), (18, .invokevirtual 46, 3, 21, 0), (21, .return_, 1, 22, 0)])
theorem kX3_lookAt : okc cX3_lookAt (tb mX3_lookAt) = true := by decide +kernel
def mX6_everyCrossing : MD := (yX6_everyCrossing, cX6_everyCrossing, 1, (some .int), (0, 0), [(0, .iconst 1, 1, 1, 0), (1, .aload_n 0, 1, 2, 0), (2, .getfield 19, 3, 5, 0), (5, .ishl, 1, 6, 0), (6, .iconst 1, 1, 7, 0), (7, .isub, 1, 8, 0), (8, .ireturn, 1, 9, 0)])
theorem kX6_everyCrossing : okc cX6_everyCrossing (tb mX6_everyCrossing) = true := by decide +kernel
def mX3_lookNow : MD := (yX3_lookNow, cX3_lookNow, 2, none, (3, 73), [(0, .aload_n 0, 1, 1, 0), (1, .aload_n 1, 1, 2, 0), (2, .aload_n 1, 1, 3, 0), (3, .invokevirtual 24, 3, 6, 0), (6, .iconst 0, 1, 7, 0), (7, .aload_n 1, 1, 8, 0), (8, .getfield 30, 3, 11, 0), (11, .invokevirtual 34, 3, 14, 0), (14, .return_, 1, 15, 0)])
theorem kX3_lookNow : okc cX3_lookNow (tb mX3_lookNow) = true := by decide +kernel
def mX3_moveAt : MD := (yX3_moveAt, cX3_moveAt, 2, (some .int), (0, 0), [(0, .iload_n 1, 1, 1, 0), (1, .ifCond .lt 26, 3, 4, 27), (4, .iload_n 1, 1, 5, 0), (5, .aload_n 0, 1, 6, 0), (6, .getfield 49, 3, 9, 0), (9, .if_icmp .ge 18, 3, 12, 27), (12, .iload_n 1, 1, 13, 0), (13, .bipush 36, 2, 15, 0), (15, .if_icmp .ge 12, 3, 18, 27), (18, .aload_n 0, 1, 19, 0), (19, .getfield 21, 3, 22, 0), (22, .iload_n 1, 1, 23, 0), (23, .iaload, 1, 24, 0), (24, .goto 4, 3, 27, 28), (27, .iconst (-1), 1, 28, 0), (28, .ireturn, 1, 29, 0)])
theorem kX3_moveAt : okc cX3_moveAt (tb mX3_moveAt) = true := by decide +kernel
def mX3_contains : MD := (yX3_contains, cX3_contains, 3, (some .boolean), (0, 0), [(0, .iconst 0, 1, 1, 0), (1, .istore_n 2, 1, 2, 0), (2, .iload_n 2, 1, 3, 0), (3, .aload_n 0, 1, 4, 0), (4, .getfield 49, 3, 7, 0), (7, .if_icmp .ge 27, 3, 10, 34), (10, .iload_n 2, 1, 11, 0), (11, .bipush 36, 2, 13, 0), (13, .if_icmp .ge 21, 3, 16, 34), (16, .aload_n 0, 1, 17, 0), (17, .getfield 21, 3, 20, 0), (20, .iload_n 2, 1, 21, 0), (21, .iaload, 1, 22, 0), (22, .iload_n 1, 1, 23, 0), (23, .if_icmp .ne 5, 3, 26, 28), (26, .iconst 1, 1, 27, 0), (27, .ireturn, 1, 28, 0), (28, .iinc 2 1, 3, 31, 0), (31, .goto (-29), 3, 34, 2), (34, .iconst 0, 1, 35, 0), (35, .ireturn, 1, 36, 0)])
theorem kX3_contains : okc cX3_contains (tb mX3_contains) = true := by decide +kernel
def mX10_takenBy : MD := (yX10_takenBy, cX10_takenBy, 1, (some .int), (0, 0), [(0, .iload_n 0, 1, 1, 0), (1, .ifCond .ge 7, 3, 4, 8), (4, .iconst 0, 1, 5, 0), (5, .goto 16, 3, 8, 21), (8, .iconst 1, 1, 9, 0), (9, .iload_n 0, 1, 10, 0), (10, .bipush 10, 2, 12, 0), (12, .idiv, 1, 13, 0), (13, .ishl, 1, 14, 0), (14, .iconst 1, 1, 15, 0), (15, .iload_n 0, 1, 16, 0), (16, .bipush 10, 2, 18, 0), (18, .irem, 1, 19, 0), (19, .ishl, 1, 20, 0), (20, .ior, 1, 21, 0), (21, .ireturn, 1, 22, 0)])
theorem kX10_takenBy : okc cX10_takenBy (tb mX10_takenBy) = true := by decide +kernel
def mX3_leftOf : MD := (yX3_leftOf, cX3_leftOf, 8, (some .int), (3, 73), [(0, .iload_n 2, 1, 1, 0), (1, .istore 5, 2, 3, 0), (3, .iconst 0, 1, 4, 0), (4, .istore 6, 2, 6, 0), (6, .iload 6, 2, 8, 0), (8, .bipush 8, 2, 10, 0), (10, .if_icmp .ge 66, 3, 13, 76), (13, .aload_n 0, 1, 14, 0), (14, .aload_n 1, 1, 15, 0), (15, .iload 5, 2, 17, 0), (17, .iload_n 3, 1, 18, 0), (18, .iload 4, 2, 20, 0), (20, .invokevirtual 34, 3, 23, 0), (23, .aload_n 0, 1, 24, 0), (24, .getfield 49, 3, 27, 0), (27, .ifCond .ne 6, 3, 30, 33), (30, .goto 46, 3, 33, 76), (33, .aload_n 0, 1, 34, 0), (34, .getfield 52, 3, 37, 0), (37, .iload 4, 2, 39, 0), (39, .iconst (-1), 1, 40, 0), (40, .ixor, 1, 41, 0), (41, .iand, 1, 42, 0), (42, .istore 7, 2, 44, 0), (44, .iload 5, 2, 46, 0), (46, .iload 7, 2, 48, 0), (48, .ifCond .eq 8, 3, 51, 56), (51, .iload 7, 2, 53, 0), (53, .goto 12, 3, 56, 65), (56, .aload_n 0, 1, 57, 0), (57, .getfield 21, 3, 60, 0), (60, .iconst 0, 1, 61, 0), (61, .iaload, 1, 62, 0), (62, .invokestatic 55, 3, 65, 0), (65, .iconst (-1), 1, 66, 0), (66, .ixor, 1, 67, 0), (67, .iand, 1, 68, 0), (68, .istore 5, 2, 70, 0), (70, .iinc 6 1, 3, 73, 0), (73, .goto (-67), 3, 76, 6), (76, .iload 5, 2, 78, 0), (78, .ireturn, 1, 79, 0)])
theorem kX3_leftOf : okc cX3_leftOf (tb mX3_leftOf) = true := by decide +kernel
def mX3_leftByCurls : MD := (yX3_leftByCurls, cX3_leftByCurls, 4, (some .int), (2, 49), [(0, .aload_n 1, 1, 1, 0), (1, .invokevirtual 24, 3, 4, 0), (4, .istore_n 2, 1, 5, 0), (5, .iconst 0, 1, 6, 0), (6, .istore_n 3, 1, 7, 0), (7, .iload_n 3, 1, 8, 0), (8, .bipush 8, 2, 10, 0), (10, .if_icmp .ge 29, 3, 13, 39), (13, .aload_n 0, 1, 14, 0), (14, .aload_n 0, 1, 15, 0), (15, .aload_n 1, 1, 16, 0), (16, .iload_n 2, 1, 17, 0), (17, .iconst 0, 1, 18, 0), (18, .invokevirtual 38, 3, 21, 0), (21, .invokevirtual 42, 3, 24, 0), (24, .iload_n 2, 1, 25, 0), (25, .aload_n 0, 1, 26, 0), (26, .getfield 52, 3, 29, 0), (29, .iconst (-1), 1, 30, 0), (30, .ixor, 1, 31, 0), (31, .iand, 1, 32, 0), (32, .istore_n 2, 1, 33, 0), (33, .iinc 3 1, 3, 36, 0), (36, .goto (-29), 3, 39, 7), (39, .iload_n 2, 1, 40, 0), (40, .ireturn, 1, 41, 0)])
theorem kX3_leftByCurls : okc cX3_leftByCurls (tb mX3_leftByCurls) = true := by decide +kernel
def mX4_begin : MD := (yX4_begin, cX4_begin, 1, none, (0, 0), [(0, .aload_n 0, 1, 1, 0), (1, .iconst 0, 1, 2, 0), (2, .putfield 15, 3, 5, 0), (5, .aload_n 0, 1, 6, 0), (6, .iconst 0, 1, 7, 0), (7, .putfield 19, 3, 10, 0), (10, .return_, 1, 11, 0)])
theorem kX4_begin : okc cX4_begin (tb mX4_begin) = true := by decide +kernel
def mX4_knows : MD := (yX4_knows, cX4_knows, 2, (some .boolean), (1, 21), [(0, .aload_n 0, 1, 1, 0), (1, .getfield 15, 3, 4, 0), (4, .iload_n 1, 1, 5, 0), (5, .invokestatic 22, 3, 8, 0), (8, .ireturn, 1, 9, 0)])
theorem kX4_knows : okc cX4_knows (tb mX4_knows) = true := by decide +kernel
def mX4_numberOf : MD := (yX4_numberOf, cX4_numberOf, 2, (some .int), (2, 42), [(0, .iload_n 1, 1, 1, 0), (1, .ifCond .lt 9, 3, 4, 10), (4, .iload_n 1, 1, 5, 0), (5, .bipush 26, 2, 7, 0), (7, .if_icmp .lt 5, 3, 10, 12), (10, .iconst 0, 1, 11, 0), (11, .ireturn, 1, 12, 0), (12, .aload_n 0, 1, 13, 0), (13, .iload_n 1, 1, 14, 0), (14, .invokevirtual 26, 3, 17, 0), (17, .ifCond .ne 35, 3, 20, 52), (20, .aload_n 0, 1, 21, 0), (21, .dup, 1, 22, 0), (22, .getfield 15, 3, 25, 0), (25, .iconst 1, 1, 26, 0), (26, .iload_n 1, 1, 27, 0), (27, .ishl, 1, 28, 0), (28, .ior, 1, 29, 0), (29, .putfield 15, 3, 32, 0), (32, .aload_n 0, 1, 33, 0), (33, .getfield 9, 3, 36, 0), (36, .iload_n 1, 1, 37, 0), (37, .aload_n 0, 1, 38, 0), (38, .getfield 19, 3, 41, 0), (41, .iastore, 1, 42, 0), (42, .aload_n 0, 1, 43, 0), (43, .dup, 1, 44, 0), (44, .getfield 19, 3, 47, 0), (47, .iconst 1, 1, 48, 0), (48, .iadd, 1, 49, 0), (49, .putfield 19, 3, 52, 0), (52, .aload_n 0, 1, 53, 0), (53, .getfield 9, 3, 56, 0), (56, .iload_n 1, 1, 57, 0), (57, .iaload, 1, 58, 0), (58, .ireturn, 1, 59, 0)])
theorem kX4_numberOf : okc cX4_numberOf (tb mX4_numberOf) = true := by decide +kernel
def mX5_addLetter : MD := (yX5_addLetter, cX5_addLetter, 2, (some .boolean), (0, 0), [(0, .aload_n 0, 1, 1, 0), (1, .getfield 33, 3, 4, 0), (4, .ifCond .lt 13, 3, 7, 17), (7, .aload_n 0, 1, 8, 0), (8, .getfield 33, 3, 11, 0), (11, .sipush 240, 3, 14, 0), (14, .if_icmp .lt 5, 3, 17, 19), (17, .iconst 0, 1, 18, 0), (18, .ireturn, 1, 19, 0), (19, .aload_n 0, 1, 20, 0), (20, .getfield 9, 3, 23, 0), (23, .aload_n 0, 1, 24, 0), (24, .getfield 33, 3, 27, 0), (27, .iload_n 1, 1, 28, 0), (28, .iastore, 1, 29, 0), (29, .aload_n 0, 1, 30, 0), (30, .dup, 1, 31, 0), (31, .getfield 33, 3, 34, 0), (34, .iconst 1, 1, 35, 0), (35, .iadd, 1, 36, 0), (36, .putfield 33, 3, 39, 0), (39, .iconst 1, 1, 40, 0), (40, .ireturn, 1, 41, 0)])
theorem kX5_addLetter : okc cX5_addLetter (tb mX5_addLetter) = true := by decide +kernel
def mX5_readBlank : MD := (yX5_readBlank, cX5_readBlank, 1, (some .int), (0, 0), [(0, .aload_n 0, 1, 1, 0), (1, .getfield 44, 3, 4, 0), (4, .iconst 2, 1, 5, 0), (5, .if_icmp .ne 8, 3, 8, 13), (8, .aload_n 0, 1, 9, 0), (9, .iconst 3, 1, 10, 0), (10, .putfield 44, 3, 13, 0), (13, .iconst 0, 1, 14, 0), (14, .ireturn, 1, 15, 0)])
theorem kX5_readBlank : okc cX5_readBlank (tb mX5_readBlank) = true := by decide +kernel
def mX5_readClause : MD := (yX5_readClause, cX5_readClause, 2, (some .int), (1, 20), [(0, .iload_n 1, 1, 1, 0), (1, .bipush 117, 2, 3, 0), (3, .if_icmp .ne 5, 3, 6, 8), (6, .iconst 3, 1, 7, 0), (7, .ireturn, 1, 8, 0), (8, .iload_n 1, 1, 9, 0), (9, .bipush 107, 2, 11, 0), (11, .if_icmp .eq 5, 3, 14, 16), (14, .iconst 1, 1, 15, 0), (15, .ireturn, 1, 16, 0), (16, .aload_n 0, 1, 17, 0), (17, .getfield 15, 3, 20, 0), (20, .getfield 36, 3, 23, 0), (23, .iconst 5, 1, 24, 0), (24, .if_icmp .lt 5, 3, 27, 29), (27, .iconst 3, 1, 28, 0), (28, .ireturn, 1, 29, 0), (29, .aload_n 0, 1, 30, 0), (30, .iconst 5, 1, 31, 0), (31, .putfield 44, 3, 34, 0), (34, .aload_n 0, 1, 35, 0), (35, .getfield 22, 3, 38, 0), (38, .invokevirtual 88, 3, 41, 0), (41, .aload_n 0, 1, 42, 0), (42, .iconst 0, 1, 43, 0), (43, .putfield 91, 3, 46, 0), (46, .aload_n 0, 1, 47, 0), (47, .iconst 0, 1, 48, 0), (48, .putfield 94, 3, 51, 0), (51, .iconst 0, 1, 52, 0), (52, .ireturn, 1, 53, 0)])
theorem kX5_readClause : okc cX5_readClause (tb mX5_readClause) = true := by decide +kernel
def mX5_isFigure : MD := (yX5_isFigure, cX5_isFigure, 1, (some .boolean), (0, 0), [(0, .iload_n 0, 1, 1, 0), (1, .bipush 48, 2, 3, 0), (3, .if_icmp .lt 13, 3, 6, 16), (6, .iload_n 0, 1, 7, 0), (7, .bipush 57, 2, 9, 0), (9, .if_icmp .gt 7, 3, 12, 16), (12, .iconst 1, 1, 13, 0), (13, .goto 4, 3, 16, 17), (16, .iconst 0, 1, 17, 0), (17, .ireturn, 1, 18, 0)])
theorem kX5_isFigure : okc cX5_isFigure (tb mX5_isFigure) = true := by decide +kernel
def mX5_readFirstFigure : MD := (yX5_readFirstFigure, cX5_readFirstFigure, 3, (some .int), (1, 20), [(0, .iload_n 1, 1, 1, 0), (1, .invokestatic 81, 3, 4, 0), (4, .ifCond .ne 5, 3, 7, 9), (7, .iconst 1, 1, 8, 0), (8, .ireturn, 1, 9, 0), (9, .aload_n 0, 1, 10, 0), (10, .iconst 2, 1, 11, 0), (11, .putfield 44, 3, 14, 0), (14, .aload_n 0, 1, 15, 0), (15, .iload_n 2, 1, 16, 0), (16, .putfield 55, 3, 19, 0), (19, .aload_n 0, 1, 20, 0), (20, .iconst 1, 1, 21, 0), (21, .putfield 85, 3, 24, 0), (24, .aload_n 0, 1, 25, 0), (25, .getfield 15, 3, 28, 0), (28, .iload_n 1, 1, 29, 0), (29, .bipush 48, 2, 31, 0), (31, .isub, 1, 32, 0), (32, .putfield 41, 3, 35, 0), (35, .iconst 0, 1, 36, 0), (36, .ireturn, 1, 37, 0)])
theorem kX5_readFirstFigure : okc cX5_readFirstFigure (tb mX5_readFirstFigure) = true := by decide +kernel
def mX5_readNumbersEnd : MD := (yX5_readNumbersEnd, cX5_readNumbersEnd, 2, (some .int), (0, 0), [(0, .iload_n 1, 1, 1, 0), (1, .bipush 59, 2, 3, 0), (3, .if_icmp .eq 5, 3, 6, 8), (6, .iconst 1, 1, 7, 0), (7, .ireturn, 1, 8, 0), (8, .aload_n 0, 1, 9, 0), (9, .iconst 4, 1, 10, 0), (10, .putfield 44, 3, 13, 0), (13, .iconst 0, 1, 14, 0), (14, .ireturn, 1, 15, 0)])
theorem kX5_readNumbersEnd : okc cX5_readNumbersEnd (tb mX5_readNumbersEnd) = true := by decide +kernel
def mX5_readNumber : MD := (yX5_readNumber, cX5_readNumber, 2, (some .int), (1, 21), [(0, .iload_n 1, 1, 1, 0), (1, .invokestatic 81, 3, 4, 0), (4, .ifCond .ne 9, 3, 7, 13), (7, .aload_n 0, 1, 8, 0), (8, .iload_n 1, 1, 9, 0), (9, .invokevirtual 72, 3, 12, 0), (12, .ireturn, 1, 13, 0), (13, .aload_n 0, 1, 14, 0), (14, .dup, 1, 15, 0), (15, .getfield 85, 3, 18, 0), (18, .iconst 1, 1, 19, 0), (19, .iadd, 1, 20, 0), (20, .putfield 85, 3, 23, 0), (23, .aload_n 0, 1, 24, 0), (24, .getfield 15, 3, 27, 0), (27, .bipush 10, 2, 29, 0), (29, .aload_n 0, 1, 30, 0), (30, .getfield 15, 3, 33, 0), (33, .getfield 41, 3, 36, 0), (36, .imul, 1, 37, 0), (37, .iload_n 1, 1, 38, 0), (38, .iadd, 1, 39, 0), (39, .bipush 48, 2, 41, 0), (41, .isub, 1, 42, 0), (42, .putfield 41, 3, 45, 0), (45, .aload_n 0, 1, 46, 0), (46, .getfield 85, 3, 49, 0), (49, .iconst 3, 1, 50, 0), (50, .if_icmp .gt 15, 3, 53, 65), (53, .aload_n 0, 1, 54, 0), (54, .getfield 15, 3, 57, 0), (57, .getfield 41, 3, 60, 0), (60, .bipush 99, 2, 62, 0), (62, .if_icmp .le 7, 3, 65, 69), (65, .iconst 2, 1, 66, 0), (66, .goto 4, 3, 69, 70), (69, .iconst 0, 1, 70, 0), (70, .ireturn, 1, 71, 0)])
theorem kX5_readNumber : okc cX5_readNumber (tb mX5_readNumber) = true := by decide +kernel
def mX5_readStart : MD := (yX5_readStart, cX5_readStart, 2, (some .int), (0, 0), [(0, .iload_n 1, 1, 1, 0), (1, .bipush 117, 2, 3, 0), (3, .if_icmp .eq 5, 3, 6, 8), (6, .iconst 1, 1, 7, 0), (7, .ireturn, 1, 8, 0), (8, .aload_n 0, 1, 9, 0), (9, .iconst 1, 1, 10, 0), (10, .putfield 44, 3, 13, 0), (13, .iconst 0, 1, 14, 0), (14, .ireturn, 1, 15, 0)])
theorem kX5_readStart : okc cX5_readStart (tb mX5_readStart) = true := by decide +kernel
def mJ6_bitCount_0f7a4 : MD := (yJ6_bitCount_0f7a4, cJ6_bitCount_0f7a4, 1, (some .int), (0, 0), [(0, .iload_n 0, 1, 1, 0), (1, .iload_n 0, 1, 2, 0), (2, .iconst 1, 1, 3, 0), (3, .iushr, 1, 4, 0), (4, .ldc_w 265, 3, 7, 0), (7, .iand, 1, 8, 0), (8, .isub, 1, 9, 0), (9, .istore_n 0, 1, 10, 0), (10, .iload_n 0, 1, 11, 0), (11, .ldc_w 266, 3, 14, 0), (14, .iand, 1, 15, 0), (15, .iload_n 0, 1, 16, 0), (16, .iconst 2, 1, 17, 0), (17, .iushr, 1, 18, 0), (18, .ldc_w 266, 3, 21, 0), (21, .iand, 1, 22, 0), (22, .iadd, 1, 23, 0), (23, .istore_n 0, 1, 24, 0), (24, .iload_n 0, 1, 25, 0), (25, .iload_n 0, 1, 26, 0), (26, .iconst 4, 1, 27, 0), (27, .iushr, 1, 28, 0), (28, .iadd, 1, 29, 0), (29, .ldc_w 267, 3, 32, 0), (32, .iand, 1, 33, 0), (33, .istore_n 0, 1, 34, 0), (34, .iload_n 0, 1, 35, 0), (35, .iload_n 0, 1, 36, 0), (36, .bipush 8, 2, 38, 0), (38, .iushr, 1, 39, 0), (39, .iadd, 1, 40, 0), (40, .istore_n 0, 1, 41, 0), (41, .iload_n 0, 1, 42, 0), (42, .iload_n 0, 1, 43, 0), (43, .bipush 16, 2, 45, 0), (45, .iushr, 1, 46, 0), (46, .iadd, 1, 47, 0), (47, .istore_n 0, 1, 48, 0), (48, .iload_n 0, 1, 49, 0), (49, .bipush 63, 2, 51, 0), (51, .iand, 1, 52, 0), (52, .ireturn, 1, 53, 0)])
theorem kJ6_bitCount_0f7a4 : okc cJ6_bitCount_0f7a4 (tb mJ6_bitCount_0f7a4) = true := by decide +kernel
def mX5_readPass : MD := (yX5_readPass, cX5_readPass, 4, (some .int), (3, 63), [(0, .iload_n 2, 1, 1, 0), (1, .ifCond .eq 10, 3, 4, 11), (4, .aload_n 0, 1, 5, 0), (5, .getfield 91, 3, 8, 0), (8, .goto 7, 3, 11, 15), (11, .aload_n 0, 1, 12, 0), (12, .getfield 94, 3, 15, 0), (15, .iload_n 1, 1, 16, 0), (16, .invokestatic 104, 3, 19, 0), (19, .ifCond .eq 5, 3, 22, 24), (22, .iconst 4, 1, 23, 0), (23, .ireturn, 1, 24, 0), (24, .aload_n 0, 1, 25, 0), (25, .getfield 22, 3, 28, 0), (28, .iload_n 1, 1, 29, 0), (29, .invokevirtual 108, 3, 32, 0), (32, .ifCond .ne 17, 3, 35, 49), (35, .aload_n 0, 1, 36, 0), (36, .getfield 22, 3, 39, 0), (39, .getfield 111, 3, 42, 0), (42, .bipush 8, 2, 44, 0), (44, .if_icmp .lt 5, 3, 47, 49), (47, .iconst 3, 1, 48, 0), (48, .ireturn, 1, 49, 0), (49, .aload_n 0, 1, 50, 0), (50, .getfield 91, 3, 53, 0), (53, .invokestatic 114, 3, 56, 0), (56, .aload_n 0, 1, 57, 0), (57, .getfield 94, 3, 60, 0), (60, .invokestatic 114, 3, 63, 0), (63, .iadd, 1, 64, 0), (64, .istore_n 3, 1, 65, 0), (65, .iload_n 3, 1, 66, 0), (66, .bipush 16, 2, 68, 0), (68, .if_icmp .ge 29, 3, 71, 97), (71, .aload_n 0, 1, 72, 0), (72, .getfield 26, 3, 75, 0), (75, .iload_n 3, 1, 76, 0), (76, .iconst 2, 1, 77, 0), (77, .aload_n 0, 1, 78, 0), (78, .getfield 22, 3, 81, 0), (81, .iload_n 1, 1, 82, 0), (82, .invokevirtual 119, 3, 85, 0), (85, .imul, 1, 86, 0), (86, .iload_n 2, 1, 87, 0), (87, .ifCond .eq 7, 3, 90, 94), (90, .iconst 1, 1, 91, 0), (91, .goto 4, 3, 94, 95), (94, .iconst 0, 1, 95, 0), (95, .iadd, 1, 96, 0), (96, .iastore, 1, 97, 0), (97, .iload_n 2, 1, 98, 0), (98, .ifCond .eq 18, 3, 101, 116), (101, .aload_n 0, 1, 102, 0), (102, .dup, 1, 103, 0), (103, .getfield 91, 3, 106, 0), (106, .iconst 1, 1, 107, 0), (107, .iload_n 1, 1, 108, 0), (108, .ishl, 1, 109, 0), (109, .ior, 1, 110, 0), (110, .putfield 91, 3, 113, 0), (113, .goto 15, 3, 116, 128), (116, .aload_n 0, 1, 117, 0), (117, .dup, 1, 118, 0), (118, .getfield 94, 3, 121, 0), (121, .iconst 1, 1, 122, 0), (122, .iload_n 1, 1, 123, 0), (123, .ishl, 1, 124, 0), (124, .ior, 1, 125, 0), (125, .putfield 94, 3, 128, 0), (128, .iconst 0, 1, 129, 0), (129, .ireturn, 1, 130, 0)])
theorem kX5_readPass : okc cX5_readPass (tb mX5_readPass) = true := by decide +kernel
def mX6_makePlain : MD := (yX6_makePlain, cX6_makePlain, 1, none, (0, 0), [(0, .aload_n 0, 1, 1, 0), (1, .iconst 0, 1, 2, 0), (2, .putfield 19, 3, 5, 0), (5, .aload_n 0, 1, 6, 0), (6, .iconst 0, 1, 7, 0), (7, .putfield 27, 3, 10, 0), (10, .return_, 1, 11, 0)])
theorem kX6_makePlain : okc cX6_makePlain (tb mX6_makePlain) = true := by decide +kernel
def mX6_lay : MD := (yX6_lay, cX6_lay, 4, none, (1, 21), [(0, .aload_n 0, 1, 1, 0), (1, .invokevirtual 36, 3, 4, 0), (4, .iconst 0, 1, 5, 0), (5, .istore_n 3, 1, 6, 0), (6, .iload_n 3, 1, 7, 0), (7, .iconst 2, 1, 8, 0), (8, .iload_n 2, 1, 9, 0), (9, .imul, 1, 10, 0), (10, .if_icmp .ge 30, 3, 13, 40), (13, .iload_n 3, 1, 14, 0), (14, .bipush 16, 2, 16, 0), (16, .if_icmp .ge 24, 3, 19, 40), (19, .iload_n 3, 1, 20, 0), (20, .aload_n 1, 1, 21, 0), (21, .arraylength, 1, 22, 0), (22, .if_icmp .ge 18, 3, 25, 40), (25, .aload_n 0, 1, 26, 0), (26, .getfield 15, 3, 29, 0), (29, .iload_n 3, 1, 30, 0), (30, .aload_n 1, 1, 31, 0), (31, .iload_n 3, 1, 32, 0), (32, .iaload, 1, 33, 0), (33, .iastore, 1, 34, 0), (34, .iinc 3 1, 3, 37, 0), (37, .goto (-31), 3, 40, 6), (40, .aload_n 0, 1, 41, 0), (41, .iload_n 2, 1, 42, 0), (42, .bipush 8, 2, 44, 0), (44, .invokestatic 39, 3, 47, 0), (47, .putfield 19, 3, 50, 0), (50, .return_, 1, 51, 0)])
theorem kX6_lay : okc cX6_lay (tb mX6_lay) = true := by decide +kernel
def mX5_readThreadsEnd : MD := (yX5_readThreadsEnd, cX5_readThreadsEnd, 2, (some .int), (2, 44), [(0, .aload_n 0, 1, 1, 0), (1, .getfield 91, 3, 4, 0), (4, .aload_n 0, 1, 5, 0), (5, .getfield 94, 3, 8, 0), (8, .if_icmp .eq 5, 3, 11, 13), (11, .iconst 5, 1, 12, 0), (12, .ireturn, 1, 13, 0), (13, .aload_n 0, 1, 14, 0), (14, .getfield 15, 3, 17, 0), (17, .dup, 1, 18, 0), (18, .getfield 36, 3, 21, 0), (21, .iconst 1, 1, 22, 0), (22, .iadd, 1, 23, 0), (23, .putfield 36, 3, 26, 0), (26, .aload_n 0, 1, 27, 0), (27, .getfield 15, 3, 30, 0), (30, .aload_n 0, 1, 31, 0), (31, .getfield 15, 3, 34, 0), (34, .getfield 36, 3, 37, 0), (37, .iconst 1, 1, 38, 0), (38, .isub, 1, 39, 0), (39, .invokevirtual 122, 3, 42, 0), (42, .astore_n 1, 1, 43, 0), (43, .aload_n 1, 1, 44, 0), (44, .ifnull 18, 3, 47, 62), (47, .aload_n 1, 1, 48, 0), (48, .aload_n 0, 1, 49, 0), (49, .getfield 26, 3, 52, 0), (52, .aload_n 0, 1, 53, 0), (53, .getfield 22, 3, 56, 0), (56, .getfield 111, 3, 59, 0), (59, .invokevirtual 126, 3, 62, 0), (62, .aload_n 0, 1, 63, 0), (63, .iconst 4, 1, 64, 0), (64, .putfield 44, 3, 67, 0), (67, .iconst 0, 1, 68, 0), (68, .ireturn, 1, 69, 0)])
theorem kX5_readThreadsEnd : okc cX5_readThreadsEnd (tb mX5_readThreadsEnd) = true := by decide +kernel
def mX5_readThread : MD := (yX5_readThread, cX5_readThread, 2, (some .int), (4, 86), [(0, .iload_n 1, 1, 1, 0), (1, .bipush 65, 2, 3, 0), (3, .if_icmp .lt 19, 3, 6, 22), (6, .iload_n 1, 1, 7, 0), (7, .bipush 90, 2, 9, 0), (9, .if_icmp .gt 13, 3, 12, 22), (12, .aload_n 0, 1, 13, 0), (13, .iload_n 1, 1, 14, 0), (14, .bipush 65, 2, 16, 0), (16, .isub, 1, 17, 0), (17, .iconst 1, 1, 18, 0), (18, .invokevirtual 97, 3, 21, 0), (21, .ireturn, 1, 22, 0), (22, .iload_n 1, 1, 23, 0), (23, .bipush 97, 2, 25, 0), (25, .if_icmp .lt 19, 3, 28, 44), (28, .iload_n 1, 1, 29, 0), (29, .bipush 122, 2, 31, 0), (31, .if_icmp .gt 13, 3, 34, 44), (34, .aload_n 0, 1, 35, 0), (35, .iload_n 1, 1, 36, 0), (36, .bipush 97, 2, 38, 0), (38, .isub, 1, 39, 0), (39, .iconst 0, 1, 40, 0), (40, .invokevirtual 97, 3, 43, 0), (43, .ireturn, 1, 44, 0), (44, .iload_n 1, 1, 45, 0), (45, .bipush 59, 2, 47, 0), (47, .if_icmp .ne 10, 3, 50, 57), (50, .aload_n 0, 1, 51, 0), (51, .invokevirtual 101, 3, 54, 0), (54, .goto 4, 3, 57, 58), (57, .iconst 1, 1, 58, 0), (58, .ireturn, 1, 59, 0)])
theorem kX5_readThread : okc cX5_readThread (tb mX5_readThread) = true := by decide +kernel
def mX5_readLetter : MD := (yX5_readLetter, cX5_readLetter, 3, (some .int), (5, 107), [(0, .aload_n 0, 1, 1, 0), (1, .getfield 44, 3, 4, 0), (4, .tableswitch 67 0 4 #[36, 42, 49, 55, 61], 36, 40, 0), (40, .aload_n 0, 1, 41, 0), (41, .iload_n 1, 1, 42, 0), (42, .invokevirtual 62, 3, 45, 0), (45, .ireturn, 1, 46, 0), (46, .aload_n 0, 1, 47, 0), (47, .iload_n 1, 1, 48, 0), (48, .iload_n 2, 1, 49, 0), (49, .invokevirtual 66, 3, 52, 0), (52, .ireturn, 1, 53, 0), (53, .aload_n 0, 1, 54, 0), (54, .iload_n 1, 1, 55, 0), (55, .invokevirtual 69, 3, 58, 0), (58, .ireturn, 1, 59, 0), (59, .aload_n 0, 1, 60, 0), (60, .iload_n 1, 1, 61, 0), (61, .invokevirtual 72, 3, 64, 0), (64, .ireturn, 1, 65, 0), (65, .aload_n 0, 1, 66, 0), (66, .iload_n 1, 1, 67, 0), (67, .invokevirtual 75, 3, 70, 0), (70, .ireturn, 1, 71, 0), (71, .aload_n 0, 1, 72, 0), (72, .iload_n 1, 1, 73, 0), (73, .invokevirtual 78, 3, 76, 0), (76, .ireturn, 1, 77, 0)])
theorem kX5_readLetter : okc cX5_readLetter (tb mX5_readLetter) = true := by decide +kernel
def mX5_readText : MD := (yX5_readText, cX5_readText, 3, (some .int), (6, 129), [(0, .aload_n 0, 1, 1, 0), (1, .getfield 15, 3, 4, 0), (4, .iconst 0, 1, 5, 0), (5, .putfield 36, 3, 8, 0), (8, .aload_n 0, 1, 9, 0), (9, .getfield 15, 3, 12, 0), (12, .iconst 0, 1, 13, 0), (13, .putfield 41, 3, 16, 0), (16, .aload_n 0, 1, 17, 0), (17, .iconst 0, 1, 18, 0), (18, .putfield 44, 3, 21, 0), (21, .iconst 0, 1, 22, 0), (22, .istore_n 1, 1, 23, 0), (23, .iload_n 1, 1, 24, 0), (24, .aload_n 0, 1, 25, 0), (25, .getfield 33, 3, 28, 0), (28, .if_icmp .ge 69, 3, 31, 97), (31, .iload_n 1, 1, 32, 0), (32, .sipush 240, 3, 35, 0), (35, .if_icmp .ge 62, 3, 38, 97), (38, .aload_n 0, 1, 39, 0), (39, .getfield 9, 3, 42, 0), (42, .iload_n 1, 1, 43, 0), (43, .iaload, 1, 44, 0), (44, .bipush 32, 2, 46, 0), (46, .if_icmp .ne 10, 3, 49, 56), (49, .aload_n 0, 1, 50, 0), (50, .invokevirtual 47, 3, 53, 0), (53, .goto 14, 3, 56, 67), (56, .aload_n 0, 1, 57, 0), (57, .aload_n 0, 1, 58, 0), (58, .getfield 9, 3, 61, 0), (61, .iload_n 1, 1, 62, 0), (62, .iaload, 1, 63, 0), (63, .iload_n 1, 1, 64, 0), (64, .invokevirtual 51, 3, 67, 0), (67, .istore_n 2, 1, 68, 0), (68, .iload_n 2, 1, 69, 0), (69, .ifCond .eq 22, 3, 72, 91), (72, .aload_n 0, 1, 73, 0), (73, .iload_n 2, 1, 74, 0), (74, .iconst 2, 1, 75, 0), (75, .if_icmp .ne 10, 3, 78, 85), (78, .aload_n 0, 1, 79, 0), (79, .getfield 55, 3, 82, 0), (82, .goto 4, 3, 85, 86), (85, .iload_n 1, 1, 86, 0), (86, .putfield 29, 3, 89, 0), (89, .iload_n 2, 1, 90, 0), (90, .ireturn, 1, 91, 0), (91, .iinc 1 1, 3, 94, 0), (94, .goto (-71), 3, 97, 23), (97, .aload_n 0, 1, 98, 0), (98, .getfield 44, 3, 101, 0), (101, .ifCond .eq 11, 3, 104, 112), (104, .aload_n 0, 1, 105, 0), (105, .getfield 44, 3, 108, 0), (108, .iconst 4, 1, 109, 0), (109, .if_icmp .ne 7, 3, 112, 116), (112, .iconst 1, 1, 113, 0), (113, .goto 4, 3, 116, 117), (116, .iconst 0, 1, 117, 0), (117, .istore_n 1, 1, 118, 0), (118, .aload_n 0, 1, 119, 0), (119, .iload_n 1, 1, 120, 0), (120, .ifCond .eq 19, 3, 123, 139), (123, .aload_n 0, 1, 124, 0), (124, .getfield 44, 3, 127, 0), (127, .iconst 4, 1, 128, 0), (128, .if_icmp .ne 7, 3, 131, 135), (131, .iconst 1, 1, 132, 0), (132, .goto 11, 3, 135, 143), (135, .iconst 0, 1, 136, 0), (136, .goto 7, 3, 139, 143), (139, .aload_n 0, 1, 140, 0), (140, .getfield 58, 3, 143, 0), (143, .putfield 58, 3, 146, 0), (146, .aload_n 0, 1, 147, 0), (147, .iload_n 1, 1, 148, 0), (148, .ifCond .eq 7, 3, 151, 155), (151, .iconst (-1), 1, 152, 0), (152, .goto 7, 3, 155, 159), (155, .aload_n 0, 1, 156, 0), (156, .getfield 33, 3, 159, 0), (159, .putfield 29, 3, 162, 0), (162, .iload_n 1, 1, 163, 0), (163, .ifCond .eq 7, 3, 166, 170), (166, .iconst 0, 1, 167, 0), (167, .goto 4, 3, 170, 171), (170, .iconst 1, 1, 171, 0), (171, .ireturn, 1, 172, 0)])
theorem kX5_readText : okc cX5_readText (tb mX5_readText) = true := by decide +kernel
def mX6_has : MD := (yX6_has, cX6_has, 2, (some .boolean), (0, 0), [(0, .iload_n 1, 1, 1, 0), (1, .ifCond .lt 15, 3, 4, 16), (4, .iload_n 1, 1, 5, 0), (5, .aload_n 0, 1, 6, 0), (6, .getfield 19, 3, 9, 0), (9, .if_icmp .ge 7, 3, 12, 16), (12, .iconst 1, 1, 13, 0), (13, .goto 4, 3, 16, 17), (16, .iconst 0, 1, 17, 0), (17, .ireturn, 1, 18, 0)])
theorem kX6_has : okc cX6_has (tb mX6_has) = true := by decide +kernel
def mX6_passAt : MD := (yX6_passAt, cX6_passAt, 2, (some .int), (1, 20), [(0, .iload_n 1, 1, 1, 0), (1, .ifCond .lt 20, 3, 4, 21), (4, .iload_n 1, 1, 5, 0), (5, .aload_n 0, 1, 6, 0), (6, .invokevirtual 23, 3, 9, 0), (9, .if_icmp .ge 12, 3, 12, 21), (12, .aload_n 0, 1, 13, 0), (13, .getfield 15, 3, 16, 0), (16, .iload_n 1, 1, 17, 0), (17, .iaload, 1, 18, 0), (18, .goto 4, 3, 21, 22), (21, .iconst (-1), 1, 22, 0), (22, .ireturn, 1, 23, 0)])
theorem kX6_passAt : okc cX6_passAt (tb mX6_passAt) = true := by decide +kernel
def mX6_numberAnew : MD := (yX6_numberAnew, cX6_numberAnew, 5, none, (3, 63), [(0, .iconst 0, 1, 1, 0), (1, .istore_n 1, 1, 2, 0), (2, .aload_n 0, 1, 3, 0), (3, .getfield 9, 3, 6, 0), (6, .invokevirtual 45, 3, 9, 0), (9, .iconst 0, 1, 10, 0), (10, .istore_n 2, 1, 11, 0), (11, .iload_n 2, 1, 12, 0), (12, .aload_n 0, 1, 13, 0), (13, .invokevirtual 23, 3, 16, 0), (16, .if_icmp .ge 62, 3, 19, 78), (19, .aload_n 0, 1, 20, 0), (20, .getfield 15, 3, 23, 0), (23, .iload_n 2, 1, 24, 0), (24, .iaload, 1, 25, 0), (25, .invokestatic 50, 3, 28, 0), (28, .istore_n 3, 1, 29, 0), (29, .aload_n 0, 1, 30, 0), (30, .getfield 9, 3, 33, 0), (33, .iload_n 3, 1, 34, 0), (34, .invokevirtual 54, 3, 37, 0), (37, .istore 4, 2, 39, 0), (39, .iload_n 1, 1, 40, 0), (40, .aload_n 0, 1, 41, 0), (41, .getfield 27, 3, 44, 0), (44, .iload_n 3, 1, 45, 0), (45, .ishr, 1, 46, 0), (46, .iconst 1, 1, 47, 0), (47, .iand, 1, 48, 0), (48, .iload 4, 2, 50, 0), (50, .ishl, 1, 51, 0), (51, .ior, 1, 52, 0), (52, .istore_n 1, 1, 53, 0), (53, .aload_n 0, 1, 54, 0), (54, .getfield 15, 3, 57, 0), (57, .iload_n 2, 1, 58, 0), (58, .iconst 2, 1, 59, 0), (59, .iload 4, 2, 61, 0), (61, .imul, 1, 62, 0), (62, .aload_n 0, 1, 63, 0), (63, .getfield 15, 3, 66, 0), (66, .iload_n 2, 1, 67, 0), (67, .iaload, 1, 68, 0), (68, .iconst 1, 1, 69, 0), (69, .iand, 1, 70, 0), (70, .iadd, 1, 71, 0), (71, .iastore, 1, 72, 0), (72, .iinc 2 1, 3, 75, 0), (75, .goto (-64), 3, 78, 11), (78, .aload_n 0, 1, 79, 0), (79, .iload_n 1, 1, 80, 0), (80, .putfield 27, 3, 83, 0), (83, .return_, 1, 84, 0)])
theorem kX6_numberAnew : okc cX6_numberAnew (tb mX6_numberAnew) = true := by decide +kernel
def mX6_takeAway : MD := (yX6_takeAway, cX6_takeAway, 4, none, (4, 87), [(0, .iconst 0, 1, 1, 0), (1, .istore_n 2, 1, 2, 0), (2, .iconst 0, 1, 3, 0), (3, .istore_n 3, 1, 4, 0), (4, .iload_n 3, 1, 5, 0), (5, .aload_n 0, 1, 6, 0), (6, .invokevirtual 23, 3, 9, 0), (9, .if_icmp .ge 40, 3, 12, 49), (12, .iload_n 1, 1, 13, 0), (13, .aload_n 0, 1, 14, 0), (14, .getfield 15, 3, 17, 0), (17, .iload_n 3, 1, 18, 0), (18, .iaload, 1, 19, 0), (19, .invokestatic 50, 3, 22, 0), (22, .invokestatic 57, 3, 25, 0), (25, .ifCond .ne 18, 3, 28, 43), (28, .aload_n 0, 1, 29, 0), (29, .getfield 15, 3, 32, 0), (32, .iload_n 2, 1, 33, 0), (33, .aload_n 0, 1, 34, 0), (34, .getfield 15, 3, 37, 0), (37, .iload_n 3, 1, 38, 0), (38, .iaload, 1, 39, 0), (39, .iastore, 1, 40, 0), (40, .iinc 2 1, 3, 43, 0), (43, .iinc 3 1, 3, 46, 0), (46, .goto (-42), 3, 49, 4), (49, .aload_n 0, 1, 50, 0), (50, .iload_n 2, 1, 51, 0), (51, .iconst 2, 1, 52, 0), (52, .idiv, 1, 53, 0), (53, .putfield 19, 3, 56, 0), (56, .aload_n 0, 1, 57, 0), (57, .invokevirtual 61, 3, 60, 0), (60, .return_, 1, 61, 0)])
theorem kX6_takeAway : okc cX6_takeAway (tb mX6_takeAway) = true := by decide +kernel
def mX6_addCurl : MD := (yX6_addCurl, cX6_addCurl, 4, none, (4, 87), [(0, .iload_n 1, 1, 1, 0), (1, .ifCond .lt 20, 3, 4, 21), (4, .iload_n 1, 1, 5, 0), (5, .aload_n 0, 1, 6, 0), (6, .invokevirtual 23, 3, 9, 0), (9, .if_icmp .gt 12, 3, 12, 21), (12, .aload_n 0, 1, 13, 0), (13, .getfield 19, 3, 16, 0), (16, .bipush 8, 2, 18, 0), (18, .if_icmp .lt 4, 3, 21, 22), (21, .return_, 1, 22, 0), (22, .aload_n 0, 1, 23, 0), (23, .invokevirtual 23, 3, 26, 0), (26, .iconst 1, 1, 27, 0), (27, .isub, 1, 28, 0), (28, .istore_n 3, 1, 29, 0), (29, .iload_n 3, 1, 30, 0), (30, .iload_n 1, 1, 31, 0), (31, .if_icmp .lt 23, 3, 34, 54), (34, .aload_n 0, 1, 35, 0), (35, .getfield 15, 3, 38, 0), (38, .iload_n 3, 1, 39, 0), (39, .iconst 2, 1, 40, 0), (40, .iadd, 1, 41, 0), (41, .aload_n 0, 1, 42, 0), (42, .getfield 15, 3, 45, 0), (45, .iload_n 3, 1, 46, 0), (46, .iaload, 1, 47, 0), (47, .iastore, 1, 48, 0), (48, .iinc 3 (-1), 3, 51, 0), (51, .goto (-22), 3, 54, 29), (54, .aload_n 0, 1, 55, 0), (55, .getfield 15, 3, 58, 0), (58, .iload_n 1, 1, 59, 0), (59, .iconst 2, 1, 60, 0), (60, .aload_n 0, 1, 61, 0), (61, .getfield 19, 3, 64, 0), (64, .imul, 1, 65, 0), (65, .iload_n 2, 1, 66, 0), (66, .ifCond .eq 7, 3, 69, 73), (69, .iconst 1, 1, 70, 0), (70, .goto 4, 3, 73, 74), (73, .iconst 0, 1, 74, 0), (74, .iadd, 1, 75, 0), (75, .iastore, 1, 76, 0), (76, .aload_n 0, 1, 77, 0), (77, .getfield 15, 3, 80, 0), (80, .iload_n 1, 1, 81, 0), (81, .iconst 1, 1, 82, 0), (82, .iadd, 1, 83, 0), (83, .iconst 2, 1, 84, 0), (84, .aload_n 0, 1, 85, 0), (85, .getfield 19, 3, 88, 0), (88, .imul, 1, 89, 0), (89, .iload_n 2, 1, 90, 0), (90, .ifCond .eq 7, 3, 93, 97), (93, .iconst 0, 1, 94, 0), (94, .goto 4, 3, 97, 98), (97, .iconst 1, 1, 98, 0), (98, .iadd, 1, 99, 0), (99, .iastore, 1, 100, 0), (100, .aload_n 0, 1, 101, 0), (101, .dup, 1, 102, 0), (102, .getfield 19, 3, 105, 0), (105, .iconst 1, 1, 106, 0), (106, .iadd, 1, 107, 0), (107, .putfield 19, 3, 110, 0), (110, .aload_n 0, 1, 111, 0), (111, .invokevirtual 61, 3, 114, 0), (114, .return_, 1, 115, 0)])
theorem kX6_addCurl : okc cX6_addCurl (tb mX6_addCurl) = true := by decide +kernel
def mX6_switchSet : MD := (yX6_switchSet, cX6_switchSet, 3, none, (1, 20), [(0, .iconst 0, 1, 1, 0), (1, .istore_n 2, 1, 2, 0), (2, .iload_n 2, 1, 3, 0), (3, .aload_n 0, 1, 4, 0), (4, .invokevirtual 23, 3, 7, 0), (7, .if_icmp .ge 31, 3, 10, 38), (10, .aload_n 0, 1, 11, 0), (11, .getfield 15, 3, 14, 0), (14, .iload_n 2, 1, 15, 0), (15, .dup2, 1, 16, 0), (16, .iaload, 1, 17, 0), (17, .iload_n 1, 1, 18, 0), (18, .aload_n 0, 1, 19, 0), (19, .getfield 15, 3, 22, 0), (22, .iload_n 2, 1, 23, 0), (23, .iaload, 1, 24, 0), (24, .invokestatic 50, 3, 27, 0), (27, .ishr, 1, 28, 0), (28, .iconst 1, 1, 29, 0), (29, .iand, 1, 30, 0), (30, .ixor, 1, 31, 0), (31, .iastore, 1, 32, 0), (32, .iinc 2 1, 3, 35, 0), (35, .goto (-33), 3, 38, 2), (38, .return_, 1, 39, 0)])
theorem kX6_switchSet : okc cX6_switchSet (tb mX6_switchSet) = true := by decide +kernel
def mX6_goTheOtherWay : MD := (yX6_goTheOtherWay, cX6_goTheOtherWay, 4, none, (4, 87), [(0, .aload_n 0, 1, 1, 0), (1, .invokevirtual 23, 3, 4, 0), (4, .iconst 1, 1, 5, 0), (5, .isub, 1, 6, 0), (6, .istore_n 1, 1, 7, 0), (7, .iconst 0, 1, 8, 0), (8, .istore_n 2, 1, 9, 0), (9, .iload_n 2, 1, 10, 0), (10, .aload_n 0, 1, 11, 0), (11, .getfield 19, 3, 14, 0), (14, .if_icmp .ge 39, 3, 17, 53), (17, .aload_n 0, 1, 18, 0), (18, .getfield 15, 3, 21, 0), (21, .iload_n 2, 1, 22, 0), (22, .iaload, 1, 23, 0), (23, .istore_n 3, 1, 24, 0), (24, .aload_n 0, 1, 25, 0), (25, .getfield 15, 3, 28, 0), (28, .iload_n 2, 1, 29, 0), (29, .aload_n 0, 1, 30, 0), (30, .getfield 15, 3, 33, 0), (33, .iload_n 1, 1, 34, 0), (34, .iload_n 2, 1, 35, 0), (35, .isub, 1, 36, 0), (36, .iaload, 1, 37, 0), (37, .iastore, 1, 38, 0), (38, .aload_n 0, 1, 39, 0), (39, .getfield 15, 3, 42, 0), (42, .iload_n 1, 1, 43, 0), (43, .iload_n 2, 1, 44, 0), (44, .isub, 1, 45, 0), (45, .iload_n 3, 1, 46, 0), (46, .iastore, 1, 47, 0), (47, .iinc 2 1, 3, 50, 0), (50, .goto (-41), 3, 53, 9), (53, .aload_n 0, 1, 54, 0), (54, .invokevirtual 61, 3, 57, 0), (57, .return_, 1, 58, 0)])
theorem kX6_goTheOtherWay : okc cX6_goTheOtherWay (tb mX6_goTheOtherWay) = true := by decide +kernel
def mX6_rollOnce : MD := (yX6_rollOnce, cX6_rollOnce, 3, none, (4, 87), [(0, .aload_n 0, 1, 1, 0), (1, .getfield 15, 3, 4, 0), (4, .iconst 0, 1, 5, 0), (5, .iaload, 1, 6, 0), (6, .istore_n 1, 1, 7, 0), (7, .iconst 1, 1, 8, 0), (8, .istore_n 2, 1, 9, 0), (9, .iload_n 2, 1, 10, 0), (10, .aload_n 0, 1, 11, 0), (11, .invokevirtual 23, 3, 14, 0), (14, .if_icmp .ge 23, 3, 17, 37), (17, .aload_n 0, 1, 18, 0), (18, .getfield 15, 3, 21, 0), (21, .iload_n 2, 1, 22, 0), (22, .iconst 1, 1, 23, 0), (23, .isub, 1, 24, 0), (24, .aload_n 0, 1, 25, 0), (25, .getfield 15, 3, 28, 0), (28, .iload_n 2, 1, 29, 0), (29, .iaload, 1, 30, 0), (30, .iastore, 1, 31, 0), (31, .iinc 2 1, 3, 34, 0), (34, .goto (-25), 3, 37, 9), (37, .aload_n 0, 1, 38, 0), (38, .getfield 19, 3, 41, 0), (41, .ifCond .le 15, 3, 44, 56), (44, .aload_n 0, 1, 45, 0), (45, .getfield 15, 3, 48, 0), (48, .aload_n 0, 1, 49, 0), (49, .invokevirtual 23, 3, 52, 0), (52, .iconst 1, 1, 53, 0), (53, .isub, 1, 54, 0), (54, .iload_n 1, 1, 55, 0), (55, .iastore, 1, 56, 0), (56, .aload_n 0, 1, 57, 0), (57, .invokevirtual 61, 3, 60, 0), (60, .return_, 1, 61, 0)])
theorem kX6_rollOnce : okc cX6_rollOnce (tb mX6_rollOnce) = true := by decide +kernel
def mX6_append : MD := (yX6_append, cX6_append, 3, none, (1, 20), [(0, .aload_n 0, 1, 1, 0), (1, .getfield 19, 3, 4, 0), (4, .aload_n 1, 1, 5, 0), (5, .getfield 19, 3, 8, 0), (8, .iadd, 1, 9, 0), (9, .bipush 8, 2, 11, 0), (11, .if_icmp .le 4, 3, 14, 15), (14, .return_, 1, 15, 0), (15, .iconst 0, 1, 16, 0), (16, .istore_n 2, 1, 17, 0), (17, .iload_n 2, 1, 18, 0), (18, .aload_n 1, 1, 19, 0), (19, .invokevirtual 23, 3, 22, 0), (22, .if_icmp .ge 33, 3, 25, 55), (25, .aload_n 0, 1, 26, 0), (26, .getfield 15, 3, 29, 0), (29, .aload_n 0, 1, 30, 0), (30, .invokevirtual 23, 3, 33, 0), (33, .iload_n 2, 1, 34, 0), (34, .iadd, 1, 35, 0), (35, .aload_n 1, 1, 36, 0), (36, .getfield 15, 3, 39, 0), (39, .iload_n 2, 1, 40, 0), (40, .iaload, 1, 41, 0), (41, .iconst 2, 1, 42, 0), (42, .aload_n 0, 1, 43, 0), (43, .getfield 19, 3, 46, 0), (46, .imul, 1, 47, 0), (47, .iadd, 1, 48, 0), (48, .iastore, 1, 49, 0), (49, .iinc 2 1, 3, 52, 0), (52, .goto (-35), 3, 55, 17), (55, .aload_n 0, 1, 56, 0), (56, .dup, 1, 57, 0), (57, .getfield 27, 3, 60, 0), (60, .aload_n 1, 1, 61, 0), (61, .getfield 27, 3, 64, 0), (64, .aload_n 0, 1, 65, 0), (65, .getfield 19, 3, 68, 0), (68, .ishl, 1, 69, 0), (69, .ior, 1, 70, 0), (70, .putfield 27, 3, 73, 0), (73, .aload_n 0, 1, 74, 0), (74, .dup, 1, 75, 0), (75, .getfield 19, 3, 78, 0), (78, .aload_n 1, 1, 79, 0), (79, .getfield 19, 3, 82, 0), (82, .iadd, 1, 83, 0), (83, .putfield 19, 3, 86, 0), (86, .return_, 1, 87, 0)])
theorem kX6_append : okc cX6_append (tb mX6_append) = true := by decide +kernel
def mX6_lyingIn : MD := (yX6_lyingIn, cX6_lyingIn, 6, (some .int), (1, 20), [(0, .iconst 0, 1, 1, 0), (1, .istore_n 2, 1, 2, 0), (2, .iconst 0, 1, 3, 0), (3, .istore_n 3, 1, 4, 0), (4, .iconst 0, 1, 5, 0), (5, .istore 4, 2, 7, 0), (7, .iload 4, 2, 9, 0), (9, .aload_n 0, 1, 10, 0), (10, .invokevirtual 23, 3, 13, 0), (13, .if_icmp .ge 51, 3, 16, 64), (16, .aload_n 0, 1, 17, 0), (17, .getfield 15, 3, 20, 0), (20, .iload 4, 2, 22, 0), (22, .iaload, 1, 23, 0), (23, .invokestatic 50, 3, 26, 0), (26, .istore 5, 2, 28, 0), (28, .iload 5, 2, 30, 0), (30, .iload_n 1, 1, 31, 0), (31, .if_icmp .ne 16, 3, 34, 47), (34, .iload_n 3, 1, 35, 0), (35, .ifCond .ne 7, 3, 38, 42), (38, .iconst 1, 1, 39, 0), (39, .goto 4, 3, 42, 43), (42, .iconst 0, 1, 43, 0), (43, .istore_n 3, 1, 44, 0), (44, .goto 14, 3, 47, 58), (47, .iload_n 3, 1, 48, 0), (48, .ifCond .eq 10, 3, 51, 58), (51, .iload_n 2, 1, 52, 0), (52, .iconst 1, 1, 53, 0), (53, .iload 5, 2, 55, 0), (55, .ishl, 1, 56, 0), (56, .ixor, 1, 57, 0), (57, .istore_n 2, 1, 58, 0), (58, .iinc 4 1, 3, 61, 0), (61, .goto (-54), 3, 64, 7), (64, .iload_n 2, 1, 65, 0), (65, .ireturn, 1, 66, 0)])
theorem kX6_lyingIn : okc cX6_lyingIn (tb mX6_lyingIn) = true := by decide +kernel
def mX7_compare : MD := (yX7_compare, cX7_compare, 4, (some .int), (0, 0), [(0, .iconst 0, 1, 1, 0), (1, .istore_n 3, 1, 2, 0), (2, .iload_n 3, 1, 3, 0), (3, .iload_n 2, 1, 4, 0), (4, .if_icmp .ge 45, 3, 7, 49), (7, .iload_n 3, 1, 8, 0), (8, .aload_n 0, 1, 9, 0), (9, .arraylength, 1, 10, 0), (10, .if_icmp .ge 39, 3, 13, 49), (13, .iload_n 3, 1, 14, 0), (14, .aload_n 1, 1, 15, 0), (15, .arraylength, 1, 16, 0), (16, .if_icmp .ge 33, 3, 19, 49), (19, .aload_n 0, 1, 20, 0), (20, .iload_n 3, 1, 21, 0), (21, .iaload, 1, 22, 0), (22, .aload_n 1, 1, 23, 0), (23, .iload_n 3, 1, 24, 0), (24, .iaload, 1, 25, 0), (25, .if_icmp .eq 18, 3, 28, 43), (28, .aload_n 0, 1, 29, 0), (29, .iload_n 3, 1, 30, 0), (30, .iaload, 1, 31, 0), (31, .aload_n 1, 1, 32, 0), (32, .iload_n 3, 1, 33, 0), (33, .iaload, 1, 34, 0), (34, .if_icmp .ge 7, 3, 37, 41), (37, .iconst (-1), 1, 38, 0), (38, .goto 4, 3, 41, 42), (41, .iconst 1, 1, 42, 0), (42, .ireturn, 1, 43, 0), (43, .iinc 3 1, 3, 46, 0), (46, .goto (-44), 3, 49, 2), (49, .iconst 0, 1, 50, 0), (50, .ireturn, 1, 51, 0)])
theorem kX7_compare : okc cX7_compare (tb mX7_compare) = true := by decide +kernel
def mX7_goAlong : MD := (yX7_goAlong, cX7_goAlong, 9, none, (3, 63), [(0, .aload_n 1, 1, 1, 0), (1, .invokevirtual 32, 3, 4, 0), (4, .istore 5, 2, 6, 0), (6, .iload_n 2, 1, 7, 0), (7, .istore 6, 2, 9, 0), (9, .aload_n 0, 1, 10, 0), (10, .getfield 9, 3, 13, 0), (13, .invokevirtual 53, 3, 16, 0), (16, .iconst 0, 1, 17, 0), (17, .istore 7, 2, 19, 0), (19, .iload 7, 2, 21, 0), (21, .iload 5, 2, 23, 0), (23, .if_icmp .ge 90, 3, 26, 113), (26, .aload_n 1, 1, 27, 0), (27, .iload 6, 2, 29, 0), (29, .invokevirtual 58, 3, 32, 0), (32, .istore 8, 2, 34, 0), (34, .aload_n 0, 1, 35, 0), (35, .getfield 15, 3, 38, 0), (38, .iload 7, 2, 40, 0), (40, .iconst 2, 1, 41, 0), (41, .aload_n 0, 1, 42, 0), (42, .getfield 9, 3, 45, 0), (45, .iload 8, 2, 47, 0), (47, .invokestatic 62, 3, 50, 0), (50, .invokevirtual 65, 3, 53, 0), (53, .imul, 1, 54, 0), (54, .iload 8, 2, 56, 0), (56, .iconst 1, 1, 57, 0), (57, .iand, 1, 58, 0), (58, .iload 4, 2, 60, 0), (60, .ixor, 1, 61, 0), (61, .iadd, 1, 62, 0), (62, .iastore, 1, 63, 0), (63, .iload_n 3, 1, 64, 0), (64, .ifCond .eq 24, 3, 67, 88), (67, .iload 6, 2, 69, 0), (69, .ifCond .ne 10, 3, 72, 79), (72, .iload 5, 2, 74, 0), (74, .iconst 1, 1, 75, 0), (75, .isub, 1, 76, 0), (76, .goto 7, 3, 79, 83), (79, .iload 6, 2, 81, 0), (81, .iconst 1, 1, 82, 0), (82, .isub, 1, 83, 0), (83, .istore 6, 2, 85, 0), (85, .goto 22, 3, 88, 107), (88, .iload 6, 2, 90, 0), (90, .iconst 1, 1, 91, 0), (91, .iadd, 1, 92, 0), (92, .iload 5, 2, 94, 0), (94, .if_icmp .ne 7, 3, 97, 101), (97, .iconst 0, 1, 98, 0), (98, .goto 7, 3, 101, 105), (101, .iload 6, 2, 103, 0), (103, .iconst 1, 1, 104, 0), (104, .iadd, 1, 105, 0), (105, .istore 6, 2, 107, 0), (107, .iinc 7 1, 3, 110, 0), (110, .goto (-91), 3, 113, 19), (113, .return_, 1, 114, 0)])
theorem kX7_goAlong : okc cX7_goAlong (tb mX7_goAlong) = true := by decide +kernel
def mX7_comesTo : MD := (yX7_comesTo, cX7_comesTo, 7, (some .boolean), (4, 91), [(0, .aload_n 1, 1, 1, 0), (1, .invokevirtual 32, 3, 4, 0), (4, .istore 5, 2, 6, 0), (6, .iconst 0, 1, 7, 0), (7, .istore 6, 2, 9, 0), (9, .iload 6, 2, 11, 0), (11, .iload 5, 2, 13, 0), (13, .if_icmp .ge 37, 3, 16, 50), (16, .aload_n 0, 1, 17, 0), (17, .aload_n 1, 1, 18, 0), (18, .iload 6, 2, 20, 0), (20, .iload_n 3, 1, 21, 0), (21, .iload 4, 2, 23, 0), (23, .invokevirtual 36, 3, 26, 0), (26, .aload_n 0, 1, 27, 0), (27, .getfield 15, 3, 30, 0), (30, .aload_n 2, 1, 31, 0), (31, .getfield 50, 3, 34, 0), (34, .iload 5, 2, 36, 0), (36, .invokestatic 40, 3, 39, 0), (39, .ifCond .ne 5, 3, 42, 44), (42, .iconst 1, 1, 43, 0), (43, .ireturn, 1, 44, 0), (44, .iinc 6 1, 3, 47, 0), (47, .goto (-38), 3, 50, 9), (50, .iload 5, 2, 52, 0), (52, .ifCond .ne 7, 3, 55, 59), (55, .iconst 1, 1, 56, 0), (56, .goto 4, 3, 59, 60), (59, .iconst 0, 1, 60, 0), (60, .ireturn, 1, 61, 0)])
theorem kX7_comesTo : okc cX7_comesTo (tb mX7_comesTo) = true := by decide +kernel
def mX7_waysInto : MD := (yX7_waysInto, cX7_waysInto, 5, (some .int), (5, 117), [(0, .aload_n 1, 1, 1, 0), (1, .getfield 22, 3, 4, 0), (4, .aload_n 2, 1, 5, 0), (5, .getfield 22, 3, 8, 0), (8, .if_icmp .eq 5, 3, 11, 13), (11, .iconst 0, 1, 12, 0), (12, .ireturn, 1, 13, 0), (13, .iconst 0, 1, 14, 0), (14, .istore_n 3, 1, 15, 0), (15, .iconst 0, 1, 16, 0), (16, .istore 4, 2, 18, 0), (18, .iload 4, 2, 20, 0), (20, .iconst 4, 1, 21, 0), (21, .if_icmp .ge 42, 3, 24, 63), (24, .aload_n 0, 1, 25, 0), (25, .aload_n 1, 1, 26, 0), (26, .aload_n 2, 1, 27, 0), (27, .iload 4, 2, 29, 0), (29, .iconst 1, 1, 30, 0), (30, .iand, 1, 31, 0), (31, .iconst 1, 1, 32, 0), (32, .if_icmp .ne 7, 3, 35, 39), (35, .iconst 1, 1, 36, 0), (36, .goto 4, 3, 39, 40), (39, .iconst 0, 1, 40, 0), (40, .iload 4, 2, 42, 0), (42, .iconst 1, 1, 43, 0), (43, .ishr, 1, 44, 0), (44, .invokevirtual 28, 3, 47, 0), (47, .ifCond .eq 10, 3, 50, 57), (50, .iload_n 3, 1, 51, 0), (51, .iconst 1, 1, 52, 0), (52, .iload 4, 2, 54, 0), (54, .ishl, 1, 55, 0), (55, .ior, 1, 56, 0), (56, .istore_n 3, 1, 57, 0), (57, .iinc 4 1, 3, 60, 0), (60, .goto (-42), 3, 63, 18), (63, .iload_n 3, 1, 64, 0), (64, .ireturn, 1, 65, 0)])
theorem kX7_waysInto : okc cX7_waysInto (tb mX7_waysInto) = true := by decide +kernel
def mX7_leastWordAt : MD := (yX7_leastWordAt, cX7_leastWordAt, 5, (some .int), (4, 91), [(0, .aload_n 1, 1, 1, 0), (1, .invokevirtual 32, 3, 4, 0), (4, .istore_n 3, 1, 5, 0), (5, .iconst 0, 1, 6, 0), (6, .istore 4, 2, 8, 0), (8, .iload 4, 2, 10, 0), (10, .iload_n 3, 1, 11, 0), (11, .if_icmp .ge 52, 3, 14, 63), (14, .aload_n 0, 1, 15, 0), (15, .aload_n 1, 1, 16, 0), (16, .iload 4, 2, 18, 0), (18, .iconst 0, 1, 19, 0), (19, .iconst 0, 1, 20, 0), (20, .invokevirtual 36, 3, 23, 0), (23, .iload 4, 2, 25, 0), (25, .ifCond .eq 18, 3, 28, 43), (28, .aload_n 0, 1, 29, 0), (29, .getfield 15, 3, 32, 0), (32, .aload_n 0, 1, 33, 0), (33, .getfield 19, 3, 36, 0), (36, .iload_n 3, 1, 37, 0), (37, .invokestatic 40, 3, 40, 0), (40, .ifCond .ge 17, 3, 43, 57), (43, .aload_n 0, 1, 44, 0), (44, .getfield 15, 3, 47, 0), (47, .iconst 0, 1, 48, 0), (48, .aload_n 0, 1, 49, 0), (49, .getfield 19, 3, 52, 0), (52, .iconst 0, 1, 53, 0), (53, .iload_n 3, 1, 54, 0), (54, .invokestatic 44, 3, 57, 0), (57, .iinc 4 1, 3, 60, 0), (60, .goto (-52), 3, 63, 8), (63, .iload_n 2, 1, 64, 0), (64, .ifCond .lt 17, 3, 67, 81), (67, .iload_n 2, 1, 68, 0), (68, .iload_n 3, 1, 69, 0), (69, .if_icmp .ge 12, 3, 72, 81), (72, .aload_n 0, 1, 73, 0), (73, .getfield 19, 3, 76, 0), (76, .iload_n 2, 1, 77, 0), (77, .iaload, 1, 78, 0), (78, .goto 4, 3, 81, 82), (81, .iconst (-1), 1, 82, 0), (82, .ireturn, 1, 83, 0)])
theorem kX7_leastWordAt : okc cX7_leastWordAt (tb mX7_leastWordAt) = true := by decide +kernel
def mX8_followMoves : MD := (yX8_followMoves, cX8_followMoves, 10, none, (1, 21), [(0, .iconst 0, 1, 1, 0), (1, .istore 4, 2, 3, 0), (3, .iload 4, 2, 5, 0), (5, .aload_n 3, 1, 6, 0), (6, .getfield 63, 3, 9, 0), (9, .if_icmp .ge 136, 3, 12, 145), (12, .aload_n 3, 1, 13, 0), (13, .iload 4, 2, 15, 0), (15, .invokevirtual 66, 3, 18, 0), (18, .istore 5, 2, 20, 0), (20, .iload_n 1, 1, 21, 0), (21, .iload 5, 2, 23, 0), (23, .invokestatic 70, 3, 26, 0), (26, .iconst (-1), 1, 27, 0), (27, .ixor, 1, 28, 0), (28, .iand, 1, 29, 0), (29, .sipush 255, 3, 32, 0), (32, .iand, 1, 33, 0), (33, .istore 6, 2, 35, 0), (35, .aload_n 0, 1, 36, 0), (36, .getfield 9, 3, 39, 0), (39, .iload_n 1, 1, 40, 0), (40, .iaload, 1, 41, 0), (41, .iconst 1, 1, 42, 0), (42, .iadd, 1, 43, 0), (43, .istore 7, 2, 45, 0), (45, .iload_n 2, 1, 46, 0), (46, .ifCond .eq 8, 3, 49, 54), (49, .iload 5, 2, 51, 0), (51, .goto 9, 3, 54, 60), (54, .aload_n 0, 1, 55, 0), (55, .getfield 15, 3, 58, 0), (58, .iload_n 1, 1, 59, 0), (59, .iaload, 1, 60, 0), (60, .istore 8, 2, 62, 0), (62, .aload_n 0, 1, 63, 0), (63, .getfield 9, 3, 66, 0), (66, .iload 6, 2, 68, 0), (68, .iaload, 1, 69, 0), (69, .iconst (-1), 1, 70, 0), (70, .if_icmp .eq 15, 3, 73, 85), (73, .iload 7, 2, 75, 0), (75, .aload_n 0, 1, 76, 0), (76, .getfield 9, 3, 79, 0), (79, .iload 6, 2, 81, 0), (81, .iaload, 1, 82, 0), (82, .if_icmp .ge 7, 3, 85, 89), (85, .iconst 1, 1, 86, 0), (86, .goto 4, 3, 89, 90), (89, .iconst 0, 1, 90, 0), (90, .istore 9, 2, 92, 0), (92, .iload 9, 2, 94, 0), (94, .ifCond .ne 27, 3, 97, 121), (97, .iload 7, 2, 99, 0), (99, .aload_n 0, 1, 100, 0), (100, .getfield 9, 3, 103, 0), (103, .iload 6, 2, 105, 0), (105, .iaload, 1, 106, 0), (106, .if_icmp .ne 33, 3, 109, 139), (109, .iload 8, 2, 111, 0), (111, .aload_n 0, 1, 112, 0), (112, .getfield 15, 3, 115, 0), (115, .iload 6, 2, 117, 0), (117, .iaload, 1, 118, 0), (118, .if_icmp .ge 21, 3, 121, 139), (121, .aload_n 0, 1, 122, 0), (122, .getfield 9, 3, 125, 0), (125, .iload 6, 2, 127, 0), (127, .iload 7, 2, 129, 0), (129, .iastore, 1, 130, 0), (130, .aload_n 0, 1, 131, 0), (131, .getfield 15, 3, 134, 0), (134, .iload 6, 2, 136, 0), (136, .iload 8, 2, 138, 0), (138, .iastore, 1, 139, 0), (139, .iinc 4 1, 3, 142, 0), (142, .goto (-139), 3, 145, 3), (145, .return_, 1, 146, 0)])
theorem kX8_followMoves : okc cX8_followMoves (tb mX8_followMoves) = true := by decide +kernel
def mX8_weigh : MD := (yX8_weigh, cX8_weigh, 5, none, (1, 20), [(0, .iload_n 1, 1, 1, 0), (1, .invokestatic 73, 3, 4, 0), (4, .istore_n 2, 1, 5, 0), (5, .iload_n 2, 1, 6, 0), (6, .aload_n 0, 1, 7, 0), (7, .getfield 37, 3, 10, 0), (10, .if_icmp .lt 24, 3, 13, 34), (13, .iload_n 2, 1, 14, 0), (14, .aload_n 0, 1, 15, 0), (15, .getfield 37, 3, 18, 0), (18, .if_icmp .ne 20, 3, 21, 38), (21, .aload_n 0, 1, 22, 0), (22, .getfield 9, 3, 25, 0), (25, .iload_n 1, 1, 26, 0), (26, .iaload, 1, 27, 0), (27, .aload_n 0, 1, 28, 0), (28, .getfield 40, 3, 31, 0), (31, .if_icmp .ge 7, 3, 34, 38), (34, .iconst 1, 1, 35, 0), (35, .goto 4, 3, 38, 39), (38, .iconst 0, 1, 39, 0), (39, .istore_n 3, 1, 40, 0), (40, .iload_n 2, 1, 41, 0), (41, .aload_n 0, 1, 42, 0), (42, .getfield 37, 3, 45, 0), (45, .if_icmp .ne 20, 3, 48, 65), (48, .aload_n 0, 1, 49, 0), (49, .getfield 9, 3, 52, 0), (52, .iload_n 1, 1, 53, 0), (53, .iaload, 1, 54, 0), (54, .aload_n 0, 1, 55, 0), (55, .getfield 40, 3, 58, 0), (58, .if_icmp .ne 7, 3, 61, 65), (61, .iconst 1, 1, 62, 0), (62, .goto 4, 3, 65, 66), (65, .iconst 0, 1, 66, 0), (66, .istore 4, 2, 68, 0), (68, .iload_n 3, 1, 69, 0), (69, .ifCond .ne 21, 3, 72, 90), (72, .iload 4, 2, 74, 0), (74, .ifCond .eq 41, 3, 77, 115), (77, .aload_n 0, 1, 78, 0), (78, .getfield 15, 3, 81, 0), (81, .iload_n 1, 1, 82, 0), (82, .iaload, 1, 83, 0), (83, .aload_n 0, 1, 84, 0), (84, .getfield 43, 3, 87, 0), (87, .if_icmp .ge 28, 3, 90, 115), (90, .aload_n 0, 1, 91, 0), (91, .iload_n 2, 1, 92, 0), (92, .putfield 37, 3, 95, 0), (95, .aload_n 0, 1, 96, 0), (96, .aload_n 0, 1, 97, 0), (97, .getfield 9, 3, 100, 0), (100, .iload_n 1, 1, 101, 0), (101, .iaload, 1, 102, 0), (102, .putfield 40, 3, 105, 0), (105, .aload_n 0, 1, 106, 0), (106, .aload_n 0, 1, 107, 0), (107, .getfield 15, 3, 110, 0), (110, .iload_n 1, 1, 111, 0), (111, .iaload, 1, 112, 0), (112, .putfield 43, 3, 115, 0), (115, .return_, 1, 116, 0)])
theorem kX8_weigh : okc cX8_weigh (tb mX8_weigh) = true := by decide +kernel
def mX8_tryAll : MD := (yX8_tryAll, cX8_tryAll, 5, none, (3, 73), [(0, .aload_n 1, 1, 1, 0), (1, .invokevirtual 18, 3, 4, 0), (4, .sipush 255, 3, 7, 0), (7, .iand, 1, 8, 0), (8, .istore_n 3, 1, 9, 0), (9, .aload_n 0, 1, 10, 0), (10, .getfield 9, 3, 13, 0), (13, .iconst (-1), 1, 14, 0), (14, .invokestatic 24, 3, 17, 0), (17, .aload_n 0, 1, 18, 0), (18, .getfield 9, 3, 21, 0), (21, .iload_n 3, 1, 22, 0), (22, .iconst 0, 1, 23, 0), (23, .iastore, 1, 24, 0), (24, .aload_n 0, 1, 25, 0), (25, .getfield 15, 3, 28, 0), (28, .iload_n 3, 1, 29, 0), (29, .iconst (-1), 1, 30, 0), (30, .iastore, 1, 31, 0), (31, .aload_n 0, 1, 32, 0), (32, .iconst 0, 1, 33, 0), (33, .putfield 30, 3, 36, 0), (36, .aload_n 0, 1, 37, 0), (37, .aload_n 1, 1, 38, 0), (38, .getfield 34, 3, 41, 0), (41, .putfield 37, 3, 44, 0), (44, .aload_n 0, 1, 45, 0), (45, .iconst 0, 1, 46, 0), (46, .putfield 40, 3, 49, 0), (49, .aload_n 0, 1, 50, 0), (50, .iconst (-1), 1, 51, 0), (51, .putfield 43, 3, 54, 0), (54, .iload_n 3, 1, 55, 0), (55, .istore 4, 2, 57, 0), (57, .iload 4, 2, 59, 0), (59, .ifCond .lt 66, 3, 62, 125), (62, .aload_n 0, 1, 63, 0), (63, .getfield 9, 3, 66, 0), (66, .iload 4, 2, 68, 0), (68, .iaload, 1, 69, 0), (69, .iconst (-1), 1, 70, 0), (70, .if_icmp .eq 49, 3, 73, 119), (73, .aload_n 0, 1, 74, 0), (74, .dup, 1, 75, 0), (75, .getfield 30, 3, 78, 0), (78, .iconst 1, 1, 79, 0), (79, .iadd, 1, 80, 0), (80, .putfield 30, 3, 83, 0), (83, .aload_n 0, 1, 84, 0), (84, .iload 4, 2, 86, 0), (86, .invokevirtual 46, 3, 89, 0), (89, .aload_n 2, 1, 90, 0), (90, .aload_n 1, 1, 91, 0), (91, .iload 4, 2, 93, 0), (93, .iconst 0, 1, 94, 0), (94, .aload_n 1, 1, 95, 0), (95, .getfield 50, 3, 98, 0), (98, .invokevirtual 53, 3, 101, 0), (101, .aload_n 0, 1, 102, 0), (102, .iload 4, 2, 104, 0), (104, .iload 4, 2, 106, 0), (106, .iload_n 3, 1, 107, 0), (107, .if_icmp .ne 7, 3, 110, 114), (110, .iconst 1, 1, 111, 0), (111, .goto 4, 3, 114, 115), (114, .iconst 0, 1, 115, 0), (115, .aload_n 2, 1, 116, 0), (116, .invokevirtual 59, 3, 119, 0), (119, .iinc 4 (-1), 3, 122, 0), (122, .goto (-65), 3, 125, 57), (125, .return_, 1, 126, 0)])
theorem kX8_tryAll : okc cX8_tryAll (tb mX8_tryAll) = true := by decide +kernel
def mX9_crossingsOfAll : MD := (yX9_crossingsOfAll, cX9_crossingsOfAll, 3, (some .int), (0, 0), [(0, .iconst 0, 1, 1, 0), (1, .istore_n 1, 1, 2, 0), (2, .iconst 0, 1, 3, 0), (3, .istore_n 2, 1, 4, 0), (4, .iload_n 2, 1, 5, 0), (5, .aload_n 0, 1, 6, 0), (6, .getfield 20, 3, 9, 0), (9, .if_icmp .ge 26, 3, 12, 35), (12, .iload_n 2, 1, 13, 0), (13, .iconst 5, 1, 14, 0), (14, .if_icmp .ge 21, 3, 17, 35), (17, .iload_n 1, 1, 18, 0), (18, .aload_n 0, 1, 19, 0), (19, .getfield 11, 3, 22, 0), (22, .iload_n 2, 1, 23, 0), (23, .aaload, 1, 24, 0), (24, .getfield 31, 3, 27, 0), (27, .iadd, 1, 28, 0), (28, .istore_n 1, 1, 29, 0), (29, .iinc 2 1, 3, 32, 0), (32, .goto (-28), 3, 35, 4), (35, .iload_n 1, 1, 36, 0), (36, .ireturn, 1, 37, 0)])
theorem kX9_crossingsOfAll : okc cX9_crossingsOfAll (tb mX9_crossingsOfAll) = true := by decide +kernel
def mX9_saltedOfAll : MD := (yX9_saltedOfAll, cX9_saltedOfAll, 3, (some .int), (1, 20), [(0, .iconst 0, 1, 1, 0), (1, .istore_n 1, 1, 2, 0), (2, .iconst 0, 1, 3, 0), (3, .istore_n 2, 1, 4, 0), (4, .iload_n 2, 1, 5, 0), (5, .aload_n 0, 1, 6, 0), (6, .getfield 20, 3, 9, 0), (9, .if_icmp .ge 29, 3, 12, 38), (12, .iload_n 2, 1, 13, 0), (13, .iconst 5, 1, 14, 0), (14, .if_icmp .ge 24, 3, 17, 38), (17, .iload_n 1, 1, 18, 0), (18, .aload_n 0, 1, 19, 0), (19, .getfield 11, 3, 22, 0), (22, .iload_n 2, 1, 23, 0), (23, .aaload, 1, 24, 0), (24, .getfield 34, 3, 27, 0), (27, .invokestatic 37, 3, 30, 0), (30, .iadd, 1, 31, 0), (31, .istore_n 1, 1, 32, 0), (32, .iinc 2 1, 3, 35, 0), (35, .goto (-31), 3, 38, 4), (38, .iload_n 1, 1, 39, 0), (39, .ireturn, 1, 40, 0)])
theorem kX9_saltedOfAll : okc cX9_saltedOfAll (tb mX9_saltedOfAll) = true := by decide +kernel
def mX9_plainOnes : MD := (yX9_plainOnes, cX9_plainOnes, 3, (some .int), (0, 0), [(0, .iconst 0, 1, 1, 0), (1, .istore_n 1, 1, 2, 0), (2, .iconst 0, 1, 3, 0), (3, .istore_n 2, 1, 4, 0), (4, .iload_n 2, 1, 5, 0), (5, .aload_n 0, 1, 6, 0), (6, .getfield 20, 3, 9, 0), (9, .if_icmp .ge 32, 3, 12, 41), (12, .iload_n 2, 1, 13, 0), (13, .iconst 5, 1, 14, 0), (14, .if_icmp .ge 27, 3, 17, 41), (17, .aload_n 0, 1, 18, 0), (18, .getfield 11, 3, 21, 0), (21, .iload_n 2, 1, 22, 0), (22, .aaload, 1, 23, 0), (23, .getfield 31, 3, 26, 0), (26, .ifCond .ne 9, 3, 29, 35), (29, .iload_n 1, 1, 30, 0), (30, .iconst 1, 1, 31, 0), (31, .iload_n 2, 1, 32, 0), (32, .ishl, 1, 33, 0), (33, .ior, 1, 34, 0), (34, .istore_n 1, 1, 35, 0), (35, .iinc 2 1, 3, 38, 0), (38, .goto (-34), 3, 41, 4), (41, .iload_n 1, 1, 42, 0), (42, .ireturn, 1, 43, 0)])
theorem kX9_plainOnes : okc cX9_plainOnes (tb mX9_plainOnes) = true := by decide +kernel
def mX10_feed : MD := (yX10_feed, cX10_feed, 2, (some .int), (1, 21), [(0, .iload_n 1, 1, 1, 0), (1, .ifCond .lt 10, 3, 4, 11), (4, .iload_n 1, 1, 5, 0), (5, .sipush 255, 3, 8, 0), (8, .if_icmp .le 6, 3, 11, 14), (11, .ldc 84, 2, 13, 0), (13, .ireturn, 1, 14, 0), (14, .aload_n 0, 1, 15, 0), (15, .getfield 20, 3, 18, 0), (18, .iload_n 1, 1, 19, 0), (19, .invokevirtual 85, 3, 22, 0), (22, .ifCond .eq 13, 3, 25, 35), (25, .aload_n 0, 1, 26, 0), (26, .getfield 20, 3, 29, 0), (29, .getfield 89, 3, 32, 0), (32, .goto 5, 3, 35, 37), (35, .ldc 92, 2, 37, 0), (37, .ireturn, 1, 38, 0)])
theorem kX10_feed : okc cX10_feed (tb mX10_feed) = true := by decide +kernel
def mX10_tray : MD := (yX10_tray, cX10_tray, 2, (some .int), (7, 151), [(0, .aload_n 0, 1, 1, 0), (1, .getfield 20, 3, 4, 0), (4, .invokevirtual 93, 3, 7, 0), (7, .istore_n 1, 1, 8, 0), (8, .aload_n 0, 1, 9, 0), (9, .getfield 20, 3, 12, 0), (12, .iconst 0, 1, 13, 0), (13, .putfield 89, 3, 16, 0), (16, .aload_n 0, 1, 17, 0), (17, .aload_n 0, 1, 18, 0), (18, .getfield 20, 3, 21, 0), (21, .getfield 97, 3, 24, 0), (24, .putfield 80, 3, 27, 0), (27, .iload_n 1, 1, 28, 0), (28, .ifCond .eq 8, 3, 31, 36), (31, .bipush (-10), 2, 33, 0), (33, .iload_n 1, 1, 34, 0), (34, .isub, 1, 35, 0), (35, .ireturn, 1, 36, 0), (36, .aload_n 0, 1, 37, 0), (37, .getfield 26, 3, 40, 0), (40, .aload_n 0, 1, 41, 0), (41, .getfield 20, 3, 44, 0), (44, .getfield 98, 3, 47, 0), (47, .invokevirtual 101, 3, 50, 0), (50, .aload_n 0, 1, 51, 0), (51, .aload_n 0, 1, 52, 0), (52, .getfield 20, 3, 55, 0), (55, .getfield 104, 3, 58, 0), (58, .putfield 108, 3, 61, 0), (61, .aload_n 0, 1, 62, 0), (62, .getfield 48, 3, 65, 0), (65, .iconst 0, 1, 66, 0), (66, .putfield 111, 3, 69, 0), (69, .aload_n 0, 1, 70, 0), (70, .iconst 0, 1, 71, 0), (71, .putfield 114, 3, 74, 0), (74, .aload_n 0, 1, 75, 0), (75, .getfield 33, 3, 78, 0), (78, .invokevirtual 117, 3, 81, 0), (81, .aload_n 0, 1, 82, 0), (82, .getfield 26, 3, 85, 0), (85, .getfield 120, 3, 88, 0), (88, .ireturn, 1, 89, 0)])
theorem kX10_tray : okc cX10_tray (tb mX10_tray) = true := by decide +kernel
def mX10_fault : MD := (yX10_fault, cX10_fault, 1, (some .int), (0, 0), [(0, .aload_n 0, 1, 1, 0), (1, .getfield 80, 3, 4, 0), (4, .ireturn, 1, 5, 0)])
theorem kX10_fault : okc cX10_fault (tb mX10_fault) = true := by decide +kernel
def mX10_shakenOutOnes : MD := (yX10_shakenOutOnes, cX10_shakenOutOnes, 4, (some .int), (4, 100), [(0, .iconst 0, 1, 1, 0), (1, .istore_n 1, 1, 2, 0), (2, .iconst 0, 1, 3, 0), (3, .istore_n 2, 1, 4, 0), (4, .iload_n 2, 1, 5, 0), (5, .iconst 5, 1, 6, 0), (6, .if_icmp .ge 48, 3, 9, 54), (9, .aload_n 0, 1, 10, 0), (10, .getfield 26, 3, 13, 0), (13, .iload_n 2, 1, 14, 0), (14, .invokevirtual 141, 3, 17, 0), (17, .astore_n 3, 1, 18, 0), (18, .aload_n 3, 1, 19, 0), (19, .ifnull 29, 3, 22, 48), (22, .aload_n 0, 1, 23, 0), (23, .getfield 55, 3, 26, 0), (26, .aload_n 3, 1, 27, 0), (27, .aload_n 3, 1, 28, 0), (28, .invokevirtual 216, 3, 31, 0), (31, .iconst 0, 1, 32, 0), (32, .aload_n 3, 1, 33, 0), (33, .getfield 151, 3, 36, 0), (36, .invokevirtual 285, 3, 39, 0), (39, .ifCond .ne 9, 3, 42, 48), (42, .iload_n 1, 1, 43, 0), (43, .iconst 1, 1, 44, 0), (44, .iload_n 2, 1, 45, 0), (45, .ishl, 1, 46, 0), (46, .ior, 1, 47, 0), (47, .istore_n 1, 1, 48, 0), (48, .iinc 2 1, 3, 51, 0), (51, .goto (-47), 3, 54, 4), (54, .iload_n 1, 1, 55, 0), (55, .ireturn, 1, 56, 0)])
theorem kX10_shakenOutOnes : okc cX10_shakenOutOnes (tb mX10_shakenOutOnes) = true := by decide +kernel
def mX10_told : MD := (yX10_told, cX10_told, 2, (some .int), (5, 123), [(0, .iload_n 1, 1, 1, 0), (1, .tableswitch 120 0 8 #[51, 59, 67, 75, 83, 91, 99, 104, 112], 51, 52, 0), (52, .aload_n 0, 1, 53, 0), (53, .getfield 26, 3, 56, 0), (56, .getfield 120, 3, 59, 0), (59, .ireturn, 1, 60, 0), (60, .aload_n 0, 1, 61, 0), (61, .getfield 20, 3, 64, 0), (64, .getfield 89, 3, 67, 0), (67, .ireturn, 1, 68, 0), (68, .aload_n 0, 1, 69, 0), (69, .getfield 26, 3, 72, 0), (72, .getfield 123, 3, 75, 0), (75, .ireturn, 1, 76, 0), (76, .aload_n 0, 1, 77, 0), (77, .getfield 26, 3, 80, 0), (80, .invokevirtual 126, 3, 83, 0), (83, .ireturn, 1, 84, 0), (84, .aload_n 0, 1, 85, 0), (85, .getfield 26, 3, 88, 0), (88, .invokevirtual 129, 3, 91, 0), (91, .ireturn, 1, 92, 0), (92, .aload_n 0, 1, 93, 0), (93, .getfield 26, 3, 96, 0), (96, .invokevirtual 132, 3, 99, 0), (99, .ireturn, 1, 100, 0), (100, .aload_n 0, 1, 101, 0), (101, .invokevirtual 135, 3, 104, 0), (104, .ireturn, 1, 105, 0), (105, .aload_n 0, 1, 106, 0), (106, .getfield 48, 3, 109, 0), (109, .getfield 111, 3, 112, 0), (112, .ireturn, 1, 113, 0), (113, .aload_n 0, 1, 114, 0), (114, .getfield 33, 3, 117, 0), (117, .getfield 138, 3, 120, 0), (120, .ireturn, 1, 121, 0), (121, .ldc 84, 2, 123, 0), (123, .ireturn, 1, 124, 0)])
theorem kX10_told : okc cX10_told (tb mX10_told) = true := by decide +kernel
def mX10_fewestSwitches : MD := (yX10_fewestSwitches, cX10_fewestSwitches, 6, (some .int), (4, 100), [(0, .aload_n 0, 1, 1, 0), (1, .getfield 55, 3, 4, 0), (4, .aload_n 1, 1, 5, 0), (5, .invokevirtual 294, 3, 8, 0), (8, .istore_n 2, 1, 9, 0), (9, .iconst 0, 1, 10, 0), (10, .istore_n 3, 1, 11, 0), (11, .iload_n 3, 1, 12, 0), (12, .iload_n 2, 1, 13, 0), (13, .invokestatic 289, 3, 16, 0), (16, .iconst 2, 1, 17, 0), (17, .idiv, 1, 18, 0), (18, .if_icmp .gt 72, 3, 21, 90), (21, .iconst 0, 1, 22, 0), (22, .istore 4, 2, 24, 0), (24, .iload 4, 2, 26, 0), (26, .iload_n 2, 1, 27, 0), (27, .if_icmp .gt 57, 3, 30, 84), (30, .iload 4, 2, 32, 0), (32, .iload_n 2, 1, 33, 0), (33, .iconst (-1), 1, 34, 0), (34, .ixor, 1, 35, 0), (35, .iand, 1, 36, 0), (36, .ifCond .ne 16, 3, 39, 52), (39, .iload 4, 2, 41, 0), (41, .invokestatic 289, 3, 44, 0), (44, .iload_n 3, 1, 45, 0), (45, .if_icmp .ne 7, 3, 48, 52), (48, .iconst 1, 1, 49, 0), (49, .goto 4, 3, 52, 53), (52, .iconst 0, 1, 53, 0), (53, .istore 5, 2, 55, 0), (55, .iload 5, 2, 57, 0), (57, .ifCond .eq 21, 3, 60, 78), (60, .aload_n 0, 1, 61, 0), (61, .getfield 55, 3, 64, 0), (64, .aload_n 1, 1, 65, 0), (65, .iload_n 2, 1, 66, 0), (66, .iload 4, 2, 68, 0), (68, .iconst 0, 1, 69, 0), (69, .invokevirtual 285, 3, 72, 0), (72, .ifCond .ne 6, 3, 75, 78), (75, .iload 4, 2, 77, 0), (77, .ireturn, 1, 78, 0), (78, .iinc 4 1, 3, 81, 0), (81, .goto (-57), 3, 84, 24), (84, .iinc 3 1, 3, 87, 0), (87, .goto (-76), 3, 90, 11), (90, .iconst (-1), 1, 91, 0), (91, .ireturn, 1, 92, 0)])
theorem kX10_fewestSwitches : okc cX10_fewestSwitches (tb mX10_fewestSwitches) = true := by decide +kernel
def mX10_oddOnes : MD := (yX10_oddOnes, cX10_oddOnes, 3, (some .int), (2, 45), [(0, .iconst 0, 1, 1, 0), (1, .istore_n 1, 1, 2, 0), (2, .iconst 0, 1, 3, 0), (3, .istore_n 2, 1, 4, 0), (4, .iload_n 2, 1, 5, 0), (5, .aload_n 0, 1, 6, 0), (6, .getfield 146, 3, 9, 0), (9, .if_icmp .ge 24, 3, 12, 33), (12, .iload_n 1, 1, 13, 0), (13, .aload_n 0, 1, 14, 0), (14, .iload_n 2, 1, 15, 0), (15, .invokevirtual 255, 3, 18, 0), (18, .invokestatic 289, 3, 21, 0), (21, .iconst 1, 1, 22, 0), (22, .iand, 1, 23, 0), (23, .iload_n 2, 1, 24, 0), (24, .ishl, 1, 25, 0), (25, .ior, 1, 26, 0), (26, .istore_n 1, 1, 27, 0), (27, .iinc 2 1, 3, 30, 0), (30, .goto (-26), 3, 33, 4), (33, .iload_n 1, 1, 34, 0), (34, .ireturn, 1, 35, 0)])
theorem kX10_oddOnes : okc cX10_oddOnes (tb mX10_oddOnes) = true := by decide +kernel
def mX10_weakOnes : MD := (yX10_weakOnes, cX10_weakOnes, 4, (some .int), (4, 100), [(0, .iconst 0, 1, 1, 0), (1, .istore_n 2, 1, 2, 0), (2, .iconst 0, 1, 3, 0), (3, .istore_n 3, 1, 4, 0), (4, .iload_n 3, 1, 5, 0), (5, .aload_n 1, 1, 6, 0), (6, .getfield 146, 3, 9, 0), (9, .if_icmp .ge 34, 3, 12, 43), (12, .aload_n 0, 1, 13, 0), (13, .getfield 55, 3, 16, 0), (16, .aload_n 1, 1, 17, 0), (17, .aload_n 1, 1, 18, 0), (18, .invokevirtual 216, 3, 21, 0), (21, .iconst 1, 1, 22, 0), (22, .iload_n 3, 1, 23, 0), (23, .ishl, 1, 24, 0), (24, .iconst 0, 1, 25, 0), (25, .invokevirtual 285, 3, 28, 0), (28, .ifCond .ne 9, 3, 31, 37), (31, .iload_n 2, 1, 32, 0), (32, .iconst 1, 1, 33, 0), (33, .iload_n 3, 1, 34, 0), (34, .ishl, 1, 35, 0), (35, .ior, 1, 36, 0), (36, .istore_n 2, 1, 37, 0), (37, .iinc 3 1, 3, 40, 0), (40, .goto (-36), 3, 43, 4), (43, .iload_n 2, 1, 44, 0), (44, .ireturn, 1, 45, 0)])
theorem kX10_weakOnes : okc cX10_weakOnes (tb mX10_weakOnes) = true := by decide +kernel
def mX10_pretzel : MD := (yX10_pretzel, cX10_pretzel, 4, (some .int), (5, 125), [(0, .aload_n 0, 1, 1, 0), (1, .getfield 26, 3, 4, 0), (4, .iload_n 1, 1, 5, 0), (5, .invokevirtual 141, 3, 8, 0), (8, .astore_n 3, 1, 9, 0), (9, .aload_n 3, 1, 10, 0), (10, .ifnonnull 6, 3, 13, 16), (13, .ldc 145, 2, 15, 0), (15, .ireturn, 1, 16, 0), (16, .iload_n 2, 1, 17, 0), (17, .tableswitch 90 0 6 #[43, 48, 53, 63, 73, 79, 85], 43, 60, 0), (60, .aload_n 3, 1, 61, 0), (61, .getfield 146, 3, 64, 0), (64, .ireturn, 1, 65, 0), (65, .aload_n 3, 1, 66, 0), (66, .getfield 151, 3, 69, 0), (69, .ireturn, 1, 70, 0), (70, .aload_n 0, 1, 71, 0), (71, .getfield 69, 3, 74, 0), (74, .aload_n 3, 1, 75, 0), (75, .iconst 3, 1, 76, 0), (76, .invokevirtual 154, 3, 79, 0), (79, .ireturn, 1, 80, 0), (80, .aload_n 0, 1, 81, 0), (81, .getfield 69, 3, 84, 0), (84, .aload_n 3, 1, 85, 0), (85, .iconst 5, 1, 86, 0), (86, .invokevirtual 154, 3, 89, 0), (89, .ireturn, 1, 90, 0), (90, .aload_n 0, 1, 91, 0), (91, .aload_n 3, 1, 92, 0), (92, .invokevirtual 158, 3, 95, 0), (95, .ireturn, 1, 96, 0), (96, .aload_n 0, 1, 97, 0), (97, .aload_n 3, 1, 98, 0), (98, .invokevirtual 162, 3, 101, 0), (101, .ireturn, 1, 102, 0), (102, .aload_n 3, 1, 103, 0), (103, .invokestatic 165, 3, 106, 0), (106, .ireturn, 1, 107, 0), (107, .ldc 84, 2, 109, 0), (109, .ireturn, 1, 110, 0)])
theorem kX10_pretzel : okc cX10_pretzel (tb mX10_pretzel) = true := by decide +kernel
def mX10_pass : MD := (yX10_pass, cX10_pass, 4, (some .int), (2, 41), [(0, .aload_n 0, 1, 1, 0), (1, .getfield 26, 3, 4, 0), (4, .iload_n 1, 1, 5, 0), (5, .invokevirtual 141, 3, 8, 0), (8, .astore_n 3, 1, 9, 0), (9, .aload_n 3, 1, 10, 0), (10, .ifnonnull 8, 3, 13, 18), (13, .ldc 145, 2, 15, 0), (15, .goto 8, 3, 18, 23), (18, .aload_n 3, 1, 19, 0), (19, .iload_n 2, 1, 20, 0), (20, .invokevirtual 168, 3, 23, 0), (23, .ireturn, 1, 24, 0)])
theorem kX10_pass : okc cX10_pass (tb mX10_pass) = true := by decide +kernel
def mX10_moves : MD := (yX10_moves, cX10_moves, 4, (some .int), (4, 94), [(0, .aload_n 0, 1, 1, 0), (1, .getfield 26, 3, 4, 0), (4, .iload_n 1, 1, 5, 0), (5, .invokevirtual 141, 3, 8, 0), (8, .astore_n 3, 1, 9, 0), (9, .aload_n 3, 1, 10, 0), (10, .ifnonnull 6, 3, 13, 16), (13, .ldc 145, 2, 15, 0), (15, .ireturn, 1, 16, 0), (16, .aload_n 0, 1, 17, 0), (17, .getfield 55, 3, 20, 0), (20, .aload_n 3, 1, 21, 0), (21, .invokevirtual 172, 3, 24, 0), (24, .iload_n 2, 1, 25, 0), (25, .iconst (-1), 1, 26, 0), (26, .if_icmp .ne 13, 3, 29, 39), (29, .aload_n 0, 1, 30, 0), (30, .getfield 55, 3, 33, 0), (33, .getfield 176, 3, 36, 0), (36, .goto 11, 3, 39, 47), (39, .aload_n 0, 1, 40, 0), (40, .getfield 55, 3, 43, 0), (43, .iload_n 2, 1, 44, 0), (44, .invokevirtual 177, 3, 47, 0), (47, .ireturn, 1, 48, 0)])
theorem kX10_moves : okc cX10_moves (tb mX10_moves) = true := by decide +kernel
def mX10_shake : MD := (yX10_shake, cX10_shake, 5, (some .int), (5, 124), [(0, .aload_n 0, 1, 1, 0), (1, .getfield 26, 3, 4, 0), (4, .iload_n 1, 1, 5, 0), (5, .invokevirtual 141, 3, 8, 0), (8, .astore 4, 2, 10, 0), (10, .aload 4, 2, 12, 0), (12, .ifnull 21, 3, 15, 33), (15, .aload 4, 2, 17, 0), (17, .iload_n 2, 1, 18, 0), (18, .invokevirtual 180, 3, 21, 0), (21, .ifCond .eq 12, 3, 24, 33), (24, .aload 4, 2, 26, 0), (26, .iload_n 3, 1, 27, 0), (27, .invokevirtual 180, 3, 30, 0), (30, .ifCond .ne 6, 3, 33, 36), (33, .ldc 145, 2, 35, 0), (35, .ireturn, 1, 36, 0), (36, .aload_n 0, 1, 37, 0), (37, .getfield 55, 3, 40, 0), (40, .aload 4, 2, 42, 0), (42, .invokevirtual 172, 3, 45, 0), (45, .aload_n 0, 1, 46, 0), (46, .getfield 55, 3, 49, 0), (49, .bipush 10, 2, 51, 0), (51, .iload_n 2, 1, 52, 0), (52, .iload_n 3, 1, 53, 0), (53, .invokestatic 183, 3, 56, 0), (56, .imul, 1, 57, 0), (57, .iload_n 2, 1, 58, 0), (58, .iload_n 3, 1, 59, 0), (59, .invokestatic 189, 3, 62, 0), (62, .iadd, 1, 63, 0), (63, .invokevirtual 192, 3, 66, 0), (66, .ifCond .ne 6, 3, 69, 72), (69, .ldc 195, 2, 71, 0), (71, .ireturn, 1, 72, 0), (72, .aload_n 0, 1, 73, 0), (73, .getfield 33, 3, 76, 0), (76, .aload_n 0, 1, 77, 0), (77, .getfield 26, 3, 80, 0), (80, .invokevirtual 196, 3, 83, 0), (83, .aload 4, 2, 85, 0), (85, .iconst 1, 1, 86, 0), (86, .iload_n 2, 1, 87, 0), (87, .ishl, 1, 88, 0), (88, .iconst 1, 1, 89, 0), (89, .iload_n 3, 1, 90, 0), (90, .ishl, 1, 91, 0), (91, .ior, 1, 92, 0), (92, .invokevirtual 199, 3, 95, 0), (95, .aload 4, 2, 97, 0), (97, .getfield 146, 3, 100, 0), (100, .ireturn, 1, 101, 0)])
theorem kX10_shake : okc cX10_shake (tb mX10_shake) = true := by decide +kernel
def mX10_curl : MD := (yX10_curl, cX10_curl, 5, (some .int), (5, 124), [(0, .aload_n 0, 1, 1, 0), (1, .getfield 26, 3, 4, 0), (4, .iload_n 1, 1, 5, 0), (5, .invokevirtual 141, 3, 8, 0), (8, .astore 4, 2, 10, 0), (10, .aload 4, 2, 12, 0), (12, .ifnonnull 6, 3, 15, 18), (15, .ldc 145, 2, 17, 0), (17, .ireturn, 1, 18, 0), (18, .iload_n 2, 1, 19, 0), (19, .ifCond .lt 12, 3, 22, 31), (22, .iload_n 2, 1, 23, 0), (23, .aload 4, 2, 25, 0), (25, .invokevirtual 203, 3, 28, 0), (28, .if_icmp .le 6, 3, 31, 34), (31, .ldc 84, 2, 33, 0), (33, .ireturn, 1, 34, 0), (34, .aload 4, 2, 36, 0), (36, .getfield 146, 3, 39, 0), (39, .bipush 8, 2, 41, 0), (41, .if_icmp .lt 6, 3, 44, 47), (44, .ldc 92, 2, 46, 0), (46, .ireturn, 1, 47, 0), (47, .aload_n 0, 1, 48, 0), (48, .getfield 33, 3, 51, 0), (51, .aload_n 0, 1, 52, 0), (52, .getfield 26, 3, 55, 0), (55, .invokevirtual 196, 3, 58, 0), (58, .aload 4, 2, 60, 0), (60, .iload_n 2, 1, 61, 0), (61, .iload_n 3, 1, 62, 0), (62, .invokevirtual 206, 3, 65, 0), (65, .aload 4, 2, 67, 0), (67, .getfield 146, 3, 70, 0), (70, .ireturn, 1, 71, 0)])
theorem kX10_curl : okc cX10_curl (tb mX10_curl) = true := by decide +kernel
def mX10_turn : MD := (yX10_turn, cX10_turn, 4, (some .int), (5, 124), [(0, .aload_n 0, 1, 1, 0), (1, .getfield 26, 3, 4, 0), (4, .iload_n 1, 1, 5, 0), (5, .invokevirtual 141, 3, 8, 0), (8, .astore_n 3, 1, 9, 0), (9, .aload_n 3, 1, 10, 0), (10, .ifnull 11, 3, 13, 21), (13, .aload_n 3, 1, 14, 0), (14, .iload_n 2, 1, 15, 0), (15, .invokevirtual 180, 3, 18, 0), (18, .ifCond .ne 6, 3, 21, 24), (21, .ldc 145, 2, 23, 0), (23, .ireturn, 1, 24, 0), (24, .aload_n 0, 1, 25, 0), (25, .getfield 33, 3, 28, 0), (28, .aload_n 0, 1, 29, 0), (29, .getfield 26, 3, 32, 0), (32, .invokevirtual 196, 3, 35, 0), (35, .aload_n 3, 1, 36, 0), (36, .iconst 1, 1, 37, 0), (37, .iload_n 2, 1, 38, 0), (38, .ishl, 1, 39, 0), (39, .invokevirtual 210, 3, 42, 0), (42, .aload_n 0, 1, 43, 0), (43, .getfield 69, 3, 46, 0), (46, .aload_n 3, 1, 47, 0), (47, .iconst 3, 1, 48, 0), (48, .invokevirtual 154, 3, 51, 0), (51, .ireturn, 1, 52, 0)])
theorem kX10_turn : okc cX10_turn (tb mX10_turn) = true := by decide +kernel
def mX10_reverse : MD := (yX10_reverse, cX10_reverse, 3, (some .int), (5, 124), [(0, .aload_n 0, 1, 1, 0), (1, .getfield 26, 3, 4, 0), (4, .iload_n 1, 1, 5, 0), (5, .invokevirtual 141, 3, 8, 0), (8, .astore_n 2, 1, 9, 0), (9, .aload_n 2, 1, 10, 0), (10, .ifnonnull 6, 3, 13, 16), (13, .ldc 145, 2, 15, 0), (15, .ireturn, 1, 16, 0), (16, .aload_n 0, 1, 17, 0), (17, .getfield 33, 3, 20, 0), (20, .aload_n 0, 1, 21, 0), (21, .getfield 26, 3, 24, 0), (24, .invokevirtual 196, 3, 27, 0), (27, .aload_n 2, 1, 28, 0), (28, .invokevirtual 213, 3, 31, 0), (31, .aload_n 2, 1, 32, 0), (32, .getfield 146, 3, 35, 0), (35, .ireturn, 1, 36, 0)])
theorem kX10_reverse : okc cX10_reverse (tb mX10_reverse) = true := by decide +kernel
def mX10_mirror : MD := (yX10_mirror, cX10_mirror, 3, (some .int), (4, 124), [(0, .aload_n 0, 1, 1, 0), (1, .getfield 26, 3, 4, 0), (4, .iload_n 1, 1, 5, 0), (5, .invokevirtual 141, 3, 8, 0), (8, .astore_n 2, 1, 9, 0), (9, .aload_n 2, 1, 10, 0), (10, .ifnonnull 6, 3, 13, 16), (13, .ldc 145, 2, 15, 0), (15, .ireturn, 1, 16, 0), (16, .aload_n 0, 1, 17, 0), (17, .getfield 33, 3, 20, 0), (20, .aload_n 0, 1, 21, 0), (21, .getfield 26, 3, 24, 0), (24, .invokevirtual 196, 3, 27, 0), (27, .aload_n 2, 1, 28, 0), (28, .aload_n 2, 1, 29, 0), (29, .invokevirtual 216, 3, 32, 0), (32, .invokevirtual 210, 3, 35, 0), (35, .aload_n 2, 1, 36, 0), (36, .getfield 146, 3, 39, 0), (39, .ireturn, 1, 40, 0)])
theorem kX10_mirror : okc cX10_mirror (tb mX10_mirror) = true := by decide +kernel
def mX10_roll : MD := (yX10_roll, cX10_roll, 3, (some .int), (5, 124), [(0, .aload_n 0, 1, 1, 0), (1, .getfield 26, 3, 4, 0), (4, .iload_n 1, 1, 5, 0), (5, .invokevirtual 141, 3, 8, 0), (8, .astore_n 2, 1, 9, 0), (9, .aload_n 2, 1, 10, 0), (10, .ifnonnull 6, 3, 13, 16), (13, .ldc 145, 2, 15, 0), (15, .ireturn, 1, 16, 0), (16, .aload_n 0, 1, 17, 0), (17, .getfield 33, 3, 20, 0), (20, .aload_n 0, 1, 21, 0), (21, .getfield 26, 3, 24, 0), (24, .invokevirtual 196, 3, 27, 0), (27, .aload_n 2, 1, 28, 0), (28, .invokevirtual 219, 3, 31, 0), (31, .aload_n 2, 1, 32, 0), (32, .iconst 0, 1, 33, 0), (33, .invokevirtual 168, 3, 36, 0), (36, .ireturn, 1, 37, 0)])
theorem kX10_roll : okc cX10_roll (tb mX10_roll) = true := by decide +kernel
def mX10_join : MD := (yX10_join, cX10_join, 5, (some .int), (4, 124), [(0, .aload_n 0, 1, 1, 0), (1, .getfield 26, 3, 4, 0), (4, .iload_n 1, 1, 5, 0), (5, .invokevirtual 141, 3, 8, 0), (8, .astore_n 3, 1, 9, 0), (9, .aload_n 0, 1, 10, 0), (10, .getfield 26, 3, 13, 0), (13, .iload_n 2, 1, 14, 0), (14, .invokevirtual 141, 3, 17, 0), (17, .astore 4, 2, 19, 0), (19, .aload_n 3, 1, 20, 0), (20, .ifnull 13, 3, 23, 33), (23, .aload 4, 2, 25, 0), (25, .ifnull 8, 3, 28, 33), (28, .iload_n 1, 1, 29, 0), (29, .iload_n 2, 1, 30, 0), (30, .if_icmp .ne 6, 3, 33, 36), (33, .ldc 145, 2, 35, 0), (35, .ireturn, 1, 36, 0), (36, .aload_n 3, 1, 37, 0), (37, .getfield 146, 3, 40, 0), (40, .aload 4, 2, 42, 0), (42, .getfield 146, 3, 45, 0), (45, .iadd, 1, 46, 0), (46, .bipush 8, 2, 48, 0), (48, .if_icmp .le 6, 3, 51, 54), (51, .ldc 92, 2, 53, 0), (53, .ireturn, 1, 54, 0), (54, .aload_n 0, 1, 55, 0), (55, .getfield 33, 3, 58, 0), (58, .aload_n 0, 1, 59, 0), (59, .getfield 26, 3, 62, 0), (62, .invokevirtual 196, 3, 65, 0), (65, .aload_n 3, 1, 66, 0), (66, .aload 4, 2, 68, 0), (68, .invokevirtual 222, 3, 71, 0), (71, .aload 4, 2, 73, 0), (73, .invokevirtual 225, 3, 76, 0), (76, .aload_n 3, 1, 77, 0), (77, .getfield 146, 3, 80, 0), (80, .ireturn, 1, 81, 0)])
theorem kX10_join : okc cX10_join (tb mX10_join) = true := by decide +kernel
def mX10_salt : MD := (yX10_salt, cX10_salt, 6, (some .int), (4, 124), [(0, .aload_n 0, 1, 1, 0), (1, .getfield 26, 3, 4, 0), (4, .iload_n 1, 1, 5, 0), (5, .invokevirtual 141, 3, 8, 0), (8, .astore 4, 2, 10, 0), (10, .aload 4, 2, 12, 0), (12, .ifnull 12, 3, 15, 24), (15, .aload 4, 2, 17, 0), (17, .iload_n 2, 1, 18, 0), (18, .invokevirtual 180, 3, 21, 0), (21, .ifCond .ne 6, 3, 24, 27), (24, .ldc 145, 2, 26, 0), (26, .ireturn, 1, 27, 0), (27, .aload 4, 2, 29, 0), (29, .getfield 151, 3, 32, 0), (32, .iload_n 2, 1, 33, 0), (33, .invokestatic 228, 3, 36, 0), (36, .istore 5, 2, 38, 0), (38, .iload 5, 2, 40, 0), (40, .iload_n 3, 1, 41, 0), (41, .if_icmp .eq 17, 3, 44, 58), (44, .iload_n 3, 1, 45, 0), (45, .ifCond .eq 16, 3, 48, 61), (48, .aload_n 0, 1, 49, 0), (49, .getfield 26, 3, 52, 0), (52, .getfield 123, 3, 55, 0), (55, .ifCond .gt 6, 3, 58, 61), (58, .ldc 195, 2, 60, 0), (60, .ireturn, 1, 61, 0), (61, .aload_n 0, 1, 62, 0), (62, .getfield 33, 3, 65, 0), (65, .aload_n 0, 1, 66, 0), (66, .getfield 26, 3, 69, 0), (69, .invokevirtual 196, 3, 72, 0), (72, .aload 4, 2, 74, 0), (74, .dup, 1, 75, 0), (75, .getfield 151, 3, 78, 0), (78, .iconst 1, 1, 79, 0), (79, .iload_n 2, 1, 80, 0), (80, .ishl, 1, 81, 0), (81, .ixor, 1, 82, 0), (82, .putfield 151, 3, 85, 0), (85, .aload_n 0, 1, 86, 0), (86, .getfield 26, 3, 89, 0), (89, .dup, 1, 90, 0), (90, .getfield 123, 3, 93, 0), (93, .iload_n 3, 1, 94, 0), (94, .ifCond .eq 7, 3, 97, 101), (97, .iconst (-1), 1, 98, 0), (98, .goto 4, 3, 101, 102), (101, .iconst 1, 1, 102, 0), (102, .iadd, 1, 103, 0), (103, .putfield 123, 3, 106, 0), (106, .aload_n 0, 1, 107, 0), (107, .getfield 26, 3, 110, 0), (110, .getfield 123, 3, 113, 0), (113, .ireturn, 1, 114, 0)])
theorem kX10_salt : okc cX10_salt (tb mX10_salt) = true := by decide +kernel
def mX10_draw : MD := (yX10_draw, cX10_draw, 2, (some .int), (1, 21), [(0, .aload_n 0, 1, 1, 0), (1, .aload_n 0, 1, 2, 0), (2, .getfield 282, 3, 5, 0), (5, .i2l, 1, 6, 0), (6, .ldc2_w 309, 3, 9, 0), (9, .lmul, 1, 10, 0), (10, .ldc2_w 311, 3, 13, 0), (13, .ladd, 1, 14, 0), (14, .ldc2_w 313, 3, 17, 0), (17, .land, 1, 18, 0), (18, .l2i, 1, 19, 0), (19, .putfield 282, 3, 22, 0), (22, .aload_n 0, 1, 23, 0), (23, .getfield 282, 3, 26, 0), (26, .ldc_w 315, 3, 29, 0), (29, .idiv, 1, 30, 0), (30, .iload_n 1, 1, 31, 0), (31, .invokestatic 316, 3, 34, 0), (34, .ireturn, 1, 35, 0)])
theorem kX10_draw : okc cX10_draw (tb mX10_draw) = true := by decide +kernel
def mX10_curlByDraws : MD := (yX10_curlByDraws, cX10_curlByDraws, 4, none, (5, 110), [(0, .aload_n 1, 1, 1, 0), (1, .getfield 146, 3, 4, 0), (4, .bipush 8, 2, 6, 0), (6, .if_icmp .lt 4, 3, 9, 10), (9, .return_, 1, 10, 0), (10, .aload_n 0, 1, 11, 0), (11, .aload_n 1, 1, 12, 0), (12, .invokevirtual 203, 3, 15, 0), (15, .iconst 1, 1, 16, 0), (16, .iadd, 1, 17, 0), (17, .invokevirtual 297, 3, 20, 0), (20, .istore_n 2, 1, 21, 0), (21, .aload_n 0, 1, 22, 0), (22, .iconst 2, 1, 23, 0), (23, .invokevirtual 297, 3, 26, 0), (26, .iconst 1, 1, 27, 0), (27, .if_icmp .ne 7, 3, 30, 34), (30, .iconst 1, 1, 31, 0), (31, .goto 4, 3, 34, 35), (34, .iconst 0, 1, 35, 0), (35, .istore_n 3, 1, 36, 0), (36, .aload_n 1, 1, 37, 0), (37, .iload_n 2, 1, 38, 0), (38, .iload_n 3, 1, 39, 0), (39, .invokevirtual 206, 3, 42, 0), (42, .return_, 1, 43, 0)])
theorem kX10_curlByDraws : okc cX10_curlByDraws (tb mX10_curlByDraws) = true := by decide +kernel
def mX10_shakeByFirstMove : MD := (yX10_shakeByFirstMove, cX10_shakeByFirstMove, 2, none, (5, 110), [(0, .aload_n 0, 1, 1, 0), (1, .getfield 55, 3, 4, 0), (4, .aload_n 1, 1, 5, 0), (5, .invokevirtual 172, 3, 8, 0), (8, .aload_n 0, 1, 9, 0), (9, .getfield 55, 3, 12, 0), (12, .getfield 176, 3, 15, 0), (15, .ifCond .le 18, 3, 18, 33), (18, .aload_n 1, 1, 19, 0), (19, .aload_n 0, 1, 20, 0), (20, .getfield 55, 3, 23, 0), (23, .iconst 0, 1, 24, 0), (24, .invokevirtual 177, 3, 27, 0), (27, .invokestatic 306, 3, 30, 0), (30, .invokevirtual 199, 3, 33, 0), (33, .return_, 1, 34, 0)])
theorem kX10_shakeByFirstMove : okc cX10_shakeByFirstMove (tb mX10_shakeByFirstMove) = true := by decide +kernel
def mX10_driftOnce : MD := (yX10_driftOnce, cX10_driftOnce, 3, none, (6, 133), [(0, .aload_n 0, 1, 1, 0), (1, .iconst 5, 1, 2, 0), (2, .invokevirtual 297, 3, 5, 0), (5, .istore_n 1, 1, 6, 0), (6, .aload_n 0, 1, 7, 0), (7, .getfield 26, 3, 10, 0), (10, .aload_n 0, 1, 11, 0), (11, .aload_n 0, 1, 12, 0), (12, .getfield 26, 3, 15, 0), (15, .getfield 120, 3, 18, 0), (18, .invokevirtual 297, 3, 21, 0), (21, .invokevirtual 141, 3, 24, 0), (24, .astore_n 2, 1, 25, 0), (25, .aload_n 2, 1, 26, 0), (26, .ifnonnull 4, 3, 29, 30), (29, .return_, 1, 30, 0), (30, .iload_n 1, 1, 31, 0), (31, .tableswitch 76 0 3 #[29, 37, 45, 69], 29, 60, 0), (60, .aload_n 0, 1, 61, 0), (61, .aload_n 2, 1, 62, 0), (62, .invokevirtual 300, 3, 65, 0), (65, .goto 46, 3, 68, 111), (68, .aload_n 0, 1, 69, 0), (69, .aload_n 2, 1, 70, 0), (70, .invokevirtual 303, 3, 73, 0), (73, .goto 38, 3, 76, 111), (76, .aload_n 2, 1, 77, 0), (77, .getfield 146, 3, 80, 0), (80, .ifCond .le 31, 3, 83, 111), (83, .aload_n 2, 1, 84, 0), (84, .iconst 1, 1, 85, 0), (85, .aload_n 0, 1, 86, 0), (86, .aload_n 2, 1, 87, 0), (87, .getfield 146, 3, 90, 0), (90, .invokevirtual 297, 3, 93, 0), (93, .ishl, 1, 94, 0), (94, .invokevirtual 210, 3, 97, 0), (97, .goto 14, 3, 100, 111), (100, .aload_n 2, 1, 101, 0), (101, .invokevirtual 213, 3, 104, 0), (104, .goto 7, 3, 107, 111), (107, .aload_n 2, 1, 108, 0), (108, .invokevirtual 219, 3, 111, 0), (111, .return_, 1, 112, 0)])
theorem kX10_driftOnce : okc cX10_driftOnce (tb mX10_driftOnce) = true := by decide +kernel
def mX10_drift : MD := (yX10_drift, cX10_drift, 3, (some .int), (7, 155), [(0, .iload_n 1, 1, 1, 0), (1, .iconst 1, 1, 2, 0), (2, .if_icmp .lt 9, 3, 5, 11), (5, .iload_n 1, 1, 6, 0), (6, .bipush 30, 2, 8, 0), (8, .if_icmp .le 6, 3, 11, 14), (11, .ldc 84, 2, 13, 0), (13, .ireturn, 1, 14, 0), (14, .aload_n 0, 1, 15, 0), (15, .getfield 108, 3, 18, 0), (18, .ifCond .ne 6, 3, 21, 24), (21, .ldc 195, 2, 23, 0), (23, .ireturn, 1, 24, 0), (24, .aload_n 0, 1, 25, 0), (25, .getfield 33, 3, 28, 0), (28, .aload_n 0, 1, 29, 0), (29, .getfield 26, 3, 32, 0), (32, .invokevirtual 196, 3, 35, 0), (35, .iconst 0, 1, 36, 0), (36, .istore_n 2, 1, 37, 0), (37, .iload_n 2, 1, 38, 0), (38, .iload_n 1, 1, 39, 0), (39, .if_icmp .ge 23, 3, 42, 62), (42, .aload_n 0, 1, 43, 0), (43, .getfield 26, 3, 46, 0), (46, .getfield 120, 3, 49, 0), (49, .ifCond .le 13, 3, 52, 62), (52, .aload_n 0, 1, 53, 0), (53, .invokevirtual 232, 3, 56, 0), (56, .iinc 2 1, 3, 59, 0), (59, .goto (-22), 3, 62, 37), (62, .aload_n 0, 1, 63, 0), (63, .getfield 26, 3, 66, 0), (66, .invokevirtual 126, 3, 69, 0), (69, .ireturn, 1, 70, 0)])
theorem kX10_drift : okc cX10_drift (tb mX10_drift) = true := by decide +kernel
def mX10_undo : MD := (yX10_undo, cX10_undo, 1, (some .int), (4, 124), [(0, .aload_n 0, 1, 1, 0), (1, .getfield 33, 3, 4, 0), (4, .aload_n 0, 1, 5, 0), (5, .getfield 26, 3, 8, 0), (8, .invokevirtual 235, 3, 11, 0), (11, .ifCond .eq 13, 3, 14, 24), (14, .aload_n 0, 1, 15, 0), (15, .getfield 33, 3, 18, 0), (18, .getfield 138, 3, 21, 0), (21, .goto 5, 3, 24, 26), (24, .ldc 195, 2, 26, 0), (26, .ireturn, 1, 27, 0)])
theorem kX10_undo : okc cX10_undo (tb mX10_undo) = true := by decide +kernel
def mX10_toShake : MD := (yX10_toShake, cX10_toShake, 4, (some .int), (4, 97), [(0, .aload_n 0, 1, 1, 0), (1, .getfield 26, 3, 4, 0), (4, .iload_n 1, 1, 5, 0), (5, .invokevirtual 141, 3, 8, 0), (8, .astore_n 3, 1, 9, 0), (9, .aload_n 3, 1, 10, 0), (10, .ifnonnull 6, 3, 13, 16), (13, .ldc 145, 2, 15, 0), (15, .ireturn, 1, 16, 0), (16, .iload_n 2, 1, 17, 0), (17, .ifCond .lt 8, 3, 20, 25), (20, .iload_n 2, 1, 21, 0), (21, .iconst 3, 1, 22, 0), (22, .if_icmp .le 6, 3, 25, 28), (25, .ldc 84, 2, 27, 0), (27, .ireturn, 1, 28, 0), (28, .aload_n 0, 1, 29, 0), (29, .getfield 62, 3, 32, 0), (32, .aload_n 3, 1, 33, 0), (33, .aload_n 0, 1, 34, 0), (34, .getfield 55, 3, 37, 0), (37, .invokevirtual 239, 3, 40, 0), (40, .iload_n 2, 1, 41, 0), (41, .tableswitch 51 0 2 #[27, 35, 43], 27, 68, 0), (68, .aload_n 0, 1, 69, 0), (69, .getfield 62, 3, 72, 0), (72, .getfield 243, 3, 75, 0), (75, .ireturn, 1, 76, 0), (76, .aload_n 0, 1, 77, 0), (77, .getfield 62, 3, 80, 0), (80, .getfield 246, 3, 83, 0), (83, .ireturn, 1, 84, 0), (84, .aload_n 0, 1, 85, 0), (85, .getfield 62, 3, 88, 0), (88, .getfield 249, 3, 91, 0), (91, .ireturn, 1, 92, 0), (92, .aload_n 0, 1, 93, 0), (93, .getfield 62, 3, 96, 0), (96, .getfield 252, 3, 99, 0), (99, .ireturn, 1, 100, 0)])
theorem kX10_toShake : okc cX10_toShake (tb mX10_toShake) = true := by decide +kernel
def mX10_within : MD := (yX10_within, cX10_within, 4, (some .int), (2, 45), [(0, .aload_n 0, 1, 1, 0), (1, .getfield 26, 3, 4, 0), (4, .iload_n 1, 1, 5, 0), (5, .invokevirtual 141, 3, 8, 0), (8, .astore_n 3, 1, 9, 0), (9, .aload_n 3, 1, 10, 0), (10, .ifnull 11, 3, 13, 21), (13, .aload_n 3, 1, 14, 0), (14, .iload_n 2, 1, 15, 0), (15, .invokevirtual 180, 3, 18, 0), (18, .ifCond .ne 8, 3, 21, 26), (21, .ldc 145, 2, 23, 0), (23, .goto 8, 3, 26, 31), (26, .aload_n 3, 1, 27, 0), (27, .iload_n 2, 1, 28, 0), (28, .invokevirtual 255, 3, 31, 0), (31, .ireturn, 1, 32, 0)])
theorem kX10_within : okc cX10_within (tb mX10_within) = true := by decide +kernel
def mX10_same : MD := (yX10_same, cX10_same, 5, (some .int), (6, 141), [(0, .aload_n 0, 1, 1, 0), (1, .getfield 26, 3, 4, 0), (4, .iload_n 1, 1, 5, 0), (5, .invokevirtual 141, 3, 8, 0), (8, .astore_n 3, 1, 9, 0), (9, .aload_n 0, 1, 10, 0), (10, .getfield 26, 3, 13, 0), (13, .iload_n 2, 1, 14, 0), (14, .invokevirtual 141, 3, 17, 0), (17, .astore 4, 2, 19, 0), (19, .aload_n 3, 1, 20, 0), (20, .ifnull 13, 3, 23, 33), (23, .aload 4, 2, 25, 0), (25, .ifnull 8, 3, 28, 33), (28, .iload_n 1, 1, 29, 0), (29, .iload_n 2, 1, 30, 0), (30, .if_icmp .ne 6, 3, 33, 36), (33, .ldc 145, 2, 35, 0), (35, .ireturn, 1, 36, 0), (36, .aload_n 0, 1, 37, 0), (37, .getfield 76, 3, 40, 0), (40, .aload_n 3, 1, 41, 0), (41, .aload 4, 2, 43, 0), (43, .invokevirtual 258, 3, 46, 0), (46, .ireturn, 1, 47, 0)])
theorem kX10_same : okc cX10_same (tb mX10_same) = true := by decide +kernel
def mX10_fewestUnsalted : MD := (yX10_fewestUnsalted, cX10_fewestUnsalted, 2, (some .int), (4, 100), [(0, .aload_n 0, 1, 1, 0), (1, .getfield 55, 3, 4, 0), (4, .aload_n 1, 1, 5, 0), (5, .aload_n 1, 1, 6, 0), (6, .invokevirtual 216, 3, 9, 0), (9, .iconst 0, 1, 10, 0), (10, .iconst 0, 1, 11, 0), (11, .invokevirtual 285, 3, 14, 0), (14, .invokestatic 289, 3, 17, 0), (17, .ireturn, 1, 18, 0)])
theorem kX10_fewestUnsalted : okc cX10_fewestUnsalted (tb mX10_fewestUnsalted) = true := by decide +kernel
def mX10_tells : MD := (yX10_tells, cX10_tells, 6, (some .int), (5, 121), [(0, .aload_n 0, 1, 1, 0), (1, .getfield 26, 3, 4, 0), (4, .iload_n 1, 1, 5, 0), (5, .invokevirtual 141, 3, 8, 0), (8, .astore_n 3, 1, 9, 0), (9, .aload_n 0, 1, 10, 0), (10, .getfield 26, 3, 13, 0), (13, .iload_n 2, 1, 14, 0), (14, .invokevirtual 141, 3, 17, 0), (17, .astore 4, 2, 19, 0), (19, .aload_n 3, 1, 20, 0), (20, .ifnull 13, 3, 23, 33), (23, .aload 4, 2, 25, 0), (25, .ifnull 8, 3, 28, 33), (28, .iload_n 1, 1, 29, 0), (29, .iload_n 2, 1, 30, 0), (30, .if_icmp .ne 6, 3, 33, 36), (33, .ldc 145, 2, 35, 0), (35, .ireturn, 1, 36, 0), (36, .iconst 0, 1, 37, 0), (37, .istore 5, 2, 39, 0), (39, .aload_n 0, 1, 40, 0), (40, .getfield 69, 3, 43, 0), (43, .aload_n 3, 1, 44, 0), (44, .iconst 3, 1, 45, 0), (45, .invokevirtual 154, 3, 48, 0), (48, .aload_n 0, 1, 49, 0), (49, .getfield 69, 3, 52, 0), (52, .aload 4, 2, 54, 0), (54, .iconst 3, 1, 55, 0), (55, .invokevirtual 154, 3, 58, 0), (58, .if_icmp .eq 6, 3, 61, 64), (61, .iinc 5 1, 3, 64, 0), (64, .aload_n 0, 1, 65, 0), (65, .getfield 69, 3, 68, 0), (68, .aload_n 3, 1, 69, 0), (69, .iconst 5, 1, 70, 0), (70, .invokevirtual 154, 3, 73, 0), (73, .aload_n 0, 1, 74, 0), (74, .getfield 69, 3, 77, 0), (77, .aload 4, 2, 79, 0), (79, .iconst 5, 1, 80, 0), (80, .invokevirtual 154, 3, 83, 0), (83, .if_icmp .eq 6, 3, 86, 89), (86, .iinc 5 2, 3, 89, 0), (89, .aload_n 0, 1, 90, 0), (90, .aload_n 3, 1, 91, 0), (91, .invokevirtual 262, 3, 94, 0), (94, .aload_n 0, 1, 95, 0), (95, .aload 4, 2, 97, 0), (97, .invokevirtual 262, 3, 100, 0), (100, .if_icmp .eq 6, 3, 103, 106), (103, .iinc 5 4, 3, 106, 0), (106, .iload 5, 2, 108, 0), (108, .ireturn, 1, 109, 0)])
theorem kX10_tells : okc cX10_tells (tb mX10_tells) = true := by decide +kernel
def mX10_words : MD := (yX10_words, cX10_words, 4, (some .int), (5, 115), [(0, .aload_n 0, 1, 1, 0), (1, .getfield 26, 3, 4, 0), (4, .iload_n 1, 1, 5, 0), (5, .invokevirtual 141, 3, 8, 0), (8, .astore_n 3, 1, 9, 0), (9, .aload_n 3, 1, 10, 0), (10, .ifnonnull 8, 3, 13, 18), (13, .ldc 145, 2, 15, 0), (15, .goto 12, 3, 18, 27), (18, .aload_n 0, 1, 19, 0), (19, .getfield 76, 3, 22, 0), (22, .aload_n 3, 1, 23, 0), (23, .iload_n 2, 1, 24, 0), (24, .invokevirtual 265, 3, 27, 0), (27, .ireturn, 1, 28, 0)])
theorem kX10_words : okc cX10_words (tb mX10_words) = true := by decide +kernel
def mX10_colour : MD := (yX10_colour, cX10_colour, 4, (some .int), (5, 118), [(0, .aload_n 0, 1, 1, 0), (1, .getfield 26, 3, 4, 0), (4, .iload_n 1, 1, 5, 0), (5, .invokevirtual 141, 3, 8, 0), (8, .astore_n 3, 1, 9, 0), (9, .aload_n 3, 1, 10, 0), (10, .ifnonnull 8, 3, 13, 18), (13, .ldc 145, 2, 15, 0), (15, .goto 12, 3, 18, 27), (18, .aload_n 0, 1, 19, 0), (19, .getfield 69, 3, 22, 0), (22, .aload_n 3, 1, 23, 0), (23, .iload_n 2, 1, 24, 0), (24, .invokevirtual 268, 3, 27, 0), (27, .ireturn, 1, 28, 0)])
theorem kX10_colour : okc cX10_colour (tb mX10_colour) = true := by decide +kernel
def mX10_whole : MD := (yX10_whole, cX10_whole, 6, (some .int), (0, 0), [(0, .iload_n 1, 1, 1, 0), (1, .ifCond .lt 19, 3, 4, 20), (4, .iload_n 1, 1, 5, 0), (5, .bipush 60, 2, 7, 0), (7, .if_icmp .gt 13, 3, 10, 20), (10, .iload_n 2, 1, 11, 0), (11, .ifCond .lt 9, 3, 14, 20), (14, .iload_n 2, 1, 15, 0), (15, .bipush 100, 2, 17, 0), (17, .if_icmp .le 6, 3, 20, 23), (20, .ldc 84, 2, 22, 0), (22, .ireturn, 1, 23, 0), (23, .ldc2_w 271, 3, 26, 0), (26, .lstore_n 3, 1, 27, 0), (27, .iconst 0, 1, 28, 0), (28, .istore 5, 2, 30, 0), (30, .iload 5, 2, 32, 0), (32, .iload_n 1, 1, 33, 0), (33, .if_icmp .ge 18, 3, 36, 51), (36, .lload_n 3, 1, 37, 0), (37, .iload_n 2, 1, 38, 0), (38, .i2l, 1, 39, 0), (39, .lmul, 1, 40, 0), (40, .ldc2_w 273, 3, 43, 0), (43, .ldiv, 1, 44, 0), (44, .lstore_n 3, 1, 45, 0), (45, .iinc 5 1, 3, 48, 0), (48, .goto (-18), 3, 51, 30), (51, .lload_n 3, 1, 52, 0), (52, .l2i, 1, 53, 0), (53, .ireturn, 1, 54, 0)])
theorem kX10_whole : okc cX10_whole (tb mX10_whole) = true := by decide +kernel
def mX10_write : MD := (yX10_write, cX10_write, 3, (some .int), (1, 22), [(0, .aload_n 0, 1, 1, 0), (1, .getfield 26, 3, 4, 0), (4, .iload_n 1, 1, 5, 0), (5, .invokevirtual 141, 3, 8, 0), (8, .ifnonnull 6, 3, 11, 14), (11, .ldc 145, 2, 13, 0), (13, .ireturn, 1, 14, 0), (14, .iload_n 2, 1, 15, 0), (15, .ifCond .lt 9, 3, 18, 24), (18, .iload_n 2, 1, 19, 0), (19, .bipush 8, 2, 21, 0), (21, .if_icmp .le 6, 3, 24, 27), (24, .ldc 84, 2, 26, 0), (26, .ireturn, 1, 27, 0), (27, .aload_n 0, 1, 28, 0), (28, .getfield 48, 3, 31, 0), (31, .iload_n 1, 1, 32, 0), (32, .iload_n 2, 1, 33, 0), (33, .invokevirtual 275, 3, 36, 0), (36, .ifCond .eq 13, 3, 39, 49), (39, .aload_n 0, 1, 40, 0), (40, .getfield 48, 3, 43, 0), (43, .getfield 111, 3, 46, 0), (46, .goto 5, 3, 49, 51), (49, .ldc 92, 2, 51, 0), (51, .ireturn, 1, 52, 0)])
theorem kX10_write : okc cX10_write (tb mX10_write) = true := by decide +kernel
def mX10_tear : MD := (yX10_tear, cX10_tear, 2, (some .int), (0, 0), [(0, .aload_n 0, 1, 1, 0), (1, .getfield 48, 3, 4, 0), (4, .getfield 111, 3, 7, 0), (7, .istore_n 1, 1, 8, 0), (8, .aload_n 0, 1, 9, 0), (9, .getfield 48, 3, 12, 0), (12, .iconst 0, 1, 13, 0), (13, .putfield 111, 3, 16, 0), (16, .iload_n 1, 1, 17, 0), (17, .ireturn, 1, 18, 0)])
theorem kX10_tear : okc cX10_tear (tb mX10_tear) = true := by decide +kernel
def mX10_judge : MD := (yX10_judge, cX10_judge, 1, (some .int), (2, 44), [(0, .aload_n 0, 1, 1, 0), (1, .getfield 48, 3, 4, 0), (4, .aload_n 0, 1, 5, 0), (5, .getfield 26, 3, 8, 0), (8, .invokevirtual 278, 3, 11, 0), (11, .ireturn, 1, 12, 0)])
theorem kX10_judge : okc cX10_judge (tb mX10_judge) = true := by decide +kernel
def mX10_seed : MD := (yX10_seed, cX10_seed, 3, (some .int), (0, 0), [(0, .iload_n 1, 1, 1, 0), (1, .ifCond .ge 6, 3, 4, 7), (4, .ldc 84, 2, 6, 0), (6, .ireturn, 1, 7, 0), (7, .aload_n 0, 1, 8, 0), (8, .getfield 282, 3, 11, 0), (11, .istore_n 2, 1, 12, 0), (12, .aload_n 0, 1, 13, 0), (13, .iload_n 1, 1, 14, 0), (14, .putfield 282, 3, 17, 0), (17, .iload_n 2, 1, 18, 0), (18, .ireturn, 1, 19, 0)])
theorem kX10_seed : okc cX10_seed (tb mX10_seed) = true := by decide +kernel
def mX10_keep : MD := (yX10_keep, cX10_keep, 2, (some .int), (3, 103), [(0, .iload_n 1, 1, 1, 0), (1, .ifCond .lt 8, 3, 4, 9), (4, .iload_n 1, 1, 5, 0), (5, .iconst 2, 1, 6, 0), (6, .if_icmp .lt 6, 3, 9, 12), (9, .ldc 145, 2, 11, 0), (11, .ireturn, 1, 12, 0), (12, .aload_n 0, 1, 13, 0), (13, .getfield 37, 3, 16, 0), (16, .iload_n 1, 1, 17, 0), (17, .aaload, 1, 18, 0), (18, .aload_n 0, 1, 19, 0), (19, .getfield 26, 3, 22, 0), (22, .invokevirtual 101, 3, 25, 0), (25, .aload_n 0, 1, 26, 0), (26, .getfield 41, 3, 29, 0), (29, .iload_n 1, 1, 30, 0), (30, .aload_n 0, 1, 31, 0), (31, .getfield 282, 3, 34, 0), (34, .iastore, 1, 35, 0), (35, .aload_n 0, 1, 36, 0), (36, .dup, 1, 37, 0), (37, .getfield 114, 3, 40, 0), (40, .iconst 1, 1, 41, 0), (41, .iload_n 1, 1, 42, 0), (42, .ishl, 1, 43, 0), (43, .ior, 1, 44, 0), (44, .putfield 114, 3, 47, 0), (47, .aload_n 0, 1, 48, 0), (48, .getfield 33, 3, 51, 0), (51, .invokevirtual 117, 3, 54, 0), (54, .iconst 1, 1, 55, 0), (55, .ireturn, 1, 56, 0)])
theorem kX10_keep : okc cX10_keep (tb mX10_keep) = true := by decide +kernel
def mX10_goBack : MD := (yX10_goBack, cX10_goBack, 2, (some .int), (3, 103), [(0, .iload_n 1, 1, 1, 0), (1, .ifCond .lt 8, 3, 4, 9), (4, .iload_n 1, 1, 5, 0), (5, .iconst 2, 1, 6, 0), (6, .if_icmp .lt 6, 3, 9, 12), (9, .ldc 145, 2, 11, 0), (11, .ireturn, 1, 12, 0), (12, .aload_n 0, 1, 13, 0), (13, .getfield 114, 3, 16, 0), (16, .iload_n 1, 1, 17, 0), (17, .invokestatic 228, 3, 20, 0), (20, .ifCond .ne 6, 3, 23, 26), (23, .ldc 195, 2, 25, 0), (25, .ireturn, 1, 26, 0), (26, .aload_n 0, 1, 27, 0), (27, .getfield 26, 3, 30, 0), (30, .aload_n 0, 1, 31, 0), (31, .getfield 37, 3, 34, 0), (34, .iload_n 1, 1, 35, 0), (35, .aaload, 1, 36, 0), (36, .invokevirtual 101, 3, 39, 0), (39, .aload_n 0, 1, 40, 0), (40, .aload_n 0, 1, 41, 0), (41, .getfield 41, 3, 44, 0), (44, .iload_n 1, 1, 45, 0), (45, .iaload, 1, 46, 0), (46, .putfield 282, 3, 49, 0), (49, .aload_n 0, 1, 50, 0), (50, .getfield 33, 3, 53, 0), (53, .invokevirtual 117, 3, 56, 0), (56, .iconst 1, 1, 57, 0), (57, .ireturn, 1, 58, 0)])
theorem kX10_goBack : okc cX10_goBack (tb mX10_goBack) = true := by decide +kernel
def mX11_in : MD := (yX11_in, cX11_in, 6, (some .boolean), (0, 0), [(0, .lload_n 0, 1, 1, 0), (1, .lload_n 2, 1, 2, 0), (2, .lcmp, 1, 3, 0), (3, .ifCond .lt 14, 3, 6, 17), (6, .lload_n 0, 1, 7, 0), (7, .lload 4, 2, 9, 0), (9, .lcmp, 1, 10, 0), (10, .ifCond .gt 7, 3, 13, 17), (13, .iconst 1, 1, 14, 0), (14, .goto 4, 3, 17, 18), (17, .iconst 0, 1, 18, 0), (18, .ireturn, 1, 19, 0)])
theorem kX11_in : okc cX11_in (tb mX11_in) = true := by decide +kernel
def mX11_has : MD := (yX11_has, cX11_has, 2, (some .boolean), (0, 0), [(0, .iload_n 0, 1, 1, 0), (1, .iload_n 1, 1, 2, 0), (2, .ishr, 1, 3, 0), (3, .iconst 1, 1, 4, 0), (4, .iand, 1, 5, 0), (5, .iconst 1, 1, 6, 0), (6, .if_icmp .ne 7, 3, 9, 13), (9, .iconst 1, 1, 10, 0), (10, .goto 4, 3, 13, 14), (13, .iconst 0, 1, 14, 0), (14, .ireturn, 1, 15, 0)])
theorem kX11_has : okc cX11_has (tb mX11_has) = true := by decide +kernel
def mX11_bits : MD := (yX11_bits, cX11_bits, 3, (some .int), (0, 0), [(0, .iconst 0, 1, 1, 0), (1, .istore_n 1, 1, 2, 0), (2, .iconst 0, 1, 3, 0), (3, .istore_n 2, 1, 4, 0), (4, .iload_n 2, 1, 5, 0), (5, .bipush 8, 2, 7, 0), (7, .if_icmp .ge 17, 3, 10, 24), (10, .iload_n 1, 1, 11, 0), (11, .iload_n 0, 1, 12, 0), (12, .iload_n 2, 1, 13, 0), (13, .ishr, 1, 14, 0), (14, .iconst 1, 1, 15, 0), (15, .iand, 1, 16, 0), (16, .iadd, 1, 17, 0), (17, .istore_n 1, 1, 18, 0), (18, .iinc 2 1, 3, 21, 0), (21, .goto (-17), 3, 24, 4), (24, .iload_n 1, 1, 25, 0), (25, .ireturn, 1, 26, 0)])
theorem kX11_bits : okc cX11_bits (tb mX11_bits) = true := by decide +kernel
def mX11_base : MD := (yX11_base, cX11_base, 2, (some .int), (0, 0), [(0, .iconst 2, 1, 1, 0), (1, .bipush 18, 2, 3, 0), (3, .iload_n 1, 1, 4, 0), (4, .imul, 1, 5, 0), (5, .iadd, 1, 6, 0), (6, .ireturn, 1, 7, 0)])
theorem kX11_base : okc cX11_base (tb mX11_base) = true := by decide +kernel
def mX11_isOne : MD := (yX11_isOne, cX11_isOne, 2, (some .boolean), (1, 25), [(0, .iload_n 1, 1, 1, 0), (1, .i2l, 1, 2, 0), (2, .lconst 0, 1, 3, 0), (3, .aload_n 0, 1, 4, 0), (4, .getfield 7, 3, 7, 0), (7, .iconst 1, 1, 8, 0), (8, .iaload, 1, 9, 0), (9, .iconst 1, 1, 10, 0), (10, .isub, 1, 11, 0), (11, .i2l, 1, 12, 0), (12, .invokestatic 81, 3, 15, 0), (15, .ireturn, 1, 16, 0)])
theorem kX11_isOne : okc cX11_isOne (tb mX11_isOne) = true := by decide +kernel
def mX11_passes : MD := (yX11_passes, cX11_passes, 2, (some .int), (1, 21), [(0, .aload_n 0, 1, 1, 0), (1, .getfield 7, 3, 4, 0), (4, .aload_n 0, 1, 5, 0), (5, .iload_n 1, 1, 6, 0), (6, .invokevirtual 85, 3, 9, 0), (9, .iaload, 1, 10, 0), (10, .ireturn, 1, 11, 0)])
theorem kX11_passes : okc cX11_passes (tb mX11_passes) = true := by decide +kernel
def mX11_crossings : MD := (yX11_crossings, cX11_crossings, 2, (some .int), (2, 42), [(0, .aload_n 0, 1, 1, 0), (1, .iload_n 1, 1, 2, 0), (2, .invokevirtual 89, 3, 5, 0), (5, .iconst 2, 1, 6, 0), (6, .idiv, 1, 7, 0), (7, .ireturn, 1, 8, 0)])
theorem kX11_crossings : okc cX11_crossings (tb mX11_crossings) = true := by decide +kernel
def mX11_isCrossing : MD := (yX11_isCrossing, cX11_isCrossing, 3, (some .boolean), (3, 63), [(0, .iload_n 2, 1, 1, 0), (1, .i2l, 1, 2, 0), (2, .lconst 0, 1, 3, 0), (3, .aload_n 0, 1, 4, 0), (4, .iload_n 1, 1, 5, 0), (5, .invokevirtual 92, 3, 8, 0), (8, .iconst 1, 1, 9, 0), (9, .isub, 1, 10, 0), (10, .i2l, 1, 11, 0), (11, .invokestatic 81, 3, 14, 0), (14, .ireturn, 1, 15, 0)])
theorem kX11_isCrossing : okc cX11_isCrossing (tb mX11_isCrossing) = true := by decide +kernel
def mX11_copies : MD := (yX11_copies, cX11_copies, 4, none, (0, 0), [(0, .iconst 0, 1, 1, 0), (1, .istore_n 3, 1, 2, 0), (2, .iload_n 3, 1, 3, 0), (3, .bipush 92, 2, 5, 0), (5, .if_icmp .ge 31, 3, 8, 36), (8, .aload_n 0, 1, 9, 0), (9, .getfield 7, 3, 12, 0), (12, .bipush 92, 2, 14, 0), (14, .iload_n 2, 1, 15, 0), (15, .imul, 1, 16, 0), (16, .iload_n 3, 1, 17, 0), (17, .iadd, 1, 18, 0), (18, .aload_n 0, 1, 19, 0), (19, .getfield 7, 3, 22, 0), (22, .bipush 92, 2, 24, 0), (24, .iload_n 1, 1, 25, 0), (25, .imul, 1, 26, 0), (26, .iload_n 3, 1, 27, 0), (27, .iadd, 1, 28, 0), (28, .iaload, 1, 29, 0), (29, .iastore, 1, 30, 0), (30, .iinc 3 1, 3, 33, 0), (33, .goto (-31), 3, 36, 2), (36, .return_, 1, 37, 0)])
theorem kX11_copies : okc cX11_copies (tb mX11_copies) = true := by decide +kernel
def mX11_feed : MD := (yX11_feed, cX11_feed, 2, (some .int), (1, 25), [(0, .iload_n 1, 1, 1, 0), (1, .i2l, 1, 2, 0), (2, .lconst 0, 1, 3, 0), (3, .ldc2_w 95, 3, 6, 0), (6, .invokestatic 81, 3, 9, 0), (9, .ifCond .ne 6, 3, 12, 15), (12, .ldc 97, 2, 14, 0), (14, .ireturn, 1, 15, 0), (15, .aload_n 0, 1, 16, 0), (16, .getfield 98, 3, 19, 0), (19, .sipush 240, 3, 22, 0), (22, .if_icmp .ne 6, 3, 25, 28), (25, .ldc 101, 2, 27, 0), (27, .ireturn, 1, 28, 0), (28, .aload_n 0, 1, 29, 0), (29, .getfield 19, 3, 32, 0), (32, .aload_n 0, 1, 33, 0), (33, .getfield 98, 3, 36, 0), (36, .iload_n 1, 1, 37, 0), (37, .i2b, 1, 38, 0), (38, .bastore, 1, 39, 0), (39, .aload_n 0, 1, 40, 0), (40, .dup, 1, 41, 0), (41, .getfield 98, 3, 44, 0), (44, .iconst 1, 1, 45, 0), (45, .iadd, 1, 46, 0), (46, .putfield 98, 3, 49, 0), (49, .aload_n 0, 1, 50, 0), (50, .getfield 98, 3, 53, 0), (53, .ireturn, 1, 54, 0)])
theorem kX11_feed : okc cX11_feed (tb mX11_feed) = true := by decide +kernel
def mX11_next : MD := (yX11_next, cX11_next, 1, (some .int), (0, 0), [(0, .aload_n 0, 1, 1, 0), (1, .getfield 102, 3, 4, 0), (4, .aload_n 0, 1, 5, 0), (5, .getfield 98, 3, 8, 0), (8, .if_icmp .ge 30, 3, 11, 38), (11, .aload_n 0, 1, 12, 0), (12, .getfield 19, 3, 15, 0), (15, .aload_n 0, 1, 16, 0), (16, .getfield 102, 3, 19, 0), (19, .baload, 1, 20, 0), (20, .bipush 32, 2, 22, 0), (22, .if_icmp .ne 16, 3, 25, 38), (25, .aload_n 0, 1, 26, 0), (26, .dup, 1, 27, 0), (27, .getfield 102, 3, 30, 0), (30, .iconst 1, 1, 31, 0), (31, .iadd, 1, 32, 0), (32, .putfield 102, 3, 35, 0), (35, .goto (-35), 3, 38, 0), (38, .aload_n 0, 1, 39, 0), (39, .getfield 102, 3, 42, 0), (42, .aload_n 0, 1, 43, 0), (43, .getfield 98, 3, 46, 0), (46, .if_icmp .ge 19, 3, 49, 65), (49, .aload_n 0, 1, 50, 0), (50, .getfield 19, 3, 53, 0), (53, .aload_n 0, 1, 54, 0), (54, .getfield 102, 3, 57, 0), (57, .baload, 1, 58, 0), (58, .sipush 255, 3, 61, 0), (61, .iand, 1, 62, 0), (62, .goto 4, 3, 65, 66), (65, .iconst (-1), 1, 66, 0), (66, .ireturn, 1, 67, 0)])
theorem kX11_next : okc cX11_next (tb mX11_next) = true := by decide +kernel
def mX11_blames : MD := (yX11_blames, cX11_blames, 3, none, (0, 0), [(0, .aload_n 0, 1, 1, 0), (1, .aload_n 0, 1, 2, 0), (2, .getfield 105, 3, 5, 0), (5, .ifCond .ne 7, 3, 8, 12), (8, .iload_n 1, 1, 9, 0), (9, .goto 7, 3, 12, 16), (12, .aload_n 0, 1, 13, 0), (13, .getfield 105, 3, 16, 0), (16, .putfield 105, 3, 19, 0), (19, .aload_n 0, 1, 20, 0), (20, .aload_n 0, 1, 21, 0), (21, .getfield 105, 3, 24, 0), (24, .iload_n 1, 1, 25, 0), (25, .if_icmp .ne 14, 3, 28, 39), (28, .aload_n 0, 1, 29, 0), (29, .getfield 108, 3, 32, 0), (32, .ifCond .ge 7, 3, 35, 39), (35, .iload_n 2, 1, 36, 0), (36, .goto 7, 3, 39, 43), (39, .aload_n 0, 1, 40, 0), (40, .getfield 108, 3, 43, 0), (43, .putfield 108, 3, 46, 0), (46, .return_, 1, 47, 0)])
theorem kX11_blames : okc cX11_blames (tb mX11_blames) = true := by decide +kernel
def mX11_ends : MD := (yX11_ends, cX11_ends, 1, none, (1, 22), [(0, .aload_n 0, 1, 1, 0), (1, .getfield 105, 3, 4, 0), (4, .ifCond .ne 21, 3, 7, 25), (7, .aload_n 0, 1, 8, 0), (8, .invokevirtual 111, 3, 11, 0), (11, .bipush 59, 2, 13, 0), (13, .if_icmp .eq 12, 3, 16, 25), (16, .aload_n 0, 1, 17, 0), (17, .iconst 1, 1, 18, 0), (18, .aload_n 0, 1, 19, 0), (19, .getfield 102, 3, 22, 0), (22, .invokevirtual 115, 3, 25, 0), (25, .aload_n 0, 1, 26, 0), (26, .dup, 1, 27, 0), (27, .getfield 102, 3, 30, 0), (30, .iconst 1, 1, 31, 0), (31, .iadd, 1, 32, 0), (32, .putfield 102, 3, 35, 0), (35, .return_, 1, 36, 0)])
theorem kX11_ends : okc cX11_ends (tb mX11_ends) = true := by decide +kernel
def mX11_grains : MD := (yX11_grains, cX11_grains, 4, none, (2, 42), [(0, .aload_n 0, 1, 1, 0), (1, .invokevirtual 111, 3, 4, 0), (4, .pop, 1, 5, 0), (5, .aload_n 0, 1, 6, 0), (6, .getfield 102, 3, 9, 0), (9, .istore_n 1, 1, 10, 0), (10, .iconst 0, 1, 11, 0), (11, .istore_n 2, 1, 12, 0), (12, .iconst 0, 1, 13, 0), (13, .istore_n 3, 1, 14, 0), (14, .aload_n 0, 1, 15, 0), (15, .getfield 102, 3, 18, 0), (18, .aload_n 0, 1, 19, 0), (19, .getfield 98, 3, 22, 0), (22, .if_icmp .ge 68, 3, 25, 90), (25, .aload_n 0, 1, 26, 0), (26, .getfield 19, 3, 29, 0), (29, .aload_n 0, 1, 30, 0), (30, .getfield 102, 3, 33, 0), (33, .baload, 1, 34, 0), (34, .i2l, 1, 35, 0), (35, .ldc2_w 119, 3, 38, 0), (38, .ldc2_w 121, 3, 41, 0), (41, .invokestatic 81, 3, 44, 0), (44, .ifCond .eq 46, 3, 47, 90), (47, .iload_n 2, 1, 48, 0), (48, .iconst 4, 1, 49, 0), (49, .if_icmp .ge 23, 3, 52, 72), (52, .bipush 10, 2, 54, 0), (54, .iload_n 3, 1, 55, 0), (55, .imul, 1, 56, 0), (56, .aload_n 0, 1, 57, 0), (57, .getfield 19, 3, 60, 0), (60, .aload_n 0, 1, 61, 0), (61, .getfield 102, 3, 64, 0), (64, .baload, 1, 65, 0), (65, .iadd, 1, 66, 0), (66, .bipush 48, 2, 68, 0), (68, .isub, 1, 69, 0), (69, .goto 4, 3, 72, 73), (72, .iload_n 3, 1, 73, 0), (73, .istore_n 3, 1, 74, 0), (74, .iinc 2 1, 3, 77, 0), (77, .aload_n 0, 1, 78, 0), (78, .dup, 1, 79, 0), (79, .getfield 102, 3, 82, 0), (82, .iconst 1, 1, 83, 0), (83, .iadd, 1, 84, 0), (84, .putfield 102, 3, 87, 0), (87, .goto (-73), 3, 90, 14), (90, .iload_n 2, 1, 91, 0), (91, .ifCond .ne 12, 3, 94, 103), (94, .aload_n 0, 1, 95, 0), (95, .iconst 1, 1, 96, 0), (96, .iload_n 1, 1, 97, 0), (97, .invokevirtual 115, 3, 100, 0), (100, .goto 20, 3, 103, 120), (103, .iload_n 2, 1, 104, 0), (104, .iconst 3, 1, 105, 0), (105, .if_icmp .gt 9, 3, 108, 114), (108, .iload_n 3, 1, 109, 0), (109, .bipush 99, 2, 111, 0), (111, .if_icmp .le 9, 3, 114, 120), (114, .aload_n 0, 1, 115, 0), (115, .iconst 2, 1, 116, 0), (116, .iload_n 1, 1, 117, 0), (117, .invokevirtual 115, 3, 120, 0), (120, .aload_n 0, 1, 121, 0), (121, .iload_n 3, 1, 122, 0), (122, .putfield 123, 3, 125, 0), (125, .aload_n 0, 1, 126, 0), (126, .invokevirtual 126, 3, 129, 0), (129, .return_, 1, 130, 0)])
theorem kX11_grains : okc cX11_grains (tb mX11_grains) = true := by decide +kernel
def mX11_nameOf : MD := (yX11_nameOf, cX11_nameOf, 1, (some .int), (1, 25), [(0, .iload_n 0, 1, 1, 0), (1, .i2l, 1, 2, 0), (2, .ldc2_w 129, 3, 5, 0), (5, .ldc2_w 131, 3, 8, 0), (8, .invokestatic 81, 3, 11, 0), (11, .ifCond .eq 13, 3, 14, 24), (14, .iload_n 0, 1, 15, 0), (15, .bipush 65, 2, 17, 0), (17, .isub, 1, 18, 0), (18, .bipush 32, 2, 20, 0), (20, .iadd, 1, 21, 0), (21, .goto 25, 3, 24, 46), (24, .iload_n 0, 1, 25, 0), (25, .i2l, 1, 26, 0), (26, .ldc2_w 133, 3, 29, 0), (29, .ldc2_w 135, 3, 32, 0), (32, .invokestatic 81, 3, 35, 0), (35, .ifCond .eq 10, 3, 38, 45), (38, .iload_n 0, 1, 39, 0), (39, .bipush 97, 2, 41, 0), (41, .isub, 1, 42, 0), (42, .goto 4, 3, 45, 46), (45, .iconst (-1), 1, 46, 0), (46, .ireturn, 1, 47, 0)])
theorem kX11_nameOf : okc cX11_nameOf (tb mX11_nameOf) = true := by decide +kernel
def mX11_threads : MD := (yX11_threads, cX11_threads, 7, none, (2, 45), [(0, .iconst 0, 1, 1, 0), (1, .istore_n 1, 1, 2, 0), (2, .iload_n 1, 1, 3, 0), (3, .bipush 26, 2, 5, 0), (5, .if_icmp .ge 16, 3, 8, 21), (8, .aload_n 0, 1, 9, 0), (9, .getfield 33, 3, 12, 0), (12, .iload_n 1, 1, 13, 0), (13, .iconst 0, 1, 14, 0), (14, .iastore, 1, 15, 0), (15, .iinc 1 1, 3, 18, 0), (18, .goto (-16), 3, 21, 2), (21, .iconst 0, 1, 22, 0), (22, .istore_n 1, 1, 23, 0), (23, .iconst 0, 1, 24, 0), (24, .istore_n 2, 1, 25, 0), (25, .iconst 0, 1, 26, 0), (26, .istore_n 3, 1, 27, 0), (27, .aload_n 0, 1, 28, 0), (28, .getfield 105, 3, 31, 0), (31, .ifCond .ne 183, 3, 34, 214), (34, .aload_n 0, 1, 35, 0), (35, .invokevirtual 111, 3, 38, 0), (38, .invokestatic 137, 3, 41, 0), (41, .ifCond .lt 173, 3, 44, 214), (44, .aload_n 0, 1, 45, 0), (45, .invokevirtual 111, 3, 48, 0), (48, .invokestatic 137, 3, 51, 0), (51, .istore 4, 2, 53, 0), (53, .iload 4, 2, 55, 0), (55, .bipush 32, 2, 57, 0), (57, .irem, 1, 58, 0), (58, .istore 5, 2, 60, 0), (60, .iload 4, 2, 62, 0), (62, .bipush 32, 2, 64, 0), (64, .if_icmp .ge 7, 3, 67, 71), (67, .iconst 1, 1, 68, 0), (68, .goto 4, 3, 71, 72), (71, .iconst 2, 1, 72, 0), (72, .istore 6, 2, 74, 0), (74, .aload_n 0, 1, 75, 0), (75, .getfield 33, 3, 78, 0), (78, .iload 5, 2, 80, 0), (80, .iaload, 1, 81, 0), (81, .ifCond .ne 21, 3, 84, 102), (84, .iload_n 1, 1, 85, 0), (85, .bipush 8, 2, 87, 0), (87, .if_icmp .ne 15, 3, 90, 102), (90, .aload_n 0, 1, 91, 0), (91, .iconst 3, 1, 92, 0), (92, .aload_n 0, 1, 93, 0), (93, .getfield 102, 3, 96, 0), (96, .invokevirtual 115, 3, 99, 0), (99, .goto 112, 3, 102, 211), (102, .aload_n 0, 1, 103, 0), (103, .getfield 33, 3, 106, 0), (106, .iload 5, 2, 108, 0), (108, .iaload, 1, 109, 0), (109, .iload 6, 2, 111, 0), (111, .iand, 1, 112, 0), (112, .ifCond .eq 15, 3, 115, 127), (115, .aload_n 0, 1, 116, 0), (116, .iconst 4, 1, 117, 0), (117, .aload_n 0, 1, 118, 0), (118, .getfield 102, 3, 121, 0), (121, .invokevirtual 115, 3, 124, 0), (124, .goto 87, 3, 127, 211), (127, .iload_n 1, 1, 128, 0), (128, .aload_n 0, 1, 129, 0), (129, .getfield 33, 3, 132, 0), (132, .iload 5, 2, 134, 0), (134, .iaload, 1, 135, 0), (135, .ifCond .ne 7, 3, 138, 142), (138, .iconst 1, 1, 139, 0), (139, .goto 4, 3, 142, 143), (142, .iconst 0, 1, 143, 0), (143, .iadd, 1, 144, 0), (144, .istore_n 1, 1, 145, 0), (145, .iload_n 2, 1, 146, 0), (146, .aload_n 0, 1, 147, 0), (147, .getfield 33, 3, 150, 0), (150, .iload 5, 2, 152, 0), (152, .iaload, 1, 153, 0), (153, .ifCond .ne 7, 3, 156, 160), (156, .iconst 1, 1, 157, 0), (157, .goto 4, 3, 160, 161), (160, .iconst (-1), 1, 161, 0), (161, .iadd, 1, 162, 0), (162, .istore_n 2, 1, 163, 0), (163, .aload_n 0, 1, 164, 0), (164, .getfield 33, 3, 167, 0), (167, .iload 5, 2, 169, 0), (169, .dup2, 1, 170, 0), (170, .iaload, 1, 171, 0), (171, .iload 6, 2, 173, 0), (173, .ior, 1, 174, 0), (174, .iastore, 1, 175, 0), (175, .aload_n 0, 1, 176, 0), (176, .getfield 30, 3, 179, 0), (179, .bipush 16, 2, 181, 0), (181, .aload_n 0, 1, 182, 0), (182, .getfield 140, 3, 185, 0), (185, .imul, 1, 186, 0), (186, .iload_n 3, 1, 187, 0), (187, .iadd, 1, 188, 0), (188, .iconst 2, 1, 189, 0), (189, .iload 5, 2, 191, 0), (191, .imul, 1, 192, 0), (192, .iload 6, 2, 194, 0), (194, .iadd, 1, 195, 0), (195, .iconst 1, 1, 196, 0), (196, .isub, 1, 197, 0), (197, .iastore, 1, 198, 0), (198, .iinc 3 1, 3, 201, 0), (201, .aload_n 0, 1, 202, 0), (202, .dup, 1, 203, 0), (203, .getfield 102, 3, 206, 0), (206, .iconst 1, 1, 207, 0), (207, .iadd, 1, 208, 0), (208, .putfield 102, 3, 211, 0), (211, .goto (-184), 3, 214, 27), (214, .aload_n 0, 1, 215, 0), (215, .getfield 105, 3, 218, 0), (218, .ifCond .ne 25, 3, 221, 243), (221, .aload_n 0, 1, 222, 0), (222, .invokevirtual 111, 3, 225, 0), (225, .bipush 59, 2, 227, 0), (227, .if_icmp .ne 16, 3, 230, 243), (230, .iload_n 2, 1, 231, 0), (231, .ifCond .le 12, 3, 234, 243), (234, .aload_n 0, 1, 235, 0), (235, .iconst 5, 1, 236, 0), (236, .aload_n 0, 1, 237, 0), (237, .getfield 102, 3, 240, 0), (240, .invokevirtual 115, 3, 243, 0), (243, .aload_n 0, 1, 244, 0), (244, .getfield 27, 3, 247, 0), (247, .aload_n 0, 1, 248, 0), (248, .getfield 140, 3, 251, 0), (251, .iload_n 3, 1, 252, 0), (252, .iastore, 1, 253, 0), (253, .aload_n 0, 1, 254, 0), (254, .dup, 1, 255, 0), (255, .getfield 140, 3, 258, 0), (258, .iconst 1, 1, 259, 0), (259, .iadd, 1, 260, 0), (260, .putfield 140, 3, 263, 0), (263, .aload_n 0, 1, 264, 0), (264, .invokevirtual 126, 3, 267, 0), (267, .return_, 1, 268, 0)])
theorem kX11_threads : okc cX11_threads (tb mX11_threads) = true := by decide +kernel
def mX11_reads : MD := (yX11_reads, cX11_reads, 3, none, (3, 71), [(0, .aload_n 0, 1, 1, 0), (1, .iconst 0, 1, 2, 0), (2, .putfield 102, 3, 5, 0), (5, .aload_n 0, 1, 6, 0), (6, .iconst 0, 1, 7, 0), (7, .putfield 105, 3, 10, 0), (10, .aload_n 0, 1, 11, 0), (11, .iconst (-1), 1, 12, 0), (12, .putfield 108, 3, 15, 0), (15, .aload_n 0, 1, 16, 0), (16, .iconst 0, 1, 17, 0), (17, .putfield 140, 3, 20, 0), (20, .aload_n 0, 1, 21, 0), (21, .iconst 0, 1, 22, 0), (22, .putfield 123, 3, 25, 0), (25, .iconst 1, 1, 26, 0), (26, .istore_n 1, 1, 27, 0), (27, .aload_n 0, 1, 28, 0), (28, .getfield 105, 3, 31, 0), (31, .ifCond .ne 111, 3, 34, 142), (34, .aload_n 0, 1, 35, 0), (35, .invokevirtual 111, 3, 38, 0), (38, .ifCond .lt 104, 3, 41, 142), (41, .aload_n 0, 1, 42, 0), (42, .invokevirtual 111, 3, 45, 0), (45, .istore_n 2, 1, 46, 0), (46, .iload_n 2, 1, 47, 0), (47, .bipush 117, 2, 49, 0), (49, .if_icmp .eq 25, 3, 52, 74), (52, .iload_n 2, 1, 53, 0), (53, .bipush 107, 2, 55, 0), (55, .if_icmp .ne 7, 3, 58, 62), (58, .iload_n 1, 1, 59, 0), (59, .ifCond .eq 15, 3, 62, 74), (62, .aload_n 0, 1, 63, 0), (63, .iconst 1, 1, 64, 0), (64, .aload_n 0, 1, 65, 0), (65, .getfield 102, 3, 68, 0), (68, .invokevirtual 115, 3, 71, 0), (71, .goto 68, 3, 74, 139), (74, .iload_n 2, 1, 75, 0), (75, .bipush 117, 2, 77, 0), (77, .if_icmp .ne 7, 3, 80, 84), (80, .iload_n 1, 1, 81, 0), (81, .ifCond .eq 17, 3, 84, 98), (84, .iload_n 2, 1, 85, 0), (85, .bipush 107, 2, 87, 0), (87, .if_icmp .ne 23, 3, 90, 110), (90, .aload_n 0, 1, 91, 0), (91, .getfield 140, 3, 94, 0), (94, .iconst 5, 1, 95, 0), (95, .if_icmp .ne 15, 3, 98, 110), (98, .aload_n 0, 1, 99, 0), (99, .iconst 3, 1, 100, 0), (100, .aload_n 0, 1, 101, 0), (101, .getfield 102, 3, 104, 0), (104, .invokevirtual 115, 3, 107, 0), (107, .goto 32, 3, 110, 139), (110, .aload_n 0, 1, 111, 0), (111, .dup, 1, 112, 0), (112, .getfield 102, 3, 115, 0), (115, .iconst 1, 1, 116, 0), (116, .iadd, 1, 117, 0), (117, .putfield 102, 3, 120, 0), (120, .iconst 0, 1, 121, 0), (121, .istore_n 1, 1, 122, 0), (122, .iload_n 2, 1, 123, 0), (123, .bipush 117, 2, 125, 0), (125, .if_icmp .ne 10, 3, 128, 135), (128, .aload_n 0, 1, 129, 0), (129, .invokevirtual 143, 3, 132, 0), (132, .goto 7, 3, 135, 139), (135, .aload_n 0, 1, 136, 0), (136, .invokevirtual 146, 3, 139, 0), (139, .goto (-112), 3, 142, 27), (142, .aload_n 0, 1, 143, 0), (143, .aload_n 0, 1, 144, 0), (144, .getfield 105, 3, 147, 0), (147, .ifCond .ne 15, 3, 150, 162), (150, .iload_n 1, 1, 151, 0), (151, .ifCond .ne 7, 3, 154, 158), (154, .iconst 1, 1, 155, 0), (155, .goto 11, 3, 158, 166), (158, .iconst 0, 1, 159, 0), (159, .goto 7, 3, 162, 166), (162, .aload_n 0, 1, 163, 0), (163, .getfield 149, 3, 166, 0), (166, .putfield 149, 3, 169, 0), (169, .return_, 1, 170, 0)])
theorem kX11_reads : okc cX11_reads (tb mX11_reads) = true := by decide +kernel
def mX11_numbers : MD := (yX11_numbers, cX11_numbers, 8, (some .int), (1, 21), [(0, .iconst 0, 1, 1, 0), (1, .istore_n 2, 1, 2, 0), (2, .iconst 0, 1, 3, 0), (3, .istore_n 3, 1, 4, 0), (4, .iconst 0, 1, 5, 0), (5, .istore 4, 2, 7, 0), (7, .iload 4, 2, 9, 0), (9, .aload_n 0, 1, 10, 0), (10, .getfield 156, 3, 13, 0), (13, .if_icmp .ge 144, 3, 16, 157), (16, .aload_n 0, 1, 17, 0), (17, .getfield 42, 3, 20, 0), (20, .iload_n 1, 1, 21, 0), (21, .iload 4, 2, 23, 0), (23, .iadd, 1, 24, 0), (24, .aload_n 0, 1, 25, 0), (25, .getfield 156, 3, 28, 0), (28, .irem, 1, 29, 0), (29, .iaload, 1, 30, 0), (30, .istore 5, 2, 32, 0), (32, .iconst (-1), 1, 33, 0), (33, .istore 6, 2, 35, 0), (35, .iconst 0, 1, 36, 0), (36, .istore 7, 2, 38, 0), (38, .iload 7, 2, 40, 0), (40, .iload 4, 2, 42, 0), (42, .if_icmp .ge 48, 3, 45, 90), (45, .aload_n 0, 1, 46, 0), (46, .getfield 42, 3, 49, 0), (49, .iload_n 1, 1, 50, 0), (50, .iload 7, 2, 52, 0), (52, .iadd, 1, 53, 0), (53, .aload_n 0, 1, 54, 0), (54, .getfield 156, 3, 57, 0), (57, .irem, 1, 58, 0), (58, .iaload, 1, 59, 0), (59, .iconst 2, 1, 60, 0), (60, .idiv, 1, 61, 0), (61, .iload 5, 2, 63, 0), (63, .iconst 2, 1, 64, 0), (64, .idiv, 1, 65, 0), (65, .if_icmp .ne 15, 3, 68, 80), (68, .aload_n 0, 1, 69, 0), (69, .getfield 48, 3, 72, 0), (72, .iload 7, 2, 74, 0), (74, .iaload, 1, 75, 0), (75, .iconst 2, 1, 76, 0), (76, .idiv, 1, 77, 0), (77, .goto 5, 3, 80, 82), (80, .iload 6, 2, 82, 0), (82, .istore 6, 2, 84, 0), (84, .iinc 7 1, 3, 87, 0), (87, .goto (-49), 3, 90, 38), (90, .iload 6, 2, 92, 0), (92, .ifCond .ge 43, 3, 95, 135), (95, .iload_n 2, 1, 96, 0), (96, .istore 6, 2, 98, 0), (98, .iinc 2 1, 3, 101, 0), (101, .iload_n 3, 1, 102, 0), (102, .iload 5, 2, 104, 0), (104, .iconst 2, 1, 105, 0), (105, .idiv, 1, 106, 0), (106, .bipush 8, 2, 108, 0), (108, .if_icmp .ge 24, 3, 111, 132), (111, .aload_n 0, 1, 112, 0), (112, .getfield 159, 3, 115, 0), (115, .iload 5, 2, 117, 0), (117, .iconst 2, 1, 118, 0), (118, .idiv, 1, 119, 0), (119, .invokestatic 172, 3, 122, 0), (122, .ifCond .eq 10, 3, 125, 132), (125, .iconst 1, 1, 126, 0), (126, .iload 6, 2, 128, 0), (128, .ishl, 1, 129, 0), (129, .goto 4, 3, 132, 133), (132, .iconst 0, 1, 133, 0), (133, .ior, 1, 134, 0), (134, .istore_n 3, 1, 135, 0), (135, .aload_n 0, 1, 136, 0), (136, .getfield 48, 3, 139, 0), (139, .iload 4, 2, 141, 0), (141, .iconst 2, 1, 142, 0), (142, .iload 6, 2, 144, 0), (144, .imul, 1, 145, 0), (145, .iload 5, 2, 147, 0), (147, .iconst 2, 1, 148, 0), (148, .irem, 1, 149, 0), (149, .iadd, 1, 150, 0), (150, .iastore, 1, 151, 0), (151, .iinc 4 1, 3, 154, 0), (154, .goto (-147), 3, 157, 7), (157, .iload_n 3, 1, 158, 0), (158, .ireturn, 1, 159, 0)])
theorem kX11_numbers : okc cX11_numbers (tb mX11_numbers) = true := by decide +kernel
def mX11_stores : MD := (yX11_stores, cX11_stores, 4, none, (2, 48), [(0, .aload_n 0, 1, 1, 0), (1, .iconst 0, 1, 2, 0), (2, .invokevirtual 176, 3, 5, 0), (5, .istore_n 2, 1, 6, 0), (6, .aload_n 0, 1, 7, 0), (7, .getfield 7, 3, 10, 0), (10, .aload_n 0, 1, 11, 0), (11, .iload_n 1, 1, 12, 0), (12, .invokevirtual 85, 3, 15, 0), (15, .aload_n 0, 1, 16, 0), (16, .getfield 156, 3, 19, 0), (19, .iastore, 1, 20, 0), (20, .aload_n 0, 1, 21, 0), (21, .getfield 7, 3, 24, 0), (24, .aload_n 0, 1, 25, 0), (25, .iload_n 1, 1, 26, 0), (26, .invokevirtual 85, 3, 29, 0), (29, .iconst 1, 1, 30, 0), (30, .iadd, 1, 31, 0), (31, .iload_n 2, 1, 32, 0), (32, .iastore, 1, 33, 0), (33, .iconst 0, 1, 34, 0), (34, .istore_n 3, 1, 35, 0), (35, .iload_n 3, 1, 36, 0), (36, .bipush 16, 2, 38, 0), (38, .if_icmp .ge 41, 3, 41, 79), (41, .aload_n 0, 1, 42, 0), (42, .getfield 7, 3, 45, 0), (45, .aload_n 0, 1, 46, 0), (46, .iload_n 1, 1, 47, 0), (47, .invokevirtual 85, 3, 50, 0), (50, .iconst 2, 1, 51, 0), (51, .iadd, 1, 52, 0), (52, .iload_n 3, 1, 53, 0), (53, .iadd, 1, 54, 0), (54, .iload_n 3, 1, 55, 0), (55, .aload_n 0, 1, 56, 0), (56, .getfield 156, 3, 59, 0), (59, .if_icmp .ge 12, 3, 62, 71), (62, .aload_n 0, 1, 63, 0), (63, .getfield 48, 3, 66, 0), (66, .iload_n 3, 1, 67, 0), (67, .iaload, 1, 68, 0), (68, .goto 4, 3, 71, 72), (71, .iconst 0, 1, 72, 0), (72, .iastore, 1, 73, 0), (73, .iinc 3 1, 3, 76, 0), (76, .goto (-41), 3, 79, 35), (79, .return_, 1, 80, 0)])
theorem kX11_stores : okc cX11_stores (tb mX11_stores) = true := by decide +kernel
def mX11_tray : MD := (yX11_tray, cX11_tray, 3, (some .int), (4, 93), [(0, .aload_n 0, 1, 1, 0), (1, .invokevirtual 153, 3, 4, 0), (4, .aload_n 0, 1, 5, 0), (5, .iconst 0, 1, 6, 0), (6, .putfield 98, 3, 9, 0), (9, .aload_n 0, 1, 10, 0), (10, .aload_n 0, 1, 11, 0), (11, .getfield 108, 3, 14, 0), (14, .putfield 23, 3, 17, 0), (17, .aload_n 0, 1, 18, 0), (18, .getfield 105, 3, 21, 0), (21, .ifCond .le 11, 3, 24, 32), (24, .bipush (-10), 2, 26, 0), (26, .aload_n 0, 1, 27, 0), (27, .getfield 105, 3, 30, 0), (30, .isub, 1, 31, 0), (31, .ireturn, 1, 32, 0), (32, .iconst 0, 1, 33, 0), (33, .istore_n 1, 1, 34, 0), (34, .iload_n 1, 1, 35, 0), (35, .bipush 92, 2, 37, 0), (37, .if_icmp .ge 16, 3, 40, 53), (40, .aload_n 0, 1, 41, 0), (41, .getfield 7, 3, 44, 0), (44, .iload_n 1, 1, 45, 0), (45, .iconst 0, 1, 46, 0), (46, .iastore, 1, 47, 0), (47, .iinc 1 1, 3, 50, 0), (50, .goto (-16), 3, 53, 34), (53, .aload_n 0, 1, 54, 0), (54, .getfield 7, 3, 57, 0), (57, .iconst 0, 1, 58, 0), (58, .aload_n 0, 1, 59, 0), (59, .getfield 123, 3, 62, 0), (62, .iastore, 1, 63, 0), (63, .aload_n 0, 1, 64, 0), (64, .getfield 7, 3, 67, 0), (67, .iconst 1, 1, 68, 0), (68, .aload_n 0, 1, 69, 0), (69, .getfield 140, 3, 72, 0), (72, .iastore, 1, 73, 0), (73, .iconst 0, 1, 74, 0), (74, .istore_n 1, 1, 75, 0), (75, .iload_n 1, 1, 76, 0), (76, .aload_n 0, 1, 77, 0), (77, .getfield 140, 3, 80, 0), (80, .if_icmp .ge 62, 3, 83, 142), (83, .aload_n 0, 1, 84, 0), (84, .aload_n 0, 1, 85, 0), (85, .getfield 27, 3, 88, 0), (88, .iload_n 1, 1, 89, 0), (89, .iaload, 1, 90, 0), (90, .putfield 156, 3, 93, 0), (93, .iconst 0, 1, 94, 0), (94, .istore_n 2, 1, 95, 0), (95, .iload_n 2, 1, 96, 0), (96, .aload_n 0, 1, 97, 0), (97, .getfield 156, 3, 100, 0), (100, .if_icmp .ge 26, 3, 103, 126), (103, .aload_n 0, 1, 104, 0), (104, .getfield 42, 3, 107, 0), (107, .iload_n 2, 1, 108, 0), (108, .aload_n 0, 1, 109, 0), (109, .getfield 30, 3, 112, 0), (112, .bipush 16, 2, 114, 0), (114, .iload_n 1, 1, 115, 0), (115, .imul, 1, 116, 0), (116, .iload_n 2, 1, 117, 0), (117, .iadd, 1, 118, 0), (118, .iaload, 1, 119, 0), (119, .iastore, 1, 120, 0), (120, .iinc 2 1, 3, 123, 0), (123, .goto (-28), 3, 126, 95), (126, .aload_n 0, 1, 127, 0), (127, .iconst 0, 1, 128, 0), (128, .putfield 159, 3, 131, 0), (131, .aload_n 0, 1, 132, 0), (132, .iload_n 1, 1, 133, 0), (133, .invokevirtual 162, 3, 136, 0), (136, .iinc 1 1, 3, 139, 0), (139, .goto (-64), 3, 142, 75), (142, .aload_n 0, 1, 143, 0), (143, .iconst 0, 1, 144, 0), (144, .putfield 166, 3, 147, 0), (147, .aload_n 0, 1, 148, 0), (148, .iconst 0, 1, 149, 0), (149, .putfield 169, 3, 152, 0), (152, .aload_n 0, 1, 153, 0), (153, .getfield 16, 3, 156, 0), (156, .iconst 0, 1, 157, 0), (157, .iconst 0, 1, 158, 0), (158, .iastore, 1, 159, 0), (159, .aload_n 0, 1, 160, 0), (160, .getfield 16, 3, 163, 0), (163, .iconst 1, 1, 164, 0), (164, .iconst 0, 1, 165, 0), (165, .iastore, 1, 166, 0), (166, .aload_n 0, 1, 167, 0), (167, .getfield 140, 3, 170, 0), (170, .ireturn, 1, 171, 0)])
theorem kX11_tray : okc cX11_tray (tb mX11_tray) = true := by decide +kernel
def mX11_fault : MD := (yX11_fault, cX11_fault, 1, (some .int), (0, 0), [(0, .aload_n 0, 1, 1, 0), (1, .getfield 23, 3, 4, 0), (4, .ireturn, 1, 5, 0)])
theorem kX11_fault : okc cX11_fault (tb mX11_fault) = true := by decide +kernel
def mX11_loads : MD := (yX11_loads, cX11_loads, 3, none, (2, 42), [(0, .aload_n 0, 1, 1, 0), (1, .aload_n 0, 1, 2, 0), (2, .iload_n 1, 1, 3, 0), (3, .invokevirtual 89, 3, 6, 0), (6, .putfield 156, 3, 9, 0), (9, .aload_n 0, 1, 10, 0), (10, .aload_n 0, 1, 11, 0), (11, .getfield 7, 3, 14, 0), (14, .aload_n 0, 1, 15, 0), (15, .iload_n 1, 1, 16, 0), (16, .invokevirtual 85, 3, 19, 0), (19, .iconst 1, 1, 20, 0), (20, .iadd, 1, 21, 0), (21, .iaload, 1, 22, 0), (22, .putfield 159, 3, 25, 0), (25, .iconst 0, 1, 26, 0), (26, .istore_n 2, 1, 27, 0), (27, .iload_n 2, 1, 28, 0), (28, .aload_n 0, 1, 29, 0), (29, .getfield 156, 3, 32, 0), (32, .if_icmp .ge 29, 3, 35, 61), (35, .aload_n 0, 1, 36, 0), (36, .getfield 42, 3, 39, 0), (39, .iload_n 2, 1, 40, 0), (40, .aload_n 0, 1, 41, 0), (41, .getfield 7, 3, 44, 0), (44, .aload_n 0, 1, 45, 0), (45, .iload_n 1, 1, 46, 0), (46, .invokevirtual 85, 3, 49, 0), (49, .iconst 2, 1, 50, 0), (50, .iadd, 1, 51, 0), (51, .iload_n 2, 1, 52, 0), (52, .iadd, 1, 53, 0), (53, .iaload, 1, 54, 0), (54, .iastore, 1, 55, 0), (55, .iinc 2 1, 3, 58, 0), (58, .goto (-31), 3, 61, 27), (61, .return_, 1, 62, 0)])
theorem kX11_loads : okc cX11_loads (tb mX11_loads) = true := by decide +kernel
def mX11_turns : MD := (yX11_turns, cX11_turns, 3, none, (1, 21), [(0, .iconst 0, 1, 1, 0), (1, .istore_n 2, 1, 2, 0), (2, .iload_n 2, 1, 3, 0), (3, .aload_n 0, 1, 4, 0), (4, .getfield 156, 3, 7, 0), (7, .if_icmp .ge 38, 3, 10, 45), (10, .aload_n 0, 1, 11, 0), (11, .getfield 42, 3, 14, 0), (14, .iload_n 2, 1, 15, 0), (15, .dup2, 1, 16, 0), (16, .iaload, 1, 17, 0), (17, .iload_n 1, 1, 18, 0), (18, .aload_n 0, 1, 19, 0), (19, .getfield 42, 3, 22, 0), (22, .iload_n 2, 1, 23, 0), (23, .iaload, 1, 24, 0), (24, .iconst 2, 1, 25, 0), (25, .idiv, 1, 26, 0), (26, .invokestatic 172, 3, 29, 0), (29, .ifCond .eq 7, 3, 32, 36), (32, .iconst 1, 1, 33, 0), (33, .goto 4, 3, 36, 37), (36, .iconst 0, 1, 37, 0), (37, .ixor, 1, 38, 0), (38, .iastore, 1, 39, 0), (39, .iinc 2 1, 3, 42, 0), (42, .goto (-40), 3, 45, 2), (45, .return_, 1, 46, 0)])
theorem kX11_turns : okc cX11_turns (tb mX11_turns) = true := by decide +kernel
def mX11_reverses : MD := (yX11_reverses, cX11_reverses, 3, none, (0, 0), [(0, .iconst 0, 1, 1, 0), (1, .istore_n 1, 1, 2, 0), (2, .iload_n 1, 1, 3, 0), (3, .aload_n 0, 1, 4, 0), (4, .getfield 156, 3, 7, 0), (7, .iconst 2, 1, 8, 0), (8, .idiv, 1, 9, 0), (9, .if_icmp .ge 49, 3, 12, 58), (12, .aload_n 0, 1, 13, 0), (13, .getfield 42, 3, 16, 0), (16, .iload_n 1, 1, 17, 0), (17, .iaload, 1, 18, 0), (18, .istore_n 2, 1, 19, 0), (19, .aload_n 0, 1, 20, 0), (20, .getfield 42, 3, 23, 0), (23, .iload_n 1, 1, 24, 0), (24, .aload_n 0, 1, 25, 0), (25, .getfield 42, 3, 28, 0), (28, .aload_n 0, 1, 29, 0), (29, .getfield 156, 3, 32, 0), (32, .iconst 1, 1, 33, 0), (33, .isub, 1, 34, 0), (34, .iload_n 1, 1, 35, 0), (35, .isub, 1, 36, 0), (36, .iaload, 1, 37, 0), (37, .iastore, 1, 38, 0), (38, .aload_n 0, 1, 39, 0), (39, .getfield 42, 3, 42, 0), (42, .aload_n 0, 1, 43, 0), (43, .getfield 156, 3, 46, 0), (46, .iconst 1, 1, 47, 0), (47, .isub, 1, 48, 0), (48, .iload_n 1, 1, 49, 0), (49, .isub, 1, 50, 0), (50, .iload_n 2, 1, 51, 0), (51, .iastore, 1, 52, 0), (52, .iinc 1 1, 3, 55, 0), (55, .goto (-53), 3, 58, 2), (58, .return_, 1, 59, 0)])
theorem kX11_reverses : okc cX11_reverses (tb mX11_reverses) = true := by decide +kernel
def mX11_drops : MD := (yX11_drops, cX11_drops, 4, none, (1, 21), [(0, .iconst 0, 1, 1, 0), (1, .istore_n 2, 1, 2, 0), (2, .iconst 0, 1, 3, 0), (3, .istore_n 3, 1, 4, 0), (4, .iload_n 3, 1, 5, 0), (5, .aload_n 0, 1, 6, 0), (6, .getfield 156, 3, 9, 0), (9, .if_icmp .ge 39, 3, 12, 48), (12, .iload_n 1, 1, 13, 0), (13, .aload_n 0, 1, 14, 0), (14, .getfield 42, 3, 17, 0), (17, .iload_n 3, 1, 18, 0), (18, .iaload, 1, 19, 0), (19, .iconst 2, 1, 20, 0), (20, .idiv, 1, 21, 0), (21, .invokestatic 172, 3, 24, 0), (24, .ifCond .ne 18, 3, 27, 42), (27, .aload_n 0, 1, 28, 0), (28, .getfield 42, 3, 31, 0), (31, .iload_n 2, 1, 32, 0), (32, .aload_n 0, 1, 33, 0), (33, .getfield 42, 3, 36, 0), (36, .iload_n 3, 1, 37, 0), (37, .iaload, 1, 38, 0), (38, .iastore, 1, 39, 0), (39, .iinc 2 1, 3, 42, 0), (42, .iinc 3 1, 3, 45, 0), (45, .goto (-41), 3, 48, 4), (48, .aload_n 0, 1, 49, 0), (49, .iload_n 2, 1, 50, 0), (50, .putfield 156, 3, 53, 0), (53, .return_, 1, 54, 0)])
theorem kX11_drops : okc cX11_drops (tb mX11_drops) = true := by decide +kernel
def mX11_leaves : MD := (yX11_leaves, cX11_leaves, 3, none, (1, 21), [(0, .aload_n 0, 1, 1, 0), (1, .iconst 0, 1, 2, 0), (2, .putfield 179, 3, 5, 0), (5, .iconst 0, 1, 6, 0), (6, .istore_n 2, 1, 7, 0), (7, .iload_n 2, 1, 8, 0), (8, .aload_n 0, 1, 9, 0), (9, .getfield 156, 3, 12, 0), (12, .if_icmp .ge 98, 3, 15, 110), (15, .iload_n 1, 1, 16, 0), (16, .aload_n 0, 1, 17, 0), (17, .getfield 42, 3, 20, 0), (20, .iload_n 2, 1, 21, 0), (21, .iaload, 1, 22, 0), (22, .iconst 2, 1, 23, 0), (23, .idiv, 1, 24, 0), (24, .invokestatic 172, 3, 27, 0), (27, .ifCond .eq 77, 3, 30, 104), (30, .aload_n 0, 1, 31, 0), (31, .getfield 42, 3, 34, 0), (34, .iload_n 2, 1, 35, 0), (35, .iaload, 1, 36, 0), (36, .iconst 2, 1, 37, 0), (37, .irem, 1, 38, 0), (38, .iconst 1, 1, 39, 0), (39, .if_icmp .ne 23, 3, 42, 62), (42, .aload_n 0, 1, 43, 0), (43, .getfield 60, 3, 46, 0), (46, .aload_n 0, 1, 47, 0), (47, .getfield 42, 3, 50, 0), (50, .iload_n 2, 1, 51, 0), (51, .iaload, 1, 52, 0), (52, .iconst 2, 1, 53, 0), (53, .idiv, 1, 54, 0), (54, .aload_n 0, 1, 55, 0), (55, .getfield 179, 3, 58, 0), (58, .iastore, 1, 59, 0), (59, .goto 20, 3, 62, 79), (62, .aload_n 0, 1, 63, 0), (63, .getfield 63, 3, 66, 0), (66, .aload_n 0, 1, 67, 0), (67, .getfield 42, 3, 70, 0), (70, .iload_n 2, 1, 71, 0), (71, .iaload, 1, 72, 0), (72, .iconst 2, 1, 73, 0), (73, .idiv, 1, 74, 0), (74, .aload_n 0, 1, 75, 0), (75, .getfield 179, 3, 78, 0), (78, .iastore, 1, 79, 0), (79, .aload_n 0, 1, 80, 0), (80, .getfield 51, 3, 83, 0), (83, .aload_n 0, 1, 84, 0), (84, .getfield 179, 3, 87, 0), (87, .aload_n 0, 1, 88, 0), (88, .getfield 42, 3, 91, 0), (91, .iload_n 2, 1, 92, 0), (92, .iaload, 1, 93, 0), (93, .iastore, 1, 94, 0), (94, .aload_n 0, 1, 95, 0), (95, .dup, 1, 96, 0), (96, .getfield 179, 3, 99, 0), (99, .iconst 1, 1, 100, 0), (100, .iadd, 1, 101, 0), (101, .putfield 179, 3, 104, 0), (104, .iinc 2 1, 3, 107, 0), (107, .goto (-100), 3, 110, 7), (110, .return_, 1, 111, 0)])
theorem kX11_leaves : okc cX11_leaves (tb mX11_leaves) = true := by decide +kernel
def mX11_isBeside : MD := (yX11_isBeside, cX11_isBeside, 4, (some .boolean), (0, 0), [(0, .iload_n 1, 1, 1, 0), (1, .iload_n 2, 1, 2, 0), (2, .if_icmp .ge 9, 3, 5, 11), (5, .iload_n 2, 1, 6, 0), (6, .iload_n 1, 1, 7, 0), (7, .isub, 1, 8, 0), (8, .goto 6, 3, 11, 14), (11, .iload_n 1, 1, 12, 0), (12, .iload_n 2, 1, 13, 0), (13, .isub, 1, 14, 0), (14, .istore_n 3, 1, 15, 0), (15, .iload_n 3, 1, 16, 0), (16, .iconst 1, 1, 17, 0), (17, .if_icmp .eq 13, 3, 20, 30), (20, .iload_n 3, 1, 21, 0), (21, .aload_n 0, 1, 22, 0), (22, .getfield 179, 3, 25, 0), (25, .iconst 1, 1, 26, 0), (26, .isub, 1, 27, 0), (27, .if_icmp .ne 7, 3, 30, 34), (30, .iconst 1, 1, 31, 0), (31, .goto 4, 3, 34, 35), (34, .iconst 0, 1, 35, 0), (35, .ireturn, 1, 36, 0)])
theorem kX11_isBeside : okc cX11_isBeside (tb mX11_isBeside) = true := by decide +kernel
def mX11_isMove : MD := (yX11_isMove, cX11_isMove, 6, (some .boolean), (1, 23), [(0, .iload_n 1, 1, 1, 0), (1, .iload_n 3, 1, 2, 0), (2, .invokestatic 172, 3, 5, 0), (5, .ifCond .eq 33, 3, 8, 38), (8, .iload_n 1, 1, 9, 0), (9, .iload 4, 2, 11, 0), (11, .invokestatic 172, 3, 14, 0), (14, .ifCond .eq 24, 3, 17, 38), (17, .iload_n 2, 1, 18, 0), (18, .iload_n 3, 1, 19, 0), (19, .invokestatic 172, 3, 22, 0), (22, .ifCond .ne 16, 3, 25, 38), (25, .iload_n 2, 1, 26, 0), (26, .iload 4, 2, 28, 0), (28, .invokestatic 172, 3, 31, 0), (31, .ifCond .ne 7, 3, 34, 38), (34, .iconst 1, 1, 35, 0), (35, .goto 4, 3, 38, 39), (38, .iconst 0, 1, 39, 0), (39, .istore 5, 2, 41, 0), (41, .iload 5, 2, 43, 0), (43, .ifCond .eq 75, 3, 46, 118), (46, .iload_n 3, 1, 47, 0), (47, .iload 4, 2, 49, 0), (49, .if_icmp .ne 25, 3, 52, 74), (52, .aload_n 0, 1, 53, 0), (53, .aload_n 0, 1, 54, 0), (54, .getfield 60, 3, 57, 0), (57, .iload_n 3, 1, 58, 0), (58, .iaload, 1, 59, 0), (59, .aload_n 0, 1, 60, 0), (60, .getfield 63, 3, 63, 0), (63, .iload_n 3, 1, 64, 0), (64, .iaload, 1, 65, 0), (65, .invokevirtual 182, 3, 68, 0), (68, .ifCond .eq 50, 3, 71, 118), (71, .goto 43, 3, 74, 114), (74, .aload_n 0, 1, 75, 0), (75, .aload_n 0, 1, 76, 0), (76, .getfield 60, 3, 79, 0), (79, .iload_n 3, 1, 80, 0), (80, .iaload, 1, 81, 0), (81, .aload_n 0, 1, 82, 0), (82, .getfield 60, 3, 85, 0), (85, .iload 4, 2, 87, 0), (87, .iaload, 1, 88, 0), (88, .invokevirtual 182, 3, 91, 0), (91, .ifCond .eq 27, 3, 94, 118), (94, .aload_n 0, 1, 95, 0), (95, .aload_n 0, 1, 96, 0), (96, .getfield 63, 3, 99, 0), (99, .iload_n 3, 1, 100, 0), (100, .iaload, 1, 101, 0), (101, .aload_n 0, 1, 102, 0), (102, .getfield 63, 3, 105, 0), (105, .iload 4, 2, 107, 0), (107, .iaload, 1, 108, 0), (108, .invokevirtual 182, 3, 111, 0), (111, .ifCond .eq 7, 3, 114, 118), (114, .iconst 1, 1, 115, 0), (115, .goto 4, 3, 118, 119), (118, .iconst 0, 1, 119, 0), (119, .ireturn, 1, 120, 0)])
theorem kX11_isMove : okc cX11_isMove (tb mX11_isMove) = true := by decide +kernel
def mX11_without : MD := (yX11_without, cX11_without, 3, (some .int), (0, 0), [(0, .iload_n 0, 1, 1, 0), (1, .iconst 1, 1, 2, 0), (2, .iload_n 1, 1, 3, 0), (3, .ishl, 1, 4, 0), (4, .iconst (-1), 1, 5, 0), (5, .ixor, 1, 6, 0), (6, .iand, 1, 7, 0), (7, .iconst 1, 1, 8, 0), (8, .iload_n 2, 1, 9, 0), (9, .ishl, 1, 10, 0), (10, .iconst (-1), 1, 11, 0), (11, .ixor, 1, 12, 0), (12, .iand, 1, 13, 0), (13, .ireturn, 1, 14, 0)])
theorem kX11_without : okc cX11_without (tb mX11_without) = true := by decide +kernel
def mX11_comesTo : MD := (yX11_comesTo, cX11_comesTo, 4, none, (0, 0), [(0, .aload_n 0, 1, 1, 0), (1, .getfield 54, 3, 4, 0), (4, .iload_n 1, 1, 5, 0), (5, .iaload, 1, 6, 0), (6, .ifCond .lt 33, 3, 9, 39), (9, .iload_n 2, 1, 10, 0), (10, .aload_n 0, 1, 11, 0), (11, .getfield 54, 3, 14, 0), (14, .iload_n 1, 1, 15, 0), (15, .iaload, 1, 16, 0), (16, .if_icmp .lt 23, 3, 19, 39), (19, .iload_n 2, 1, 20, 0), (20, .aload_n 0, 1, 21, 0), (21, .getfield 54, 3, 24, 0), (24, .iload_n 1, 1, 25, 0), (25, .iaload, 1, 26, 0), (26, .if_icmp .ne 27, 3, 29, 53), (29, .iload_n 3, 1, 30, 0), (30, .aload_n 0, 1, 31, 0), (31, .getfield 57, 3, 34, 0), (34, .iload_n 1, 1, 35, 0), (35, .iaload, 1, 36, 0), (36, .if_icmp .ge 17, 3, 39, 53), (39, .aload_n 0, 1, 40, 0), (40, .getfield 57, 3, 43, 0), (43, .iload_n 1, 1, 44, 0), (44, .iload_n 3, 1, 45, 0), (45, .iastore, 1, 46, 0), (46, .aload_n 0, 1, 47, 0), (47, .getfield 54, 3, 50, 0), (50, .iload_n 1, 1, 51, 0), (51, .iload_n 2, 1, 52, 0), (52, .iastore, 1, 53, 0), (53, .return_, 1, 54, 0)])
theorem kX11_comesTo : okc cX11_comesTo (tb mX11_comesTo) = true := by decide +kernel
def mX11_shakes : MD := (yX11_shakes, cX11_shakes, 5, none, (2, 48), [(0, .iconst 1, 1, 1, 0), (1, .aload_n 0, 1, 2, 0), (2, .getfield 156, 3, 5, 0), (5, .iconst 2, 1, 6, 0), (6, .idiv, 1, 7, 0), (7, .ishl, 1, 8, 0), (8, .iconst 1, 1, 9, 0), (9, .isub, 1, 10, 0), (10, .istore_n 2, 1, 11, 0), (11, .iconst 0, 1, 12, 0), (12, .istore_n 3, 1, 13, 0), (13, .iload_n 3, 1, 14, 0), (14, .iload_n 2, 1, 15, 0), (15, .if_icmp .gt 16, 3, 18, 31), (18, .aload_n 0, 1, 19, 0), (19, .getfield 54, 3, 22, 0), (22, .iload_n 3, 1, 23, 0), (23, .iconst (-1), 1, 24, 0), (24, .iastore, 1, 25, 0), (25, .iinc 3 1, 3, 28, 0), (28, .goto (-15), 3, 31, 13), (31, .aload_n 0, 1, 32, 0), (32, .getfield 54, 3, 35, 0), (35, .iload_n 2, 1, 36, 0), (36, .iconst 0, 1, 37, 0), (37, .iastore, 1, 38, 0), (38, .aload_n 0, 1, 39, 0), (39, .getfield 57, 3, 42, 0), (42, .iload_n 2, 1, 43, 0), (43, .iconst (-1), 1, 44, 0), (44, .iastore, 1, 45, 0), (45, .iload_n 2, 1, 46, 0), (46, .istore_n 3, 1, 47, 0), (47, .iload_n 3, 1, 48, 0), (48, .ifCond .le 125, 3, 51, 173), (51, .aload_n 0, 1, 52, 0), (52, .getfield 54, 3, 55, 0), (55, .iload_n 3, 1, 56, 0), (56, .iaload, 1, 57, 0), (57, .ifCond .lt 110, 3, 60, 167), (60, .aload_n 0, 1, 61, 0), (61, .iload_n 3, 1, 62, 0), (62, .invokevirtual 185, 3, 65, 0), (65, .iconst 0, 1, 66, 0), (66, .istore 4, 2, 68, 0), (68, .iload 4, 2, 70, 0), (70, .bipush 64, 2, 72, 0), (72, .if_icmp .ge 95, 3, 75, 167), (75, .iload 4, 2, 77, 0), (77, .bipush 8, 2, 79, 0), (79, .idiv, 1, 80, 0), (80, .iload 4, 2, 82, 0), (82, .bipush 8, 2, 84, 0), (84, .irem, 1, 85, 0), (85, .if_icmp .gt 76, 3, 88, 161), (88, .aload_n 0, 1, 89, 0), (89, .iload_n 3, 1, 90, 0), (90, .iload_n 1, 1, 91, 0), (91, .iload 4, 2, 93, 0), (93, .bipush 8, 2, 95, 0), (95, .idiv, 1, 96, 0), (96, .iload 4, 2, 98, 0), (98, .bipush 8, 2, 100, 0), (100, .irem, 1, 101, 0), (101, .invokevirtual 188, 3, 104, 0), (104, .ifCond .eq 57, 3, 107, 161), (107, .aload_n 0, 1, 108, 0), (108, .iload_n 3, 1, 109, 0), (109, .iload 4, 2, 111, 0), (111, .bipush 8, 2, 113, 0), (113, .idiv, 1, 114, 0), (114, .iload 4, 2, 116, 0), (116, .bipush 8, 2, 118, 0), (118, .irem, 1, 119, 0), (119, .invokestatic 192, 3, 122, 0), (122, .aload_n 0, 1, 123, 0), (123, .getfield 54, 3, 126, 0), (126, .iload_n 3, 1, 127, 0), (127, .iaload, 1, 128, 0), (128, .iconst 1, 1, 129, 0), (129, .iadd, 1, 130, 0), (130, .iload_n 3, 1, 131, 0), (131, .iload_n 2, 1, 132, 0), (132, .if_icmp .ne 20, 3, 135, 152), (135, .bipush 10, 2, 137, 0), (137, .iload 4, 2, 139, 0), (139, .bipush 8, 2, 141, 0), (141, .idiv, 1, 142, 0), (142, .imul, 1, 143, 0), (143, .iload 4, 2, 145, 0), (145, .bipush 8, 2, 147, 0), (147, .irem, 1, 148, 0), (148, .iadd, 1, 149, 0), (149, .goto 9, 3, 152, 158), (152, .aload_n 0, 1, 153, 0), (153, .getfield 57, 3, 156, 0), (156, .iload_n 3, 1, 157, 0), (157, .iaload, 1, 158, 0), (158, .invokevirtual 196, 3, 161, 0), (161, .iinc 4 1, 3, 164, 0), (164, .goto (-96), 3, 167, 68), (167, .iinc 3 (-1), 3, 170, 0), (170, .goto (-123), 3, 173, 47), (173, .return_, 1, 174, 0)])
theorem kX11_shakes : okc cX11_shakes (tb mX11_shakes) = true := by decide +kernel
def mX11_shaken : MD := (yX11_shaken, cX11_shaken, 8, (some .int), (3, 72), [(0, .aload_n 0, 1, 1, 0), (1, .iload_n 1, 1, 2, 0), (2, .invokevirtual 200, 3, 5, 0), (5, .iconst 1, 1, 6, 0), (6, .aload_n 0, 1, 7, 0), (7, .getfield 156, 3, 10, 0), (10, .iconst 2, 1, 11, 0), (11, .idiv, 1, 12, 0), (12, .ishl, 1, 13, 0), (13, .iconst 1, 1, 14, 0), (14, .isub, 1, 15, 0), (15, .istore_n 3, 1, 16, 0), (16, .iload_n 3, 1, 17, 0), (17, .istore 4, 2, 19, 0), (19, .iconst 0, 1, 20, 0), (20, .istore 5, 2, 22, 0), (22, .iload_n 3, 1, 23, 0), (23, .istore 6, 2, 25, 0), (25, .iload 6, 2, 27, 0), (27, .ifCond .lt 120, 3, 30, 147), (30, .aload_n 0, 1, 31, 0), (31, .getfield 54, 3, 34, 0), (34, .iload 6, 2, 36, 0), (36, .iaload, 1, 37, 0), (37, .ifCond .lt 104, 3, 40, 141), (40, .iinc 5 1, 3, 43, 0), (43, .iload 6, 2, 45, 0), (45, .invokestatic 203, 3, 48, 0), (48, .iload 4, 2, 50, 0), (50, .invokestatic 203, 3, 53, 0), (53, .if_icmp .lt 67, 3, 56, 120), (56, .iload 6, 2, 58, 0), (58, .invokestatic 203, 3, 61, 0), (61, .iload 4, 2, 63, 0), (63, .invokestatic 203, 3, 66, 0), (66, .if_icmp .ne 58, 3, 69, 124), (69, .aload_n 0, 1, 70, 0), (70, .getfield 54, 3, 73, 0), (73, .iload 6, 2, 75, 0), (75, .iaload, 1, 76, 0), (76, .aload_n 0, 1, 77, 0), (77, .getfield 54, 3, 80, 0), (80, .iload 4, 2, 82, 0), (82, .iaload, 1, 83, 0), (83, .if_icmp .lt 37, 3, 86, 120), (86, .aload_n 0, 1, 87, 0), (87, .getfield 54, 3, 90, 0), (90, .iload 6, 2, 92, 0), (92, .iaload, 1, 93, 0), (93, .aload_n 0, 1, 94, 0), (94, .getfield 54, 3, 97, 0), (97, .iload 4, 2, 99, 0), (99, .iaload, 1, 100, 0), (100, .if_icmp .ne 24, 3, 103, 124), (103, .aload_n 0, 1, 104, 0), (104, .getfield 57, 3, 107, 0), (107, .iload 6, 2, 109, 0), (109, .iaload, 1, 110, 0), (110, .aload_n 0, 1, 111, 0), (111, .getfield 57, 3, 114, 0), (114, .iload 4, 2, 116, 0), (116, .iaload, 1, 117, 0), (117, .if_icmp .ge 7, 3, 120, 124), (120, .iconst 1, 1, 121, 0), (121, .goto 4, 3, 124, 125), (124, .iconst 0, 1, 125, 0), (125, .istore 7, 2, 127, 0), (127, .iload 7, 2, 129, 0), (129, .ifCond .eq 8, 3, 132, 137), (132, .iload 6, 2, 134, 0), (134, .goto 5, 3, 137, 139), (137, .iload 4, 2, 139, 0), (139, .istore 4, 2, 141, 0), (141, .iinc 6 (-1), 3, 144, 0), (144, .goto (-119), 3, 147, 25), (147, .iload_n 2, 1, 148, 0), (148, .ifCond .ne 11, 3, 151, 159), (151, .iload 4, 2, 153, 0), (153, .invokestatic 203, 3, 156, 0), (156, .goto 35, 3, 159, 191), (159, .iload_n 2, 1, 160, 0), (160, .iconst 1, 1, 161, 0), (161, .if_icmp .ne 13, 3, 164, 174), (164, .aload_n 0, 1, 165, 0), (165, .getfield 54, 3, 168, 0), (168, .iload 4, 2, 170, 0), (170, .iaload, 1, 171, 0), (171, .goto 20, 3, 174, 191), (174, .iload_n 2, 1, 175, 0), (175, .iconst 2, 1, 176, 0), (176, .if_icmp .ne 8, 3, 179, 184), (179, .iload 5, 2, 181, 0), (181, .goto 10, 3, 184, 191), (184, .aload_n 0, 1, 185, 0), (185, .getfield 57, 3, 188, 0), (188, .iload 4, 2, 190, 0), (190, .iaload, 1, 191, 0), (191, .ireturn, 1, 192, 0)])
theorem kX11_shaken : okc cX11_shaken (tb mX11_shaken) = true := by decide +kernel
def mX11_moveOf : MD := (yX11_moveOf, cX11_moveOf, 5, (some .int), (2, 48), [(0, .aload_n 0, 1, 1, 0), (1, .sipush 255, 3, 4, 0), (4, .invokevirtual 185, 3, 7, 0), (7, .iconst 1, 1, 8, 0), (8, .aload_n 0, 1, 9, 0), (9, .getfield 156, 3, 12, 0), (12, .iconst 2, 1, 13, 0), (13, .idiv, 1, 14, 0), (14, .ishl, 1, 15, 0), (15, .iconst 1, 1, 16, 0), (16, .isub, 1, 17, 0), (17, .istore_n 2, 1, 18, 0), (18, .iconst 0, 1, 19, 0), (19, .istore_n 3, 1, 20, 0), (20, .iconst 0, 1, 21, 0), (21, .istore 4, 2, 23, 0), (23, .iload 4, 2, 25, 0), (25, .bipush 64, 2, 27, 0), (27, .if_icmp .ge 67, 3, 30, 94), (30, .iload 4, 2, 32, 0), (32, .bipush 8, 2, 34, 0), (34, .idiv, 1, 35, 0), (35, .iload 4, 2, 37, 0), (37, .bipush 8, 2, 39, 0), (39, .irem, 1, 40, 0), (40, .if_icmp .gt 48, 3, 43, 88), (43, .aload_n 0, 1, 44, 0), (44, .iload_n 2, 1, 45, 0), (45, .aload_n 0, 1, 46, 0), (46, .getfield 159, 3, 49, 0), (49, .iload 4, 2, 51, 0), (51, .bipush 8, 2, 53, 0), (53, .idiv, 1, 54, 0), (54, .iload 4, 2, 56, 0), (56, .bipush 8, 2, 58, 0), (58, .irem, 1, 59, 0), (59, .invokevirtual 188, 3, 62, 0), (62, .ifCond .eq 26, 3, 65, 88), (65, .iload_n 3, 1, 66, 0), (66, .iload_n 1, 1, 67, 0), (67, .if_icmp .ne 18, 3, 70, 85), (70, .bipush 10, 2, 72, 0), (72, .iload 4, 2, 74, 0), (74, .bipush 8, 2, 76, 0), (76, .idiv, 1, 77, 0), (77, .imul, 1, 78, 0), (78, .iload 4, 2, 80, 0), (80, .bipush 8, 2, 82, 0), (82, .irem, 1, 83, 0), (83, .iadd, 1, 84, 0), (84, .ireturn, 1, 85, 0), (85, .iinc 3 1, 3, 88, 0), (88, .iinc 4 1, 3, 91, 0), (91, .goto (-68), 3, 94, 23), (94, .iload_n 1, 1, 95, 0), (95, .iconst (-1), 1, 96, 0), (96, .if_icmp .ne 7, 3, 99, 103), (99, .iload_n 3, 1, 100, 0), (100, .goto 4, 3, 103, 104), (103, .iconst (-1), 1, 104, 0), (104, .ireturn, 1, 105, 0)])
theorem kX11_moveOf : okc cX11_moveOf (tb mX11_moveOf) = true := by decide +kernel
def mX11_moves : MD := (yX11_moves, cX11_moves, 3, (some .int), (3, 72), [(0, .aload_n 0, 1, 1, 0), (1, .iload_n 1, 1, 2, 0), (2, .invokevirtual 206, 3, 5, 0), (5, .ifCond .ne 6, 3, 8, 11), (8, .ldc 210, 2, 10, 0), (10, .ireturn, 1, 11, 0), (11, .aload_n 0, 1, 12, 0), (12, .iload_n 1, 1, 13, 0), (13, .invokevirtual 211, 3, 16, 0), (16, .aload_n 0, 1, 17, 0), (17, .iload_n 2, 1, 18, 0), (18, .invokevirtual 214, 3, 21, 0), (21, .ireturn, 1, 22, 0)])
theorem kX11_moves : okc cX11_moves (tb mX11_moves) = true := by decide +kernel
def mX11_toShake : MD := (yX11_toShake, cX11_toShake, 3, (some .int), (4, 99), [(0, .aload_n 0, 1, 1, 0), (1, .iload_n 1, 1, 2, 0), (2, .invokevirtual 206, 3, 5, 0), (5, .ifCond .ne 6, 3, 8, 11), (8, .ldc 210, 2, 10, 0), (10, .ireturn, 1, 11, 0), (11, .iload_n 2, 1, 12, 0), (12, .i2l, 1, 13, 0), (13, .lconst 0, 1, 14, 0), (14, .ldc2_w 217, 3, 17, 0), (17, .invokestatic 81, 3, 20, 0), (20, .ifCond .ne 6, 3, 23, 26), (23, .ldc 97, 2, 25, 0), (25, .ireturn, 1, 26, 0), (26, .aload_n 0, 1, 27, 0), (27, .iload_n 1, 1, 28, 0), (28, .invokevirtual 211, 3, 31, 0), (31, .aload_n 0, 1, 32, 0), (32, .aload_n 0, 1, 33, 0), (33, .getfield 159, 3, 36, 0), (36, .iload_n 2, 1, 37, 0), (37, .invokevirtual 219, 3, 40, 0), (40, .ireturn, 1, 41, 0)])
theorem kX11_toShake : okc cX11_toShake (tb mX11_toShake) = true := by decide +kernel
def mX11_parts : MD := (yX11_parts, cX11_parts, 4, none, (0, 0), [(0, .aload_n 0, 1, 1, 0), (1, .getfield 156, 3, 4, 0), (4, .iconst 2, 1, 5, 0), (5, .idiv, 1, 6, 0), (6, .istore_n 1, 1, 7, 0), (7, .iconst 0, 1, 8, 0), (8, .istore_n 2, 1, 9, 0), (9, .iconst 0, 1, 10, 0), (10, .istore_n 3, 1, 11, 0), (11, .iload_n 3, 1, 12, 0), (12, .aload_n 0, 1, 13, 0), (13, .getfield 156, 3, 16, 0), (16, .if_icmp .ge 60, 3, 19, 76), (19, .aload_n 0, 1, 20, 0), (20, .getfield 42, 3, 23, 0), (23, .iload_n 3, 1, 24, 0), (24, .iaload, 1, 25, 0), (25, .iconst 2, 1, 26, 0), (26, .irem, 1, 27, 0), (27, .ifCond .ne 23, 3, 30, 50), (30, .aload_n 0, 1, 31, 0), (31, .getfield 72, 3, 34, 0), (34, .iload_n 2, 1, 35, 0), (35, .aload_n 0, 1, 36, 0), (36, .getfield 42, 3, 39, 0), (39, .iload_n 3, 1, 40, 0), (40, .iaload, 1, 41, 0), (41, .iconst 2, 1, 42, 0), (42, .idiv, 1, 43, 0), (43, .iastore, 1, 44, 0), (44, .iinc 2 1, 3, 47, 0), (47, .goto 23, 3, 50, 70), (50, .aload_n 0, 1, 51, 0), (51, .getfield 69, 3, 54, 0), (54, .aload_n 0, 1, 55, 0), (55, .getfield 42, 3, 58, 0), (58, .iload_n 3, 1, 59, 0), (59, .iaload, 1, 60, 0), (60, .iconst 2, 1, 61, 0), (61, .idiv, 1, 62, 0), (62, .iload_n 2, 1, 63, 0), (63, .iload_n 1, 1, 64, 0), (64, .iadd, 1, 65, 0), (65, .iconst 1, 1, 66, 0), (66, .isub, 1, 67, 0), (67, .iload_n 1, 1, 68, 0), (68, .irem, 1, 69, 0), (69, .iastore, 1, 70, 0), (70, .iinc 3 1, 3, 73, 0), (73, .goto (-62), 3, 76, 11), (76, .return_, 1, 77, 0)])
theorem kX11_parts : okc cX11_parts (tb mX11_parts) = true := by decide +kernel
def mX11_left : MD := (yX11_left, cX11_left, 2, (some .int), (0, 0), [(0, .iload_n 0, 1, 1, 0), (1, .iload_n 1, 1, 2, 0), (2, .irem, 1, 3, 0), (3, .iload_n 1, 1, 4, 0), (4, .iadd, 1, 5, 0), (5, .iload_n 1, 1, 6, 0), (6, .irem, 1, 7, 0), (7, .ireturn, 1, 8, 0)])
theorem kX11_left : okc cX11_left (tb mX11_left) = true := by decide +kernel
def mX11_clears : MD := (yX11_clears, cX11_clears, 9, none, (1, 21), [(0, .aload_n 0, 1, 1, 0), (1, .getfield 66, 3, 4, 0), (4, .bipush 8, 2, 6, 0), (6, .iload_n 1, 1, 7, 0), (7, .imul, 1, 8, 0), (8, .iload_n 2, 1, 9, 0), (9, .iadd, 1, 10, 0), (10, .iaload, 1, 11, 0), (11, .iload 4, 2, 13, 0), (13, .invokestatic 226, 3, 16, 0), (16, .istore 5, 2, 18, 0), (18, .iload_n 1, 1, 19, 0), (19, .iconst 1, 1, 20, 0), (20, .iadd, 1, 21, 0), (21, .istore 6, 2, 23, 0), (23, .iload 6, 2, 25, 0), (25, .iload_n 3, 1, 26, 0), (26, .if_icmp .ge 103, 3, 29, 129), (29, .aload_n 0, 1, 30, 0), (30, .getfield 66, 3, 33, 0), (33, .bipush 8, 2, 35, 0), (35, .iload 6, 2, 37, 0), (37, .imul, 1, 38, 0), (38, .iload_n 2, 1, 39, 0), (39, .iadd, 1, 40, 0), (40, .iaload, 1, 41, 0), (41, .iload 4, 2, 43, 0), (43, .invokestatic 226, 3, 46, 0), (46, .istore 7, 2, 48, 0), (48, .iconst 0, 1, 49, 0), (49, .istore 8, 2, 51, 0), (51, .iload 8, 2, 53, 0), (53, .iload_n 3, 1, 54, 0), (54, .if_icmp .ge 69, 3, 57, 123), (57, .aload_n 0, 1, 58, 0), (58, .getfield 66, 3, 61, 0), (61, .bipush 8, 2, 63, 0), (63, .iload 6, 2, 65, 0), (65, .imul, 1, 66, 0), (66, .iload 8, 2, 68, 0), (68, .iadd, 1, 69, 0), (69, .iload 5, 2, 71, 0), (71, .aload_n 0, 1, 72, 0), (72, .getfield 66, 3, 75, 0), (75, .bipush 8, 2, 77, 0), (77, .iload 6, 2, 79, 0), (79, .imul, 1, 80, 0), (80, .iload 8, 2, 82, 0), (82, .iadd, 1, 83, 0), (83, .iaload, 1, 84, 0), (84, .iload 4, 2, 86, 0), (86, .invokestatic 226, 3, 89, 0), (89, .imul, 1, 90, 0), (90, .iload 7, 2, 92, 0), (92, .aload_n 0, 1, 93, 0), (93, .getfield 66, 3, 96, 0), (96, .bipush 8, 2, 98, 0), (98, .iload_n 1, 1, 99, 0), (99, .imul, 1, 100, 0), (100, .iload 8, 2, 102, 0), (102, .iadd, 1, 103, 0), (103, .iaload, 1, 104, 0), (104, .iload 4, 2, 106, 0), (106, .invokestatic 226, 3, 109, 0), (109, .imul, 1, 110, 0), (110, .isub, 1, 111, 0), (111, .iload 4, 2, 113, 0), (113, .invokestatic 226, 3, 116, 0), (116, .iastore, 1, 117, 0), (117, .iinc 8 1, 3, 120, 0), (120, .goto (-69), 3, 123, 51), (123, .iinc 6 1, 3, 126, 0), (126, .goto (-103), 3, 129, 23), (129, .return_, 1, 130, 0)])
theorem kX11_clears : okc cX11_clears (tb mX11_clears) = true := by decide +kernel
def mX11_swaps : MD := (yX11_swaps, cX11_swaps, 5, none, (0, 0), [(0, .iconst 0, 1, 1, 0), (1, .istore_n 3, 1, 2, 0), (2, .iload_n 3, 1, 3, 0), (3, .bipush 8, 2, 5, 0), (5, .if_icmp .ge 57, 3, 8, 62), (8, .aload_n 0, 1, 9, 0), (9, .getfield 66, 3, 12, 0), (12, .bipush 8, 2, 14, 0), (14, .iload_n 1, 1, 15, 0), (15, .imul, 1, 16, 0), (16, .iload_n 3, 1, 17, 0), (17, .iadd, 1, 18, 0), (18, .iaload, 1, 19, 0), (19, .istore 4, 2, 21, 0), (21, .aload_n 0, 1, 22, 0), (22, .getfield 66, 3, 25, 0), (25, .bipush 8, 2, 27, 0), (27, .iload_n 1, 1, 28, 0), (28, .imul, 1, 29, 0), (29, .iload_n 3, 1, 30, 0), (30, .iadd, 1, 31, 0), (31, .aload_n 0, 1, 32, 0), (32, .getfield 66, 3, 35, 0), (35, .bipush 8, 2, 37, 0), (37, .iload_n 2, 1, 38, 0), (38, .imul, 1, 39, 0), (39, .iload_n 3, 1, 40, 0), (40, .iadd, 1, 41, 0), (41, .iaload, 1, 42, 0), (42, .iastore, 1, 43, 0), (43, .aload_n 0, 1, 44, 0), (44, .getfield 66, 3, 47, 0), (47, .bipush 8, 2, 49, 0), (49, .iload_n 2, 1, 50, 0), (50, .imul, 1, 51, 0), (51, .iload_n 3, 1, 52, 0), (52, .iadd, 1, 53, 0), (53, .iload 4, 2, 55, 0), (55, .iastore, 1, 56, 0), (56, .iinc 3 1, 3, 59, 0), (59, .goto (-57), 3, 62, 2), (62, .return_, 1, 63, 0)])
theorem kX11_swaps : okc cX11_swaps (tb mX11_swaps) = true := by decide +kernel
def mX11_colours : MD := (yX11_colours, cX11_colours, 7, (some .int), (2, 49), [(0, .aload_n 0, 1, 1, 0), (1, .getfield 156, 3, 4, 0), (4, .iconst 2, 1, 5, 0), (5, .idiv, 1, 6, 0), (6, .istore_n 2, 1, 7, 0), (7, .iload_n 2, 1, 8, 0), (8, .ifCond .ne 5, 3, 11, 13), (11, .iload_n 1, 1, 12, 0), (12, .ireturn, 1, 13, 0), (13, .aload_n 0, 1, 14, 0), (14, .invokevirtual 223, 3, 17, 0), (17, .iconst 0, 1, 18, 0), (18, .istore_n 3, 1, 19, 0), (19, .iload_n 3, 1, 20, 0), (20, .bipush 64, 2, 22, 0), (22, .if_icmp .ge 16, 3, 25, 38), (25, .aload_n 0, 1, 26, 0), (26, .getfield 66, 3, 29, 0), (29, .iload_n 3, 1, 30, 0), (30, .iconst 0, 1, 31, 0), (31, .iastore, 1, 32, 0), (32, .iinc 3 1, 3, 35, 0), (35, .goto (-16), 3, 38, 19), (38, .iconst 0, 1, 39, 0), (39, .istore_n 3, 1, 40, 0), (40, .iload_n 3, 1, 41, 0), (41, .iload_n 2, 1, 42, 0), (42, .if_icmp .ge 70, 3, 45, 112), (45, .aload_n 0, 1, 46, 0), (46, .getfield 66, 3, 49, 0), (49, .bipush 8, 2, 51, 0), (51, .iload_n 3, 1, 52, 0), (52, .imul, 1, 53, 0), (53, .aload_n 0, 1, 54, 0), (54, .getfield 69, 3, 57, 0), (57, .aload_n 0, 1, 58, 0), (58, .getfield 72, 3, 61, 0), (61, .iload_n 3, 1, 62, 0), (62, .iaload, 1, 63, 0), (63, .iaload, 1, 64, 0), (64, .iadd, 1, 65, 0), (65, .dup2, 1, 66, 0), (66, .iaload, 1, 67, 0), (67, .iconst 2, 1, 68, 0), (68, .iadd, 1, 69, 0), (69, .iastore, 1, 70, 0), (70, .aload_n 0, 1, 71, 0), (71, .getfield 66, 3, 74, 0), (74, .bipush 8, 2, 76, 0), (76, .iload_n 3, 1, 77, 0), (77, .imul, 1, 78, 0), (78, .iload_n 3, 1, 79, 0), (79, .iadd, 1, 80, 0), (80, .dup2, 1, 81, 0), (81, .iaload, 1, 82, 0), (82, .iconst 1, 1, 83, 0), (83, .isub, 1, 84, 0), (84, .iastore, 1, 85, 0), (85, .aload_n 0, 1, 86, 0), (86, .getfield 66, 3, 89, 0), (89, .bipush 8, 2, 91, 0), (91, .iload_n 3, 1, 92, 0), (92, .imul, 1, 93, 0), (93, .iload_n 3, 1, 94, 0), (94, .iload_n 2, 1, 95, 0), (95, .iadd, 1, 96, 0), (96, .iconst 1, 1, 97, 0), (97, .isub, 1, 98, 0), (98, .iload_n 2, 1, 99, 0), (99, .irem, 1, 100, 0), (100, .iadd, 1, 101, 0), (101, .dup2, 1, 102, 0), (102, .iaload, 1, 103, 0), (103, .iconst 1, 1, 104, 0), (104, .isub, 1, 105, 0), (105, .iastore, 1, 106, 0), (106, .iinc 3 1, 3, 109, 0), (109, .goto (-69), 3, 112, 40), (112, .iconst 0, 1, 113, 0), (113, .istore_n 3, 1, 114, 0), (114, .iconst 0, 1, 115, 0), (115, .istore 4, 2, 117, 0), (117, .iload 4, 2, 119, 0), (119, .iload_n 2, 1, 120, 0), (120, .if_icmp .ge 82, 3, 123, 202), (123, .iconst (-1), 1, 124, 0), (124, .istore 5, 2, 126, 0), (126, .iload_n 2, 1, 127, 0), (127, .iconst 1, 1, 128, 0), (128, .isub, 1, 129, 0), (129, .istore 6, 2, 131, 0), (131, .iload 6, 2, 133, 0), (133, .iload_n 3, 1, 134, 0), (134, .if_icmp .lt 38, 3, 137, 172), (137, .aload_n 0, 1, 138, 0), (138, .getfield 66, 3, 141, 0), (141, .bipush 8, 2, 143, 0), (143, .iload 6, 2, 145, 0), (145, .imul, 1, 146, 0), (146, .iload 4, 2, 148, 0), (148, .iadd, 1, 149, 0), (149, .iaload, 1, 150, 0), (150, .iload_n 1, 1, 151, 0), (151, .invokestatic 226, 3, 154, 0), (154, .ifCond .eq 8, 3, 157, 162), (157, .iload 6, 2, 159, 0), (159, .goto 5, 3, 162, 164), (162, .iload 5, 2, 164, 0), (164, .istore 5, 2, 166, 0), (166, .iinc 6 (-1), 3, 169, 0), (169, .goto (-38), 3, 172, 131), (172, .iload 5, 2, 174, 0), (174, .ifCond .lt 22, 3, 177, 196), (177, .aload_n 0, 1, 178, 0), (178, .iload 5, 2, 180, 0), (180, .iload_n 3, 1, 181, 0), (181, .invokevirtual 229, 3, 184, 0), (184, .aload_n 0, 1, 185, 0), (185, .iload_n 3, 1, 186, 0), (186, .iload 4, 2, 188, 0), (188, .iload_n 2, 1, 189, 0), (189, .iload_n 1, 1, 190, 0), (190, .invokevirtual 232, 3, 193, 0), (193, .iinc 3 1, 3, 196, 0), (196, .iinc 4 1, 3, 199, 0), (199, .goto (-82), 3, 202, 117), (202, .iconst 1, 1, 203, 0), (203, .istore 4, 2, 205, 0), (205, .iload_n 3, 1, 206, 0), (206, .istore 5, 2, 208, 0), (208, .iload 5, 2, 210, 0), (210, .iload_n 2, 1, 211, 0), (211, .if_icmp .ge 15, 3, 214, 226), (214, .iload 4, 2, 216, 0), (216, .iload_n 1, 1, 217, 0), (217, .imul, 1, 218, 0), (218, .istore 4, 2, 220, 0), (220, .iinc 5 1, 3, 223, 0), (223, .goto (-15), 3, 226, 208), (226, .iload 4, 2, 228, 0), (228, .ireturn, 1, 229, 0)])
theorem kX11_colours : okc cX11_colours (tb mX11_colours) = true := by decide +kernel
def mX11_isWay : MD := (yX11_isWay, cX11_isWay, 5, (some .boolean), (1, 21), [(0, .iconst 1, 1, 1, 0), (1, .istore_n 2, 1, 2, 0), (2, .iconst 1, 1, 3, 0), (3, .istore_n 3, 1, 4, 0), (4, .iconst 0, 1, 5, 0), (5, .istore 4, 2, 7, 0), (7, .iload 4, 2, 9, 0), (9, .iload_n 1, 1, 10, 0), (10, .if_icmp .ge 93, 3, 13, 103), (13, .iload_n 2, 1, 14, 0), (14, .ifCond .eq 23, 3, 17, 37), (17, .aload_n 0, 1, 18, 0), (18, .getfield 75, 3, 21, 0), (21, .iload 4, 2, 23, 0), (23, .iaload, 1, 24, 0), (24, .aload_n 0, 1, 25, 0), (25, .getfield 75, 3, 28, 0), (28, .iconst 0, 1, 29, 0), (29, .iaload, 1, 30, 0), (30, .if_icmp .ne 7, 3, 33, 37), (33, .iconst 1, 1, 34, 0), (34, .goto 4, 3, 37, 38), (37, .iconst 0, 1, 38, 0), (38, .istore_n 2, 1, 39, 0), (39, .iload_n 3, 1, 40, 0), (40, .ifCond .eq 55, 3, 43, 95), (43, .iconst 2, 1, 44, 0), (44, .aload_n 0, 1, 45, 0), (45, .getfield 75, 3, 48, 0), (48, .aload_n 0, 1, 49, 0), (49, .getfield 69, 3, 52, 0), (52, .aload_n 0, 1, 53, 0), (53, .getfield 72, 3, 56, 0), (56, .iload 4, 2, 58, 0), (58, .iaload, 1, 59, 0), (59, .iaload, 1, 60, 0), (60, .iaload, 1, 61, 0), (61, .imul, 1, 62, 0), (62, .aload_n 0, 1, 63, 0), (63, .getfield 75, 3, 66, 0), (66, .iload 4, 2, 68, 0), (68, .iaload, 1, 69, 0), (69, .isub, 1, 70, 0), (70, .aload_n 0, 1, 71, 0), (71, .getfield 75, 3, 74, 0), (74, .iload 4, 2, 76, 0), (76, .iload_n 1, 1, 77, 0), (77, .iadd, 1, 78, 0), (78, .iconst 1, 1, 79, 0), (79, .isub, 1, 80, 0), (80, .iload_n 1, 1, 81, 0), (81, .irem, 1, 82, 0), (82, .iaload, 1, 83, 0), (83, .isub, 1, 84, 0), (84, .iconst 3, 1, 85, 0), (85, .invokestatic 226, 3, 88, 0), (88, .ifCond .ne 7, 3, 91, 95), (91, .iconst 1, 1, 92, 0), (92, .goto 4, 3, 95, 96), (95, .iconst 0, 1, 96, 0), (96, .istore_n 3, 1, 97, 0), (97, .iinc 4 1, 3, 100, 0), (100, .goto (-93), 3, 103, 7), (103, .iload_n 3, 1, 104, 0), (104, .ifCond .eq 11, 3, 107, 115), (107, .iload_n 2, 1, 108, 0), (108, .ifCond .ne 7, 3, 111, 115), (111, .iconst 1, 1, 112, 0), (112, .goto 4, 3, 115, 116), (115, .iconst 0, 1, 116, 0), (116, .ireturn, 1, 117, 0)])
theorem kX11_isWay : okc cX11_isWay (tb mX11_isWay) = true := by decide +kernel
def mX11_colour : MD := (yX11_colour, cX11_colour, 8, (some .int), (3, 64), [(0, .aload_n 0, 1, 1, 0), (1, .iload_n 1, 1, 2, 0), (2, .invokevirtual 206, 3, 5, 0), (5, .ifCond .ne 6, 3, 8, 11), (8, .ldc 210, 2, 10, 0), (10, .ireturn, 1, 11, 0), (11, .aload_n 0, 1, 12, 0), (12, .iload_n 1, 1, 13, 0), (13, .invokevirtual 92, 3, 16, 0), (16, .istore_n 3, 1, 17, 0), (17, .iload_n 2, 1, 18, 0), (18, .i2l, 1, 19, 0), (19, .lconst 0, 1, 20, 0), (20, .iload_n 3, 1, 21, 0), (21, .iconst 1, 1, 22, 0), (22, .isub, 1, 23, 0), (23, .i2l, 1, 24, 0), (24, .invokestatic 81, 3, 27, 0), (27, .ifCond .ne 5, 3, 30, 32), (30, .iconst (-1), 1, 31, 0), (31, .ireturn, 1, 32, 0), (32, .aload_n 0, 1, 33, 0), (33, .iload_n 1, 1, 34, 0), (34, .invokevirtual 211, 3, 37, 0), (37, .aload_n 0, 1, 38, 0), (38, .invokevirtual 223, 3, 41, 0), (41, .iconst 1, 1, 42, 0), (42, .istore 4, 2, 44, 0), (44, .iconst 0, 1, 45, 0), (45, .istore 5, 2, 47, 0), (47, .iload 5, 2, 49, 0), (49, .iload_n 3, 1, 50, 0), (50, .if_icmp .ge 15, 3, 53, 65), (53, .iload 4, 2, 55, 0), (55, .iconst 3, 1, 56, 0), (56, .imul, 1, 57, 0), (57, .istore 4, 2, 59, 0), (59, .iinc 5 1, 3, 62, 0), (62, .goto (-15), 3, 65, 47), (65, .iconst 0, 1, 66, 0), (66, .istore 5, 2, 68, 0), (68, .iload 5, 2, 70, 0), (70, .iload 4, 2, 72, 0), (72, .if_icmp .ge 61, 3, 75, 133), (75, .iload 5, 2, 77, 0), (77, .istore 6, 2, 79, 0), (79, .iload_n 3, 1, 80, 0), (80, .iconst 1, 1, 81, 0), (81, .isub, 1, 82, 0), (82, .istore 7, 2, 84, 0), (84, .iload 7, 2, 86, 0), (86, .ifCond .lt 26, 3, 89, 112), (89, .aload_n 0, 1, 90, 0), (90, .getfield 75, 3, 93, 0), (93, .iload 7, 2, 95, 0), (95, .iload 6, 2, 97, 0), (97, .iconst 3, 1, 98, 0), (98, .irem, 1, 99, 0), (99, .iastore, 1, 100, 0), (100, .iload 6, 2, 102, 0), (102, .iconst 3, 1, 103, 0), (103, .idiv, 1, 104, 0), (104, .istore 6, 2, 106, 0), (106, .iinc 7 (-1), 3, 109, 0), (109, .goto (-25), 3, 112, 84), (112, .aload_n 0, 1, 113, 0), (113, .iload_n 3, 1, 114, 0), (114, .invokevirtual 236, 3, 117, 0), (117, .ifCond .eq 10, 3, 120, 127), (120, .aload_n 0, 1, 121, 0), (121, .getfield 75, 3, 124, 0), (124, .iload_n 2, 1, 125, 0), (125, .iaload, 1, 126, 0), (126, .ireturn, 1, 127, 0), (127, .iinc 5 1, 3, 130, 0), (130, .goto (-62), 3, 133, 68), (133, .iconst (-1), 1, 134, 0), (134, .ireturn, 1, 135, 0)])
theorem kX11_colour : okc cX11_colour (tb mX11_colour) = true := by decide +kernel
def mX11_isOut : MD := (yX11_isOut, cX11_isOut, 3, (some .boolean), (4, 99), [(0, .aload_n 0, 1, 1, 0), (1, .iload_n 1, 1, 2, 0), (2, .invokevirtual 239, 3, 5, 0), (5, .aload_n 0, 1, 6, 0), (6, .iconst 0, 1, 7, 0), (7, .iconst 0, 1, 8, 0), (8, .invokevirtual 219, 3, 11, 0), (11, .istore_n 2, 1, 12, 0), (12, .aload_n 0, 1, 13, 0), (13, .iload_n 1, 1, 14, 0), (14, .invokevirtual 239, 3, 17, 0), (17, .iload_n 2, 1, 18, 0), (18, .ifCond .ne 7, 3, 21, 25), (21, .iconst 1, 1, 22, 0), (22, .goto 4, 3, 25, 26), (25, .iconst 0, 1, 26, 0), (26, .ireturn, 1, 27, 0)])
theorem kX11_isOut : okc cX11_isOut (tb mX11_isOut) = true := by decide +kernel
def mX11_weak : MD := (yX11_weak, cX11_weak, 3, (some .int), (5, 121), [(0, .iconst 0, 1, 1, 0), (1, .istore_n 1, 1, 2, 0), (2, .iconst 0, 1, 3, 0), (3, .istore_n 2, 1, 4, 0), (4, .iload_n 2, 1, 5, 0), (5, .aload_n 0, 1, 6, 0), (6, .getfield 156, 3, 9, 0), (9, .iconst 2, 1, 10, 0), (10, .idiv, 1, 11, 0), (11, .if_icmp .ge 29, 3, 14, 40), (14, .iload_n 1, 1, 15, 0), (15, .aload_n 0, 1, 16, 0), (16, .iconst 1, 1, 17, 0), (17, .iload_n 2, 1, 18, 0), (18, .ishl, 1, 19, 0), (19, .invokevirtual 242, 3, 22, 0), (22, .ifCond .eq 9, 3, 25, 31), (25, .iconst 1, 1, 26, 0), (26, .iload_n 2, 1, 27, 0), (27, .ishl, 1, 28, 0), (28, .goto 4, 3, 31, 32), (31, .iconst 0, 1, 32, 0), (32, .ior, 1, 33, 0), (33, .istore_n 1, 1, 34, 0), (34, .iinc 2 1, 3, 37, 0), (37, .goto (-33), 3, 40, 4), (40, .iload_n 1, 1, 41, 0), (41, .ireturn, 1, 42, 0)])
theorem kX11_weak : okc cX11_weak (tb mX11_weak) = true := by decide +kernel
def mX11_switches : MD := (yX11_switches, cX11_switches, 3, (some .int), (5, 121), [(0, .iconst (-1), 1, 1, 0), (1, .istore_n 1, 1, 2, 0), (2, .iconst 0, 1, 3, 0), (3, .istore_n 2, 1, 4, 0), (4, .iload_n 2, 1, 5, 0), (5, .iconst 1, 1, 6, 0), (6, .aload_n 0, 1, 7, 0), (7, .getfield 156, 3, 10, 0), (10, .iconst 2, 1, 11, 0), (11, .idiv, 1, 12, 0), (12, .ishl, 1, 13, 0), (13, .if_icmp .ge 34, 3, 16, 47), (16, .iload_n 1, 1, 17, 0), (17, .ifCond .lt 14, 3, 20, 31), (20, .iload_n 2, 1, 21, 0), (21, .invokestatic 203, 3, 24, 0), (24, .iload_n 1, 1, 25, 0), (25, .invokestatic 203, 3, 28, 0), (28, .if_icmp .ge 13, 3, 31, 41), (31, .aload_n 0, 1, 32, 0), (32, .iload_n 2, 1, 33, 0), (33, .invokevirtual 242, 3, 36, 0), (36, .ifCond .eq 5, 3, 39, 41), (39, .iload_n 2, 1, 40, 0), (40, .istore_n 1, 1, 41, 0), (41, .iinc 2 1, 3, 44, 0), (44, .goto (-40), 3, 47, 4), (47, .iload_n 1, 1, 48, 0), (48, .ireturn, 1, 49, 0)])
theorem kX11_switches : okc cX11_switches (tb mX11_switches) = true := by decide +kernel
def mX11_inside : MD := (yX11_inside, cX11_inside, 5, (some .int), (0, 0), [(0, .iconst 0, 1, 1, 0), (1, .istore_n 2, 1, 2, 0), (2, .iconst 0, 1, 3, 0), (3, .istore_n 3, 1, 4, 0), (4, .iconst 0, 1, 5, 0), (5, .istore 4, 2, 7, 0), (7, .iload 4, 2, 9, 0), (9, .aload_n 0, 1, 10, 0), (10, .getfield 156, 3, 13, 0), (13, .if_icmp .ge 71, 3, 16, 84), (16, .aload_n 0, 1, 17, 0), (17, .getfield 42, 3, 20, 0), (20, .iload 4, 2, 22, 0), (22, .iaload, 1, 23, 0), (23, .iconst 2, 1, 24, 0), (24, .idiv, 1, 25, 0), (25, .iload_n 1, 1, 26, 0), (26, .if_icmp .ne 15, 3, 29, 41), (29, .iload_n 3, 1, 30, 0), (30, .ifCond .ne 7, 3, 33, 37), (33, .iconst 1, 1, 34, 0), (34, .goto 8, 3, 37, 42), (37, .iconst 0, 1, 38, 0), (38, .goto 4, 3, 41, 42), (41, .iload_n 3, 1, 42, 0), (42, .istore_n 3, 1, 43, 0), (43, .iload_n 2, 1, 44, 0), (44, .iload_n 3, 1, 45, 0), (45, .ifCond .eq 30, 3, 48, 75), (48, .aload_n 0, 1, 49, 0), (49, .getfield 42, 3, 52, 0), (52, .iload 4, 2, 54, 0), (54, .iaload, 1, 55, 0), (55, .iconst 2, 1, 56, 0), (56, .idiv, 1, 57, 0), (57, .iload_n 1, 1, 58, 0), (58, .if_icmp .eq 17, 3, 61, 75), (61, .iconst 1, 1, 62, 0), (62, .aload_n 0, 1, 63, 0), (63, .getfield 42, 3, 66, 0), (66, .iload 4, 2, 68, 0), (68, .iaload, 1, 69, 0), (69, .iconst 2, 1, 70, 0), (70, .idiv, 1, 71, 0), (71, .ishl, 1, 72, 0), (72, .goto 4, 3, 75, 76), (75, .iconst 0, 1, 76, 0), (76, .ixor, 1, 77, 0), (77, .istore_n 2, 1, 78, 0), (78, .iinc 4 1, 3, 81, 0), (81, .goto (-74), 3, 84, 7), (84, .iload_n 2, 1, 85, 0), (85, .ireturn, 1, 86, 0)])
theorem kX11_inside : okc cX11_inside (tb mX11_inside) = true := by decide +kernel
def mX11_odd : MD := (yX11_odd, cX11_odd, 3, (some .int), (1, 24), [(0, .iconst 0, 1, 1, 0), (1, .istore_n 1, 1, 2, 0), (2, .iconst 0, 1, 3, 0), (3, .istore_n 2, 1, 4, 0), (4, .iload_n 2, 1, 5, 0), (5, .aload_n 0, 1, 6, 0), (6, .getfield 156, 3, 9, 0), (9, .iconst 2, 1, 10, 0), (10, .idiv, 1, 11, 0), (11, .if_icmp .ge 33, 3, 14, 44), (14, .iload_n 1, 1, 15, 0), (15, .aload_n 0, 1, 16, 0), (16, .iload_n 2, 1, 17, 0), (17, .invokevirtual 245, 3, 20, 0), (20, .invokestatic 203, 3, 23, 0), (23, .iconst 2, 1, 24, 0), (24, .irem, 1, 25, 0), (25, .iconst 1, 1, 26, 0), (26, .if_icmp .ne 9, 3, 29, 35), (29, .iconst 1, 1, 30, 0), (30, .iload_n 2, 1, 31, 0), (31, .ishl, 1, 32, 0), (32, .goto 4, 3, 35, 36), (35, .iconst 0, 1, 36, 0), (36, .ior, 1, 37, 0), (37, .istore_n 1, 1, 38, 0), (38, .iinc 2 1, 3, 41, 0), (41, .goto (-37), 3, 44, 4), (44, .iload_n 1, 1, 45, 0), (45, .ireturn, 1, 46, 0)])
theorem kX11_odd : okc cX11_odd (tb mX11_odd) = true := by decide +kernel
def mX11_told : MD := (yX11_told, cX11_told, 7, (some .int), (4, 99), [(0, .iload_n 1, 1, 1, 0), (1, .i2l, 1, 2, 0), (2, .lconst 0, 1, 3, 0), (3, .ldc2_w 248, 3, 6, 0), (6, .invokestatic 81, 3, 9, 0), (9, .ifCond .ne 6, 3, 12, 15), (12, .ldc 97, 2, 14, 0), (14, .ireturn, 1, 15, 0), (15, .iconst 0, 1, 16, 0), (16, .istore_n 2, 1, 17, 0), (17, .iconst 0, 1, 18, 0), (18, .istore_n 3, 1, 19, 0), (19, .iconst 0, 1, 20, 0), (20, .istore 4, 2, 22, 0), (22, .iconst 0, 1, 23, 0), (23, .istore 5, 2, 25, 0), (25, .iconst 0, 1, 26, 0), (26, .istore 6, 2, 28, 0), (28, .iload 6, 2, 30, 0), (30, .aload_n 0, 1, 31, 0), (31, .getfield 7, 3, 34, 0), (34, .iconst 1, 1, 35, 0), (35, .iaload, 1, 36, 0), (36, .if_icmp .ge 96, 3, 39, 132), (39, .iload_n 2, 1, 40, 0), (40, .aload_n 0, 1, 41, 0), (41, .iload 6, 2, 43, 0), (43, .invokevirtual 92, 3, 46, 0), (46, .iadd, 1, 47, 0), (47, .istore_n 2, 1, 48, 0), (48, .iload_n 3, 1, 49, 0), (49, .aload_n 0, 1, 50, 0), (50, .getfield 7, 3, 53, 0), (53, .aload_n 0, 1, 54, 0), (54, .iload 6, 2, 56, 0), (56, .invokevirtual 85, 3, 59, 0), (59, .iconst 1, 1, 60, 0), (60, .iadd, 1, 61, 0), (61, .iaload, 1, 62, 0), (62, .invokestatic 203, 3, 65, 0), (65, .iadd, 1, 66, 0), (66, .istore_n 3, 1, 67, 0), (67, .iload 4, 2, 69, 0), (69, .aload_n 0, 1, 70, 0), (70, .iload 6, 2, 72, 0), (72, .invokevirtual 89, 3, 75, 0), (75, .ifCond .ne 10, 3, 78, 85), (78, .iconst 1, 1, 79, 0), (79, .iload 6, 2, 81, 0), (81, .ishl, 1, 82, 0), (82, .goto 4, 3, 85, 86), (85, .iconst 0, 1, 86, 0), (86, .ior, 1, 87, 0), (87, .istore 4, 2, 89, 0), (89, .aload_n 0, 1, 90, 0), (90, .iload 6, 2, 92, 0), (92, .invokevirtual 211, 3, 95, 0), (95, .iload 5, 2, 97, 0), (97, .iload_n 1, 1, 98, 0), (98, .bipush 6, 2, 100, 0), (100, .if_icmp .ne 22, 3, 103, 122), (103, .aload_n 0, 1, 104, 0), (104, .aload_n 0, 1, 105, 0), (105, .getfield 159, 3, 108, 0), (108, .iconst 0, 1, 109, 0), (109, .invokevirtual 219, 3, 112, 0), (112, .ifCond .ne 10, 3, 115, 122), (115, .iconst 1, 1, 116, 0), (116, .iload 6, 2, 118, 0), (118, .ishl, 1, 119, 0), (119, .goto 4, 3, 122, 123), (122, .iconst 0, 1, 123, 0), (123, .ior, 1, 124, 0), (124, .istore 5, 2, 126, 0), (126, .iinc 6 1, 3, 129, 0), (129, .goto (-101), 3, 132, 28), (132, .iload_n 1, 1, 133, 0), (133, .ifCond .ne 12, 3, 136, 145), (136, .aload_n 0, 1, 137, 0), (137, .getfield 7, 3, 140, 0), (140, .iconst 1, 1, 141, 0), (141, .iaload, 1, 142, 0), (142, .goto 85, 3, 145, 227), (145, .iload_n 1, 1, 146, 0), (146, .iconst 1, 1, 147, 0), (147, .if_icmp .ne 10, 3, 150, 157), (150, .aload_n 0, 1, 151, 0), (151, .getfield 98, 3, 154, 0), (154, .goto 73, 3, 157, 227), (157, .iload_n 1, 1, 158, 0), (158, .iconst 2, 1, 159, 0), (159, .if_icmp .ne 12, 3, 162, 171), (162, .aload_n 0, 1, 163, 0), (163, .getfield 7, 3, 166, 0), (166, .iconst 0, 1, 167, 0), (167, .iaload, 1, 168, 0), (168, .goto 59, 3, 171, 227), (171, .iload_n 1, 1, 172, 0), (172, .iconst 3, 1, 173, 0), (173, .if_icmp .ne 7, 3, 176, 180), (176, .iload_n 2, 1, 177, 0), (177, .goto 50, 3, 180, 227), (180, .iload_n 1, 1, 181, 0), (181, .iconst 4, 1, 182, 0), (182, .if_icmp .ne 7, 3, 185, 189), (185, .iload_n 3, 1, 186, 0), (186, .goto 41, 3, 189, 227), (189, .iload_n 1, 1, 190, 0), (190, .iconst 5, 1, 191, 0), (191, .if_icmp .ne 8, 3, 194, 199), (194, .iload 4, 2, 196, 0), (196, .goto 31, 3, 199, 227), (199, .iload_n 1, 1, 200, 0), (200, .bipush 6, 2, 202, 0), (202, .if_icmp .ne 8, 3, 205, 210), (205, .iload 5, 2, 207, 0), (207, .goto 20, 3, 210, 227), (210, .iload_n 1, 1, 211, 0), (211, .bipush 7, 2, 213, 0), (213, .if_icmp .ne 10, 3, 216, 223), (216, .aload_n 0, 1, 217, 0), (217, .getfield 169, 3, 220, 0), (220, .goto 7, 3, 223, 227), (223, .aload_n 0, 1, 224, 0), (224, .getfield 166, 3, 227, 0), (227, .ireturn, 1, 228, 0)])
theorem kX11_told : okc cX11_told (tb mX11_told) = true := by decide +kernel
def mX11_pretzel : MD := (yX11_pretzel, cX11_pretzel, 3, (some .int), (6, 143), [(0, .aload_n 0, 1, 1, 0), (1, .iload_n 1, 1, 2, 0), (2, .invokevirtual 206, 3, 5, 0), (5, .ifCond .ne 6, 3, 8, 11), (8, .ldc 210, 2, 10, 0), (10, .ireturn, 1, 11, 0), (11, .iload_n 2, 1, 12, 0), (12, .i2l, 1, 13, 0), (13, .lconst 0, 1, 14, 0), (14, .ldc2_w 250, 3, 17, 0), (17, .invokestatic 81, 3, 20, 0), (20, .ifCond .ne 6, 3, 23, 26), (23, .ldc 97, 2, 25, 0), (25, .ireturn, 1, 26, 0), (26, .aload_n 0, 1, 27, 0), (27, .iload_n 1, 1, 28, 0), (28, .invokevirtual 211, 3, 31, 0), (31, .iload_n 2, 1, 32, 0), (32, .ifCond .ne 12, 3, 35, 44), (35, .aload_n 0, 1, 36, 0), (36, .getfield 156, 3, 39, 0), (39, .iconst 2, 1, 40, 0), (40, .idiv, 1, 41, 0), (41, .goto 69, 3, 44, 110), (44, .iload_n 2, 1, 45, 0), (45, .iconst 1, 1, 46, 0), (46, .if_icmp .ne 10, 3, 49, 56), (49, .aload_n 0, 1, 50, 0), (50, .getfield 159, 3, 53, 0), (53, .goto 57, 3, 56, 110), (56, .iload_n 2, 1, 57, 0), (57, .iconst 2, 1, 58, 0), (58, .if_icmp .ne 11, 3, 61, 69), (61, .aload_n 0, 1, 62, 0), (62, .iconst 3, 1, 63, 0), (63, .invokevirtual 252, 3, 66, 0), (66, .goto 44, 3, 69, 110), (69, .iload_n 2, 1, 70, 0), (70, .iconst 3, 1, 71, 0), (71, .if_icmp .ne 11, 3, 74, 82), (74, .aload_n 0, 1, 75, 0), (75, .iconst 5, 1, 76, 0), (76, .invokevirtual 252, 3, 79, 0), (79, .goto 31, 3, 82, 110), (82, .iload_n 2, 1, 83, 0), (83, .iconst 4, 1, 84, 0), (84, .if_icmp .ne 10, 3, 87, 94), (87, .aload_n 0, 1, 88, 0), (88, .invokevirtual 255, 3, 91, 0), (91, .goto 19, 3, 94, 110), (94, .iload_n 2, 1, 95, 0), (95, .iconst 5, 1, 96, 0), (96, .if_icmp .ne 10, 3, 99, 106), (99, .aload_n 0, 1, 100, 0), (100, .invokevirtual 258, 3, 103, 0), (103, .goto 7, 3, 106, 110), (106, .aload_n 0, 1, 107, 0), (107, .invokevirtual 261, 3, 110, 0), (110, .ireturn, 1, 111, 0)])
theorem kX11_pretzel : okc cX11_pretzel (tb mX11_pretzel) = true := by decide +kernel
def mX11_pass : MD := (yX11_pass, cX11_pass, 3, (some .int), (2, 46), [(0, .aload_n 0, 1, 1, 0), (1, .iload_n 1, 1, 2, 0), (2, .invokevirtual 206, 3, 5, 0), (5, .ifCond .ne 6, 3, 8, 11), (8, .ldc 210, 2, 10, 0), (10, .ireturn, 1, 11, 0), (11, .iload_n 2, 1, 12, 0), (12, .i2l, 1, 13, 0), (13, .lconst 0, 1, 14, 0), (14, .aload_n 0, 1, 15, 0), (15, .iload_n 1, 1, 16, 0), (16, .invokevirtual 89, 3, 19, 0), (19, .iconst 1, 1, 20, 0), (20, .isub, 1, 21, 0), (21, .i2l, 1, 22, 0), (22, .invokestatic 81, 3, 25, 0), (25, .ifCond .eq 20, 3, 28, 45), (28, .aload_n 0, 1, 29, 0), (29, .getfield 7, 3, 32, 0), (32, .aload_n 0, 1, 33, 0), (33, .iload_n 1, 1, 34, 0), (34, .invokevirtual 85, 3, 37, 0), (37, .iconst 2, 1, 38, 0), (38, .iadd, 1, 39, 0), (39, .iload_n 2, 1, 40, 0), (40, .iadd, 1, 41, 0), (41, .iaload, 1, 42, 0), (42, .goto 4, 3, 45, 46), (45, .iconst (-1), 1, 46, 0), (46, .ireturn, 1, 47, 0)])
theorem kX11_pass : okc cX11_pass (tb mX11_pass) = true := by decide +kernel
def mX11_within : MD := (yX11_within, cX11_within, 3, (some .int), (4, 85), [(0, .aload_n 0, 1, 1, 0), (1, .iload_n 1, 1, 2, 0), (2, .invokevirtual 206, 3, 5, 0), (5, .ifCond .eq 12, 3, 8, 17), (8, .aload_n 0, 1, 9, 0), (9, .iload_n 1, 1, 10, 0), (10, .iload_n 2, 1, 11, 0), (11, .invokevirtual 264, 3, 14, 0), (14, .ifCond .ne 6, 3, 17, 20), (17, .ldc 210, 2, 19, 0), (19, .ireturn, 1, 20, 0), (20, .aload_n 0, 1, 21, 0), (21, .iload_n 1, 1, 22, 0), (22, .invokevirtual 211, 3, 25, 0), (25, .aload_n 0, 1, 26, 0), (26, .iload_n 2, 1, 27, 0), (27, .invokevirtual 245, 3, 30, 0), (30, .ireturn, 1, 31, 0)])
theorem kX11_within : okc cX11_within (tb mX11_within) = true := by decide +kernel
def mX11_isTwo : MD := (yX11_isTwo, cX11_isTwo, 3, (some .boolean), (2, 46), [(0, .aload_n 0, 1, 1, 0), (1, .iload_n 1, 1, 2, 0), (2, .invokevirtual 206, 3, 5, 0), (5, .ifCond .eq 20, 3, 8, 25), (8, .aload_n 0, 1, 9, 0), (9, .iload_n 2, 1, 10, 0), (10, .invokevirtual 206, 3, 13, 0), (13, .ifCond .eq 12, 3, 16, 25), (16, .iload_n 1, 1, 17, 0), (17, .iload_n 2, 1, 18, 0), (18, .if_icmp .eq 7, 3, 21, 25), (21, .iconst 1, 1, 22, 0), (22, .goto 4, 3, 25, 26), (25, .iconst 0, 1, 26, 0), (26, .ireturn, 1, 27, 0)])
theorem kX11_isTwo : okc cX11_isTwo (tb mX11_isTwo) = true := by decide +kernel
def mX11_isSame : MD := (yX11_isSame, cX11_isSame, 7, (some .boolean), (2, 48), [(0, .aload_n 0, 1, 1, 0), (1, .getfield 156, 3, 4, 0), (4, .iload_n 1, 1, 5, 0), (5, .if_icmp .ne 14, 3, 8, 19), (8, .aload_n 0, 1, 9, 0), (9, .getfield 156, 3, 12, 0), (12, .ifCond .ne 7, 3, 15, 19), (15, .iconst 1, 1, 16, 0), (16, .goto 4, 3, 19, 20), (19, .iconst 0, 1, 20, 0), (20, .istore_n 2, 1, 21, 0), (21, .iconst 0, 1, 22, 0), (22, .istore_n 3, 1, 23, 0), (23, .iload_n 3, 1, 24, 0), (24, .aload_n 0, 1, 25, 0), (25, .getfield 156, 3, 28, 0), (28, .if_icmp .ge 90, 3, 31, 118), (31, .aload_n 0, 1, 32, 0), (32, .getfield 156, 3, 35, 0), (35, .iload_n 1, 1, 36, 0), (36, .if_icmp .ne 82, 3, 39, 118), (39, .iload_n 2, 1, 40, 0), (40, .ifCond .ne 78, 3, 43, 118), (43, .aload_n 0, 1, 44, 0), (44, .iload_n 3, 1, 45, 0), (45, .invokevirtual 176, 3, 48, 0), (48, .istore 4, 2, 50, 0), (50, .iload 4, 2, 52, 0), (52, .ifCond .lt 7, 3, 55, 59), (55, .iconst 1, 1, 56, 0), (56, .goto 4, 3, 59, 60), (59, .iconst 0, 1, 60, 0), (60, .istore 5, 2, 62, 0), (62, .iconst 0, 1, 63, 0), (63, .istore 6, 2, 65, 0), (65, .iload 6, 2, 67, 0), (67, .aload_n 0, 1, 68, 0), (68, .getfield 156, 3, 71, 0), (71, .if_icmp .ge 38, 3, 74, 109), (74, .iload 5, 2, 76, 0), (76, .ifCond .eq 24, 3, 79, 100), (79, .aload_n 0, 1, 80, 0), (80, .getfield 48, 3, 83, 0), (83, .iload 6, 2, 85, 0), (85, .iaload, 1, 86, 0), (86, .aload_n 0, 1, 87, 0), (87, .getfield 45, 3, 90, 0), (90, .iload 6, 2, 92, 0), (92, .iaload, 1, 93, 0), (93, .if_icmp .ne 7, 3, 96, 100), (96, .iconst 1, 1, 97, 0), (97, .goto 4, 3, 100, 101), (100, .iconst 0, 1, 101, 0), (101, .istore 5, 2, 103, 0), (103, .iinc 6 1, 3, 106, 0), (106, .goto (-41), 3, 109, 65), (109, .iload 5, 2, 111, 0), (111, .istore_n 2, 1, 112, 0), (112, .iinc 3 1, 3, 115, 0), (115, .goto (-92), 3, 118, 23), (118, .iload_n 2, 1, 119, 0), (119, .ireturn, 1, 120, 0)])
theorem kX11_isSame : okc cX11_isSame (tb mX11_isSame) = true := by decide +kernel
def mX11_same : MD := (yX11_same, cX11_same, 6, (some .int), (3, 74), [(0, .aload_n 0, 1, 1, 0), (1, .iload_n 1, 1, 2, 0), (2, .iload_n 2, 1, 3, 0), (3, .invokevirtual 267, 3, 6, 0), (6, .ifCond .ne 6, 3, 9, 12), (9, .ldc 210, 2, 11, 0), (11, .ireturn, 1, 12, 0), (12, .aload_n 0, 1, 13, 0), (13, .iload_n 2, 1, 14, 0), (14, .invokevirtual 211, 3, 17, 0), (17, .iconst 0, 1, 18, 0), (18, .istore_n 3, 1, 19, 0), (19, .iload_n 3, 1, 20, 0), (20, .aload_n 0, 1, 21, 0), (21, .getfield 156, 3, 24, 0), (24, .if_icmp .ge 21, 3, 27, 45), (27, .aload_n 0, 1, 28, 0), (28, .getfield 45, 3, 31, 0), (31, .iload_n 3, 1, 32, 0), (32, .aload_n 0, 1, 33, 0), (33, .getfield 42, 3, 36, 0), (36, .iload_n 3, 1, 37, 0), (37, .iaload, 1, 38, 0), (38, .iastore, 1, 39, 0), (39, .iinc 3 1, 3, 42, 0), (42, .goto (-23), 3, 45, 19), (45, .aload_n 0, 1, 46, 0), (46, .getfield 156, 3, 49, 0), (49, .istore_n 3, 1, 50, 0), (50, .iconst 0, 1, 51, 0), (51, .istore 4, 2, 53, 0), (53, .iconst 0, 1, 54, 0), (54, .istore 5, 2, 56, 0), (56, .iload 5, 2, 58, 0), (58, .iconst 4, 1, 59, 0), (59, .if_icmp .ge 60, 3, 62, 119), (62, .aload_n 0, 1, 63, 0), (63, .iload_n 1, 1, 64, 0), (64, .invokevirtual 211, 3, 67, 0), (67, .iload 5, 2, 69, 0), (69, .iconst 2, 1, 70, 0), (70, .irem, 1, 71, 0), (71, .iconst 1, 1, 72, 0), (72, .if_icmp .ne 7, 3, 75, 79), (75, .aload_n 0, 1, 76, 0), (76, .invokevirtual 270, 3, 79, 0), (79, .iload 5, 2, 81, 0), (81, .iconst 1, 1, 82, 0), (82, .if_icmp .le 10, 3, 85, 92), (85, .aload_n 0, 1, 86, 0), (86, .sipush 255, 3, 89, 0), (89, .invokevirtual 239, 3, 92, 0), (92, .iload 4, 2, 94, 0), (94, .aload_n 0, 1, 95, 0), (95, .iload_n 3, 1, 96, 0), (96, .invokevirtual 273, 3, 99, 0), (99, .ifCond .eq 10, 3, 102, 109), (102, .iconst 1, 1, 103, 0), (103, .iload 5, 2, 105, 0), (105, .ishl, 1, 106, 0), (106, .goto 4, 3, 109, 110), (109, .iconst 0, 1, 110, 0), (110, .ior, 1, 111, 0), (111, .istore 4, 2, 113, 0), (113, .iinc 5 1, 3, 116, 0), (116, .goto (-60), 3, 119, 56), (119, .iload 4, 2, 121, 0), (121, .ireturn, 1, 122, 0)])
theorem kX11_same : okc cX11_same (tb mX11_same) = true := by decide +kernel
def mX11_tells : MD := (yX11_tells, cX11_tells, 6, (some .int), (4, 99), [(0, .aload_n 0, 1, 1, 0), (1, .iload_n 1, 1, 2, 0), (2, .iload_n 2, 1, 3, 0), (3, .invokevirtual 267, 3, 6, 0), (6, .ifCond .ne 6, 3, 9, 12), (9, .ldc 210, 2, 11, 0), (11, .ireturn, 1, 12, 0), (12, .aload_n 0, 1, 13, 0), (13, .iload_n 1, 1, 14, 0), (14, .invokevirtual 211, 3, 17, 0), (17, .aload_n 0, 1, 18, 0), (18, .iconst 3, 1, 19, 0), (19, .invokevirtual 252, 3, 22, 0), (22, .istore_n 3, 1, 23, 0), (23, .aload_n 0, 1, 24, 0), (24, .iconst 5, 1, 25, 0), (25, .invokevirtual 252, 3, 28, 0), (28, .istore 4, 2, 30, 0), (30, .aload_n 0, 1, 31, 0), (31, .iconst 0, 1, 32, 0), (32, .iconst 0, 1, 33, 0), (33, .invokevirtual 219, 3, 36, 0), (36, .istore 5, 2, 38, 0), (38, .aload_n 0, 1, 39, 0), (39, .iload_n 2, 1, 40, 0), (40, .invokevirtual 211, 3, 43, 0), (43, .iload_n 3, 1, 44, 0), (44, .aload_n 0, 1, 45, 0), (45, .iconst 3, 1, 46, 0), (46, .invokevirtual 252, 3, 49, 0), (49, .if_icmp .ne 7, 3, 52, 56), (52, .iconst 0, 1, 53, 0), (53, .goto 4, 3, 56, 57), (56, .iconst 1, 1, 57, 0), (57, .iload 4, 2, 59, 0), (59, .aload_n 0, 1, 60, 0), (60, .iconst 5, 1, 61, 0), (61, .invokevirtual 252, 3, 64, 0), (64, .if_icmp .ne 7, 3, 67, 71), (67, .iconst 0, 1, 68, 0), (68, .goto 4, 3, 71, 72), (71, .iconst 2, 1, 72, 0), (72, .iadd, 1, 73, 0), (73, .iload 5, 2, 75, 0), (75, .aload_n 0, 1, 76, 0), (76, .iconst 0, 1, 77, 0), (77, .iconst 0, 1, 78, 0), (78, .invokevirtual 219, 3, 81, 0), (81, .if_icmp .ne 7, 3, 84, 88), (84, .iconst 0, 1, 85, 0), (85, .goto 4, 3, 88, 89), (88, .iconst 4, 1, 89, 0), (89, .iadd, 1, 90, 0), (90, .ireturn, 1, 91, 0)])
theorem kX11_tells : okc cX11_tells (tb mX11_tells) = true := by decide +kernel
def mX11_words : MD := (yX11_words, cX11_words, 7, (some .int), (3, 64), [(0, .aload_n 0, 1, 1, 0), (1, .iload_n 1, 1, 2, 0), (2, .invokevirtual 206, 3, 5, 0), (5, .ifCond .ne 6, 3, 8, 11), (8, .ldc 210, 2, 10, 0), (10, .ireturn, 1, 11, 0), (11, .aload_n 0, 1, 12, 0), (12, .iload_n 1, 1, 13, 0), (13, .invokevirtual 211, 3, 16, 0), (16, .iload_n 2, 1, 17, 0), (17, .i2l, 1, 18, 0), (18, .lconst 0, 1, 19, 0), (19, .aload_n 0, 1, 20, 0), (20, .getfield 156, 3, 23, 0), (23, .iconst 1, 1, 24, 0), (24, .isub, 1, 25, 0), (25, .i2l, 1, 26, 0), (26, .invokestatic 81, 3, 29, 0), (29, .ifCond .ne 5, 3, 32, 34), (32, .iconst (-1), 1, 33, 0), (33, .ireturn, 1, 34, 0), (34, .iconst 0, 1, 35, 0), (35, .istore_n 3, 1, 36, 0), (36, .iload_n 3, 1, 37, 0), (37, .aload_n 0, 1, 38, 0), (38, .getfield 156, 3, 41, 0), (41, .if_icmp .ge 138, 3, 44, 179), (44, .aload_n 0, 1, 45, 0), (45, .iload_n 3, 1, 46, 0), (46, .invokevirtual 176, 3, 49, 0), (49, .istore 4, 2, 51, 0), (51, .iload_n 3, 1, 52, 0), (52, .ifCond .ne 7, 3, 55, 59), (55, .iconst 1, 1, 56, 0), (56, .goto 4, 3, 59, 60), (59, .iconst 0, 1, 60, 0), (60, .istore 5, 2, 62, 0), (62, .iconst 0, 1, 63, 0), (63, .istore 6, 2, 65, 0), (65, .iload 6, 2, 67, 0), (67, .aload_n 0, 1, 68, 0), (68, .getfield 156, 3, 71, 0), (71, .if_icmp .ge 64, 3, 74, 135), (74, .iload 5, 2, 76, 0), (76, .ifCond .ne 59, 3, 79, 135), (79, .iload 4, 2, 81, 0), (81, .ifCond .lt 54, 3, 84, 135), (84, .aload_n 0, 1, 85, 0), (85, .getfield 48, 3, 88, 0), (88, .iload 6, 2, 90, 0), (90, .iaload, 1, 91, 0), (91, .aload_n 0, 1, 92, 0), (92, .getfield 45, 3, 95, 0), (95, .iload 6, 2, 97, 0), (97, .iaload, 1, 98, 0), (98, .if_icmp .ge 7, 3, 101, 105), (101, .iconst 1, 1, 102, 0), (102, .goto 25, 3, 105, 127), (105, .aload_n 0, 1, 106, 0), (106, .getfield 48, 3, 109, 0), (109, .iload 6, 2, 111, 0), (111, .iaload, 1, 112, 0), (112, .aload_n 0, 1, 113, 0), (113, .getfield 45, 3, 116, 0), (116, .iload 6, 2, 118, 0), (118, .iaload, 1, 119, 0), (119, .if_icmp .le 7, 3, 122, 126), (122, .iconst (-1), 1, 123, 0), (123, .goto 4, 3, 126, 127), (126, .iconst 0, 1, 127, 0), (127, .istore 5, 2, 129, 0), (129, .iinc 6 1, 3, 132, 0), (132, .goto (-67), 3, 135, 65), (135, .iconst 0, 1, 136, 0), (136, .istore 6, 2, 138, 0), (138, .iload 6, 2, 140, 0), (140, .aload_n 0, 1, 141, 0), (141, .getfield 156, 3, 144, 0), (144, .if_icmp .ge 29, 3, 147, 173), (147, .iload 5, 2, 149, 0), (149, .iconst 1, 1, 150, 0), (150, .if_icmp .ne 23, 3, 153, 173), (153, .aload_n 0, 1, 154, 0), (154, .getfield 45, 3, 157, 0), (157, .iload 6, 2, 159, 0), (159, .aload_n 0, 1, 160, 0), (160, .getfield 48, 3, 163, 0), (163, .iload 6, 2, 165, 0), (165, .iaload, 1, 166, 0), (166, .iastore, 1, 167, 0), (167, .iinc 6 1, 3, 170, 0), (170, .goto (-32), 3, 173, 138), (173, .iinc 3 1, 3, 176, 0), (176, .goto (-140), 3, 179, 36), (179, .aload_n 0, 1, 180, 0), (180, .getfield 45, 3, 183, 0), (183, .iload_n 2, 1, 184, 0), (184, .iaload, 1, 185, 0), (185, .ireturn, 1, 186, 0)])
theorem kX11_words : okc cX11_words (tb mX11_words) = true := by decide +kernel
def mX11_known : MD := (yX11_known, cX11_known, 2, none, (1, 23), [(0, .aload_n 0, 1, 1, 0), (1, .getfield 166, 3, 4, 0), (4, .bipush 16, 2, 6, 0), (6, .if_icmp .ne 40, 3, 9, 46), (9, .bipush 92, 2, 11, 0), (11, .istore_n 1, 1, 12, 0), (12, .iload_n 1, 1, 13, 0), (13, .sipush 1472, 3, 16, 0), (16, .if_icmp .ge 24, 3, 19, 40), (19, .aload_n 0, 1, 20, 0), (20, .getfield 7, 3, 23, 0), (23, .iload_n 1, 1, 24, 0), (24, .aload_n 0, 1, 25, 0), (25, .getfield 7, 3, 28, 0), (28, .iload_n 1, 1, 29, 0), (29, .bipush 92, 2, 31, 0), (31, .iadd, 1, 32, 0), (32, .iaload, 1, 33, 0), (33, .iastore, 1, 34, 0), (34, .iinc 1 1, 3, 37, 0), (37, .goto (-25), 3, 40, 12), (40, .aload_n 0, 1, 41, 0), (41, .bipush 15, 2, 43, 0), (43, .putfield 166, 3, 46, 0), (46, .aload_n 0, 1, 47, 0), (47, .dup, 1, 48, 0), (48, .getfield 166, 3, 51, 0), (51, .iconst 1, 1, 52, 0), (52, .iadd, 1, 53, 0), (53, .putfield 166, 3, 56, 0), (56, .aload_n 0, 1, 57, 0), (57, .iconst 0, 1, 58, 0), (58, .aload_n 0, 1, 59, 0), (59, .getfield 166, 3, 62, 0), (62, .invokevirtual 276, 3, 65, 0), (65, .return_, 1, 66, 0)])
theorem kX11_known : okc cX11_known (tb mX11_known) = true := by decide +kernel
def mX11_shake : MD := (yX11_shake, cX11_shake, 4, (some .int), (4, 85), [(0, .aload_n 0, 1, 1, 0), (1, .iload_n 1, 1, 2, 0), (2, .invokevirtual 206, 3, 5, 0), (5, .ifCond .eq 21, 3, 8, 26), (8, .aload_n 0, 1, 9, 0), (9, .iload_n 1, 1, 10, 0), (10, .iload_n 2, 1, 11, 0), (11, .invokevirtual 264, 3, 14, 0), (14, .ifCond .eq 12, 3, 17, 26), (17, .aload_n 0, 1, 18, 0), (18, .iload_n 1, 1, 19, 0), (19, .iload_n 3, 1, 20, 0), (20, .invokevirtual 264, 3, 23, 0), (23, .ifCond .ne 6, 3, 26, 29), (26, .ldc 210, 2, 28, 0), (28, .ireturn, 1, 29, 0), (29, .aload_n 0, 1, 30, 0), (30, .iload_n 1, 1, 31, 0), (31, .invokevirtual 211, 3, 34, 0), (34, .aload_n 0, 1, 35, 0), (35, .sipush 255, 3, 38, 0), (38, .invokevirtual 185, 3, 41, 0), (41, .aload_n 0, 1, 42, 0), (42, .sipush 255, 3, 45, 0), (45, .aload_n 0, 1, 46, 0), (46, .getfield 159, 3, 49, 0), (49, .iload_n 2, 1, 50, 0), (50, .iload_n 3, 1, 51, 0), (51, .invokevirtual 188, 3, 54, 0), (54, .ifCond .ne 7, 3, 57, 61), (57, .ldc_w 279, 3, 60, 0), (60, .ireturn, 1, 61, 0), (61, .aload_n 0, 1, 62, 0), (62, .invokevirtual 280, 3, 65, 0), (65, .aload_n 0, 1, 66, 0), (66, .iconst 1, 1, 67, 0), (67, .iload_n 2, 1, 68, 0), (68, .ishl, 1, 69, 0), (69, .iconst 1, 1, 70, 0), (70, .iload_n 3, 1, 71, 0), (71, .ishl, 1, 72, 0), (72, .ior, 1, 73, 0), (73, .invokevirtual 283, 3, 76, 0), (76, .aload_n 0, 1, 77, 0), (77, .iload_n 1, 1, 78, 0), (78, .invokevirtual 162, 3, 81, 0), (81, .aload_n 0, 1, 82, 0), (82, .iload_n 1, 1, 83, 0), (83, .invokevirtual 92, 3, 86, 0), (86, .ireturn, 1, 87, 0)])
theorem kX11_shake : okc cX11_shake (tb mX11_shake) = true := by decide +kernel
def mX11_curls : MD := (yX11_curls, cX11_curls, 6, none, (3, 71), [(0, .aload_n 0, 1, 1, 0), (1, .iload_n 1, 1, 2, 0), (2, .invokevirtual 211, 3, 5, 0), (5, .aload_n 0, 1, 6, 0), (6, .getfield 156, 3, 9, 0), (9, .iconst 2, 1, 10, 0), (10, .idiv, 1, 11, 0), (11, .istore 4, 2, 13, 0), (13, .aload_n 0, 1, 14, 0), (14, .getfield 156, 3, 17, 0), (17, .iconst 1, 1, 18, 0), (18, .isub, 1, 19, 0), (19, .istore 5, 2, 21, 0), (21, .iload 5, 2, 23, 0), (23, .iload_n 2, 1, 24, 0), (24, .if_icmp .lt 25, 3, 27, 49), (27, .aload_n 0, 1, 28, 0), (28, .getfield 42, 3, 31, 0), (31, .iload 5, 2, 33, 0), (33, .iconst 2, 1, 34, 0), (34, .iadd, 1, 35, 0), (35, .aload_n 0, 1, 36, 0), (36, .getfield 42, 3, 39, 0), (39, .iload 5, 2, 41, 0), (41, .iaload, 1, 42, 0), (42, .iastore, 1, 43, 0), (43, .iinc 5 (-1), 3, 46, 0), (46, .goto (-25), 3, 49, 21), (49, .aload_n 0, 1, 50, 0), (50, .getfield 42, 3, 53, 0), (53, .iload_n 2, 1, 54, 0), (54, .iconst 2, 1, 55, 0), (55, .iload 4, 2, 57, 0), (57, .imul, 1, 58, 0), (58, .iload_n 3, 1, 59, 0), (59, .ifCond .eq 7, 3, 62, 66), (62, .iconst 1, 1, 63, 0), (63, .goto 4, 3, 66, 67), (66, .iconst 0, 1, 67, 0), (67, .iadd, 1, 68, 0), (68, .iastore, 1, 69, 0), (69, .aload_n 0, 1, 70, 0), (70, .getfield 42, 3, 73, 0), (73, .iload_n 2, 1, 74, 0), (74, .iconst 1, 1, 75, 0), (75, .iadd, 1, 76, 0), (76, .iconst 2, 1, 77, 0), (77, .iload 4, 2, 79, 0), (79, .imul, 1, 80, 0), (80, .iload_n 3, 1, 81, 0), (81, .ifCond .eq 7, 3, 84, 88), (84, .iconst 0, 1, 85, 0), (85, .goto 4, 3, 88, 89), (88, .iconst 1, 1, 89, 0), (89, .iadd, 1, 90, 0), (90, .iastore, 1, 91, 0), (91, .aload_n 0, 1, 92, 0), (92, .dup, 1, 93, 0), (93, .getfield 156, 3, 96, 0), (96, .iconst 2, 1, 97, 0), (97, .iadd, 1, 98, 0), (98, .putfield 156, 3, 101, 0), (101, .aload_n 0, 1, 102, 0), (102, .iload_n 1, 1, 103, 0), (103, .invokevirtual 162, 3, 106, 0), (106, .return_, 1, 107, 0)])
theorem kX11_curls : okc cX11_curls (tb mX11_curls) = true := by decide +kernel
def mX11_curl : MD := (yX11_curl, cX11_curl, 4, (some .int), (4, 96), [(0, .aload_n 0, 1, 1, 0), (1, .iload_n 1, 1, 2, 0), (2, .invokevirtual 206, 3, 5, 0), (5, .ifCond .ne 6, 3, 8, 11), (8, .ldc 210, 2, 10, 0), (10, .ireturn, 1, 11, 0), (11, .iload_n 2, 1, 12, 0), (12, .i2l, 1, 13, 0), (13, .lconst 0, 1, 14, 0), (14, .aload_n 0, 1, 15, 0), (15, .iload_n 1, 1, 16, 0), (16, .invokevirtual 89, 3, 19, 0), (19, .i2l, 1, 20, 0), (20, .invokestatic 81, 3, 23, 0), (23, .ifCond .ne 6, 3, 26, 29), (26, .ldc 97, 2, 28, 0), (28, .ireturn, 1, 29, 0), (29, .aload_n 0, 1, 30, 0), (30, .iload_n 1, 1, 31, 0), (31, .invokevirtual 92, 3, 34, 0), (34, .bipush 8, 2, 36, 0), (36, .if_icmp .ne 6, 3, 39, 42), (39, .ldc 101, 2, 41, 0), (41, .ireturn, 1, 42, 0), (42, .aload_n 0, 1, 43, 0), (43, .invokevirtual 280, 3, 46, 0), (46, .aload_n 0, 1, 47, 0), (47, .iload_n 1, 1, 48, 0), (48, .iload_n 2, 1, 49, 0), (49, .iload_n 3, 1, 50, 0), (50, .invokevirtual 286, 3, 53, 0), (53, .aload_n 0, 1, 54, 0), (54, .iload_n 1, 1, 55, 0), (55, .invokevirtual 92, 3, 58, 0), (58, .ireturn, 1, 59, 0)])
theorem kX11_curl : okc cX11_curl (tb mX11_curl) = true := by decide +kernel
def mX11_turn : MD := (yX11_turn, cX11_turn, 3, (some .int), (4, 85), [(0, .aload_n 0, 1, 1, 0), (1, .iload_n 1, 1, 2, 0), (2, .invokevirtual 206, 3, 5, 0), (5, .ifCond .eq 12, 3, 8, 17), (8, .aload_n 0, 1, 9, 0), (9, .iload_n 1, 1, 10, 0), (10, .iload_n 2, 1, 11, 0), (11, .invokevirtual 264, 3, 14, 0), (14, .ifCond .ne 6, 3, 17, 20), (17, .ldc 210, 2, 19, 0), (19, .ireturn, 1, 20, 0), (20, .aload_n 0, 1, 21, 0), (21, .invokevirtual 280, 3, 24, 0), (24, .aload_n 0, 1, 25, 0), (25, .iload_n 1, 1, 26, 0), (26, .invokevirtual 211, 3, 29, 0), (29, .aload_n 0, 1, 30, 0), (30, .iconst 1, 1, 31, 0), (31, .iload_n 2, 1, 32, 0), (32, .ishl, 1, 33, 0), (33, .invokevirtual 239, 3, 36, 0), (36, .aload_n 0, 1, 37, 0), (37, .iload_n 1, 1, 38, 0), (38, .invokevirtual 162, 3, 41, 0), (41, .aload_n 0, 1, 42, 0), (42, .iload_n 1, 1, 43, 0), (43, .invokevirtual 211, 3, 46, 0), (46, .aload_n 0, 1, 47, 0), (47, .iconst 3, 1, 48, 0), (48, .invokevirtual 252, 3, 51, 0), (51, .ireturn, 1, 52, 0)])
theorem kX11_turn : okc cX11_turn (tb mX11_turn) = true := by decide +kernel
def mX11_reverse : MD := (yX11_reverse, cX11_reverse, 2, (some .int), (3, 71), [(0, .aload_n 0, 1, 1, 0), (1, .iload_n 1, 1, 2, 0), (2, .invokevirtual 206, 3, 5, 0), (5, .ifCond .ne 6, 3, 8, 11), (8, .ldc 210, 2, 10, 0), (10, .ireturn, 1, 11, 0), (11, .aload_n 0, 1, 12, 0), (12, .invokevirtual 280, 3, 15, 0), (15, .aload_n 0, 1, 16, 0), (16, .iload_n 1, 1, 17, 0), (17, .invokevirtual 211, 3, 20, 0), (20, .aload_n 0, 1, 21, 0), (21, .invokevirtual 270, 3, 24, 0), (24, .aload_n 0, 1, 25, 0), (25, .iload_n 1, 1, 26, 0), (26, .invokevirtual 162, 3, 29, 0), (29, .aload_n 0, 1, 30, 0), (30, .iload_n 1, 1, 31, 0), (31, .invokevirtual 92, 3, 34, 0), (34, .ireturn, 1, 35, 0)])
theorem kX11_reverse : okc cX11_reverse (tb mX11_reverse) = true := by decide +kernel
def mX11_mirror : MD := (yX11_mirror, cX11_mirror, 2, (some .int), (3, 71), [(0, .aload_n 0, 1, 1, 0), (1, .iload_n 1, 1, 2, 0), (2, .invokevirtual 206, 3, 5, 0), (5, .ifCond .ne 6, 3, 8, 11), (8, .ldc 210, 2, 10, 0), (10, .ireturn, 1, 11, 0), (11, .aload_n 0, 1, 12, 0), (12, .invokevirtual 280, 3, 15, 0), (15, .aload_n 0, 1, 16, 0), (16, .iload_n 1, 1, 17, 0), (17, .invokevirtual 211, 3, 20, 0), (20, .aload_n 0, 1, 21, 0), (21, .sipush 255, 3, 24, 0), (24, .invokevirtual 239, 3, 27, 0), (27, .aload_n 0, 1, 28, 0), (28, .iload_n 1, 1, 29, 0), (29, .invokevirtual 162, 3, 32, 0), (32, .aload_n 0, 1, 33, 0), (33, .iload_n 1, 1, 34, 0), (34, .invokevirtual 92, 3, 37, 0), (37, .ireturn, 1, 38, 0)])
theorem kX11_mirror : okc cX11_mirror (tb mX11_mirror) = true := by decide +kernel
def mX11_rolls : MD := (yX11_rolls, cX11_rolls, 4, none, (3, 71), [(0, .aload_n 0, 1, 1, 0), (1, .iload_n 1, 1, 2, 0), (2, .invokevirtual 211, 3, 5, 0), (5, .aload_n 0, 1, 6, 0), (6, .getfield 42, 3, 9, 0), (9, .iconst 0, 1, 10, 0), (10, .iaload, 1, 11, 0), (11, .istore_n 2, 1, 12, 0), (12, .iconst 1, 1, 13, 0), (13, .istore_n 3, 1, 14, 0), (14, .iload_n 3, 1, 15, 0), (15, .aload_n 0, 1, 16, 0), (16, .getfield 156, 3, 19, 0), (19, .if_icmp .ge 23, 3, 22, 42), (22, .aload_n 0, 1, 23, 0), (23, .getfield 42, 3, 26, 0), (26, .iload_n 3, 1, 27, 0), (27, .iconst 1, 1, 28, 0), (28, .isub, 1, 29, 0), (29, .aload_n 0, 1, 30, 0), (30, .getfield 42, 3, 33, 0), (33, .iload_n 3, 1, 34, 0), (34, .iaload, 1, 35, 0), (35, .iastore, 1, 36, 0), (36, .iinc 3 1, 3, 39, 0), (39, .goto (-25), 3, 42, 14), (42, .aload_n 0, 1, 43, 0), (43, .getfield 42, 3, 46, 0), (46, .aload_n 0, 1, 47, 0), (47, .getfield 156, 3, 50, 0), (50, .ifCond .le 12, 3, 53, 62), (53, .aload_n 0, 1, 54, 0), (54, .getfield 156, 3, 57, 0), (57, .iconst 1, 1, 58, 0), (58, .isub, 1, 59, 0), (59, .goto 4, 3, 62, 63), (62, .iconst 0, 1, 63, 0), (63, .iload_n 2, 1, 64, 0), (64, .iastore, 1, 65, 0), (65, .aload_n 0, 1, 66, 0), (66, .iload_n 1, 1, 67, 0), (67, .invokevirtual 162, 3, 70, 0), (70, .return_, 1, 71, 0)])
theorem kX11_rolls : okc cX11_rolls (tb mX11_rolls) = true := by decide +kernel
def mX11_roll : MD := (yX11_roll, cX11_roll, 2, (some .int), (4, 94), [(0, .aload_n 0, 1, 1, 0), (1, .iload_n 1, 1, 2, 0), (2, .invokevirtual 206, 3, 5, 0), (5, .ifCond .ne 6, 3, 8, 11), (8, .ldc 210, 2, 10, 0), (10, .ireturn, 1, 11, 0), (11, .aload_n 0, 1, 12, 0), (12, .invokevirtual 280, 3, 15, 0), (15, .aload_n 0, 1, 16, 0), (16, .iload_n 1, 1, 17, 0), (17, .invokevirtual 290, 3, 20, 0), (20, .aload_n 0, 1, 21, 0), (21, .iload_n 1, 1, 22, 0), (22, .iconst 0, 1, 23, 0), (23, .invokevirtual 293, 3, 26, 0), (26, .ireturn, 1, 27, 0)])
theorem kX11_roll : okc cX11_roll (tb mX11_roll) = true := by decide +kernel
def mX11_join : MD := (yX11_join, cX11_join, 5, (some .int), (3, 71), [(0, .aload_n 0, 1, 1, 0), (1, .iload_n 1, 1, 2, 0), (2, .iload_n 2, 1, 3, 0), (3, .invokevirtual 267, 3, 6, 0), (6, .ifCond .ne 6, 3, 9, 12), (9, .ldc 210, 2, 11, 0), (11, .ireturn, 1, 12, 0), (12, .aload_n 0, 1, 13, 0), (13, .iload_n 1, 1, 14, 0), (14, .invokevirtual 92, 3, 17, 0), (17, .aload_n 0, 1, 18, 0), (18, .iload_n 2, 1, 19, 0), (19, .invokevirtual 92, 3, 22, 0), (22, .iadd, 1, 23, 0), (23, .bipush 8, 2, 25, 0), (25, .if_icmp .le 6, 3, 28, 31), (28, .ldc 101, 2, 30, 0), (30, .ireturn, 1, 31, 0), (31, .aload_n 0, 1, 32, 0), (32, .invokevirtual 280, 3, 35, 0), (35, .aload_n 0, 1, 36, 0), (36, .iload_n 1, 1, 37, 0), (37, .invokevirtual 211, 3, 40, 0), (40, .aload_n 0, 1, 41, 0), (41, .getfield 156, 3, 44, 0), (44, .istore_n 3, 1, 45, 0), (45, .iconst 0, 1, 46, 0), (46, .istore 4, 2, 48, 0), (48, .iload 4, 2, 50, 0), (50, .aload_n 0, 1, 51, 0), (51, .iload_n 2, 1, 52, 0), (52, .invokevirtual 89, 3, 55, 0), (55, .if_icmp .ge 35, 3, 58, 90), (58, .aload_n 0, 1, 59, 0), (59, .getfield 42, 3, 62, 0), (62, .iload_n 3, 1, 63, 0), (63, .iload 4, 2, 65, 0), (65, .iadd, 1, 66, 0), (66, .aload_n 0, 1, 67, 0), (67, .getfield 7, 3, 70, 0), (70, .aload_n 0, 1, 71, 0), (71, .iload_n 2, 1, 72, 0), (72, .invokevirtual 85, 3, 75, 0), (75, .iconst 2, 1, 76, 0), (76, .iadd, 1, 77, 0), (77, .iload 4, 2, 79, 0), (79, .iadd, 1, 80, 0), (80, .iaload, 1, 81, 0), (81, .iload_n 3, 1, 82, 0), (82, .iadd, 1, 83, 0), (83, .iastore, 1, 84, 0), (84, .iinc 4 1, 3, 87, 0), (87, .goto (-39), 3, 90, 48), (90, .aload_n 0, 1, 91, 0), (91, .iload_n 3, 1, 92, 0), (92, .aload_n 0, 1, 93, 0), (93, .iload_n 2, 1, 94, 0), (94, .invokevirtual 89, 3, 97, 0), (97, .iadd, 1, 98, 0), (98, .putfield 156, 3, 101, 0), (101, .aload_n 0, 1, 102, 0), (102, .dup, 1, 103, 0), (103, .getfield 159, 3, 106, 0), (106, .aload_n 0, 1, 107, 0), (107, .getfield 7, 3, 110, 0), (110, .aload_n 0, 1, 111, 0), (111, .iload_n 2, 1, 112, 0), (112, .invokevirtual 85, 3, 115, 0), (115, .iconst 1, 1, 116, 0), (116, .iadd, 1, 117, 0), (117, .iaload, 1, 118, 0), (118, .iload_n 3, 1, 119, 0), (119, .iconst 2, 1, 120, 0), (120, .idiv, 1, 121, 0), (121, .ishl, 1, 122, 0), (122, .ior, 1, 123, 0), (123, .putfield 159, 3, 126, 0), (126, .aload_n 0, 1, 127, 0), (127, .iload_n 1, 1, 128, 0), (128, .invokevirtual 162, 3, 131, 0), (131, .aload_n 0, 1, 132, 0), (132, .iconst 0, 1, 133, 0), (133, .putfield 156, 3, 136, 0), (136, .aload_n 0, 1, 137, 0), (137, .iconst 0, 1, 138, 0), (138, .putfield 159, 3, 141, 0), (141, .aload_n 0, 1, 142, 0), (142, .iload_n 2, 1, 143, 0), (143, .invokevirtual 162, 3, 146, 0), (146, .aload_n 0, 1, 147, 0), (147, .iload_n 1, 1, 148, 0), (148, .invokevirtual 92, 3, 151, 0), (151, .ireturn, 1, 152, 0)])
theorem kX11_join : okc cX11_join (tb mX11_join) = true := by decide +kernel
def mX11_salt : MD := (yX11_salt, cX11_salt, 5, (some .int), (4, 85), [(0, .aload_n 0, 1, 1, 0), (1, .iload_n 1, 1, 2, 0), (2, .invokevirtual 206, 3, 5, 0), (5, .ifCond .eq 12, 3, 8, 17), (8, .aload_n 0, 1, 9, 0), (9, .iload_n 1, 1, 10, 0), (10, .iload_n 2, 1, 11, 0), (11, .invokevirtual 264, 3, 14, 0), (14, .ifCond .ne 6, 3, 17, 20), (17, .ldc 210, 2, 19, 0), (19, .ireturn, 1, 20, 0), (20, .aload_n 0, 1, 21, 0), (21, .iload_n 1, 1, 22, 0), (22, .invokevirtual 85, 3, 25, 0), (25, .iconst 1, 1, 26, 0), (26, .iadd, 1, 27, 0), (27, .istore 4, 2, 29, 0), (29, .aload_n 0, 1, 30, 0), (30, .getfield 7, 3, 33, 0), (33, .iload 4, 2, 35, 0), (35, .iaload, 1, 36, 0), (36, .iload_n 2, 1, 37, 0), (37, .invokestatic 172, 3, 40, 0), (40, .iload_n 3, 1, 41, 0), (41, .if_icmp .eq 16, 3, 44, 57), (44, .iload_n 3, 1, 45, 0), (45, .ifCond .eq 16, 3, 48, 61), (48, .aload_n 0, 1, 49, 0), (49, .getfield 7, 3, 52, 0), (52, .iconst 0, 1, 53, 0), (53, .iaload, 1, 54, 0), (54, .ifCond .ne 7, 3, 57, 61), (57, .ldc_w 279, 3, 60, 0), (60, .ireturn, 1, 61, 0), (61, .aload_n 0, 1, 62, 0), (62, .invokevirtual 280, 3, 65, 0), (65, .aload_n 0, 1, 66, 0), (66, .getfield 7, 3, 69, 0), (69, .iload 4, 2, 71, 0), (71, .dup2, 1, 72, 0), (72, .iaload, 1, 73, 0), (73, .iconst 1, 1, 74, 0), (74, .iload_n 2, 1, 75, 0), (75, .ishl, 1, 76, 0), (76, .ixor, 1, 77, 0), (77, .iastore, 1, 78, 0), (78, .aload_n 0, 1, 79, 0), (79, .getfield 7, 3, 82, 0), (82, .iconst 0, 1, 83, 0), (83, .dup2, 1, 84, 0), (84, .iaload, 1, 85, 0), (85, .iload_n 3, 1, 86, 0), (86, .ifCond .eq 7, 3, 89, 93), (89, .iconst (-1), 1, 90, 0), (90, .goto 4, 3, 93, 94), (93, .iconst 1, 1, 94, 0), (94, .iadd, 1, 95, 0), (95, .iastore, 1, 96, 0), (96, .aload_n 0, 1, 97, 0), (97, .getfield 7, 3, 100, 0), (100, .iconst 0, 1, 101, 0), (101, .iaload, 1, 102, 0), (102, .ireturn, 1, 103, 0)])
theorem kX11_salt : okc cX11_salt (tb mX11_salt) = true := by decide +kernel
def mX11_draw : MD := (yX11_draw, cX11_draw, 2, (some .int), (0, 0), [(0, .aload_n 0, 1, 1, 0), (1, .aload_n 0, 1, 2, 0), (2, .getfield 78, 3, 5, 0), (5, .i2l, 1, 6, 0), (6, .ldc2_w 296, 3, 9, 0), (9, .lmul, 1, 10, 0), (10, .ldc2_w 298, 3, 13, 0), (13, .ladd, 1, 14, 0), (14, .ldc2_w 300, 3, 17, 0), (17, .lrem, 1, 18, 0), (18, .l2i, 1, 19, 0), (19, .putfield 78, 3, 22, 0), (22, .aload_n 0, 1, 23, 0), (23, .getfield 78, 3, 26, 0), (26, .ldc_w 302, 3, 29, 0), (29, .idiv, 1, 30, 0), (30, .iload_n 1, 1, 31, 0), (31, .irem, 1, 32, 0), (32, .ireturn, 1, 33, 0)])
theorem kX11_draw : okc cX11_draw (tb mX11_draw) = true := by decide +kernel
def mX11_drifts : MD := (yX11_drifts, cX11_drifts, 5, none, (4, 96), [(0, .aload_n 0, 1, 1, 0), (1, .iconst 5, 1, 2, 0), (2, .invokevirtual 303, 3, 5, 0), (5, .istore_n 1, 1, 6, 0), (6, .aload_n 0, 1, 7, 0), (7, .aload_n 0, 1, 8, 0), (8, .getfield 7, 3, 11, 0), (11, .iconst 1, 1, 12, 0), (12, .iaload, 1, 13, 0), (13, .invokevirtual 303, 3, 16, 0), (16, .istore_n 2, 1, 17, 0), (17, .aload_n 0, 1, 18, 0), (18, .iload_n 2, 1, 19, 0), (19, .invokevirtual 211, 3, 22, 0), (22, .aload_n 0, 1, 23, 0), (23, .iconst 0, 1, 24, 0), (24, .invokevirtual 214, 3, 27, 0), (27, .istore_n 3, 1, 28, 0), (28, .iload_n 1, 1, 29, 0), (29, .ifCond .ne 32, 3, 32, 61), (32, .iload_n 3, 1, 33, 0), (33, .ifCond .lt 28, 3, 36, 61), (36, .aload_n 0, 1, 37, 0), (37, .iconst 1, 1, 38, 0), (38, .iload_n 3, 1, 39, 0), (39, .bipush 10, 2, 41, 0), (41, .idiv, 1, 42, 0), (42, .ishl, 1, 43, 0), (43, .iconst 1, 1, 44, 0), (44, .iload_n 3, 1, 45, 0), (45, .bipush 10, 2, 47, 0), (47, .irem, 1, 48, 0), (48, .ishl, 1, 49, 0), (49, .ior, 1, 50, 0), (50, .invokevirtual 283, 3, 53, 0), (53, .aload_n 0, 1, 54, 0), (54, .iload_n 2, 1, 55, 0), (55, .invokevirtual 162, 3, 58, 0), (58, .goto 116, 3, 61, 174), (61, .iload_n 1, 1, 62, 0), (62, .iconst 1, 1, 63, 0), (63, .if_icmp .ne 48, 3, 66, 111), (66, .aload_n 0, 1, 67, 0), (67, .getfield 156, 3, 70, 0), (70, .bipush 16, 2, 72, 0), (72, .if_icmp .ge 39, 3, 75, 111), (75, .aload_n 0, 1, 76, 0), (76, .aload_n 0, 1, 77, 0), (77, .getfield 156, 3, 80, 0), (80, .iconst 1, 1, 81, 0), (81, .iadd, 1, 82, 0), (82, .invokevirtual 303, 3, 85, 0), (85, .istore 4, 2, 87, 0), (87, .aload_n 0, 1, 88, 0), (88, .iload_n 2, 1, 89, 0), (89, .iload 4, 2, 91, 0), (91, .aload_n 0, 1, 92, 0), (92, .iconst 2, 1, 93, 0), (93, .invokevirtual 303, 3, 96, 0), (96, .iconst 1, 1, 97, 0), (97, .if_icmp .ne 7, 3, 100, 104), (100, .iconst 1, 1, 101, 0), (101, .goto 4, 3, 104, 105), (104, .iconst 0, 1, 105, 0), (105, .invokevirtual 286, 3, 108, 0), (108, .goto 66, 3, 111, 174), (111, .iload_n 1, 1, 112, 0), (112, .iconst 2, 1, 113, 0), (113, .if_icmp .ne 34, 3, 116, 147), (116, .aload_n 0, 1, 117, 0), (117, .getfield 156, 3, 120, 0), (120, .ifCond .le 27, 3, 123, 147), (123, .aload_n 0, 1, 124, 0), (124, .iconst 1, 1, 125, 0), (125, .aload_n 0, 1, 126, 0), (126, .aload_n 0, 1, 127, 0), (127, .getfield 156, 3, 130, 0), (130, .iconst 2, 1, 131, 0), (131, .idiv, 1, 132, 0), (132, .invokevirtual 303, 3, 135, 0), (135, .ishl, 1, 136, 0), (136, .invokevirtual 239, 3, 139, 0), (139, .aload_n 0, 1, 140, 0), (140, .iload_n 2, 1, 141, 0), (141, .invokevirtual 162, 3, 144, 0), (144, .goto 30, 3, 147, 174), (147, .iload_n 1, 1, 148, 0), (148, .iconst 3, 1, 149, 0), (149, .if_icmp .ne 15, 3, 152, 164), (152, .aload_n 0, 1, 153, 0), (153, .invokevirtual 270, 3, 156, 0), (156, .aload_n 0, 1, 157, 0), (157, .iload_n 2, 1, 158, 0), (158, .invokevirtual 162, 3, 161, 0), (161, .goto 13, 3, 164, 174), (164, .iload_n 1, 1, 165, 0), (165, .iconst 4, 1, 166, 0), (166, .if_icmp .ne 8, 3, 169, 174), (169, .aload_n 0, 1, 170, 0), (170, .iload_n 2, 1, 171, 0), (171, .invokevirtual 290, 3, 174, 0), (174, .return_, 1, 175, 0)])
theorem kX11_drifts : okc cX11_drifts (tb mX11_drifts) = true := by decide +kernel
def mX11_drift : MD := (yX11_drift, cX11_drift, 3, (some .int), (5, 125), [(0, .iload_n 1, 1, 1, 0), (1, .i2l, 1, 2, 0), (2, .lconst 1, 1, 3, 0), (3, .ldc2_w 306, 3, 6, 0), (6, .invokestatic 81, 3, 9, 0), (9, .ifCond .ne 6, 3, 12, 15), (12, .ldc 97, 2, 14, 0), (14, .ireturn, 1, 15, 0), (15, .aload_n 0, 1, 16, 0), (16, .getfield 149, 3, 19, 0), (19, .ifCond .ne 7, 3, 22, 26), (22, .ldc_w 279, 3, 25, 0), (25, .ireturn, 1, 26, 0), (26, .aload_n 0, 1, 27, 0), (27, .invokevirtual 280, 3, 30, 0), (30, .iconst 0, 1, 31, 0), (31, .istore_n 2, 1, 32, 0), (32, .iload_n 2, 1, 33, 0), (33, .iload_n 1, 1, 34, 0), (34, .if_icmp .ge 22, 3, 37, 56), (37, .aload_n 0, 1, 38, 0), (38, .getfield 7, 3, 41, 0), (41, .iconst 1, 1, 42, 0), (42, .iaload, 1, 43, 0), (43, .ifCond .le 13, 3, 46, 56), (46, .aload_n 0, 1, 47, 0), (47, .invokevirtual 308, 3, 50, 0), (50, .iinc 2 1, 3, 53, 0), (53, .goto (-21), 3, 56, 32), (56, .aload_n 0, 1, 57, 0), (57, .iconst 3, 1, 58, 0), (58, .invokevirtual 311, 3, 61, 0), (61, .ireturn, 1, 62, 0)])
theorem kX11_drift : okc cX11_drift (tb mX11_drift) = true := by decide +kernel
def mX11_undo : MD := (yX11_undo, cX11_undo, 1, (some .int), (1, 23), [(0, .aload_n 0, 1, 1, 0), (1, .getfield 166, 3, 4, 0), (4, .ifCond .ne 7, 3, 7, 11), (7, .ldc_w 279, 3, 10, 0), (10, .ireturn, 1, 11, 0), (11, .aload_n 0, 1, 12, 0), (12, .aload_n 0, 1, 13, 0), (13, .getfield 166, 3, 16, 0), (16, .iconst 0, 1, 17, 0), (17, .invokevirtual 276, 3, 20, 0), (20, .aload_n 0, 1, 21, 0), (21, .dup, 1, 22, 0), (22, .getfield 166, 3, 25, 0), (25, .iconst 1, 1, 26, 0), (26, .isub, 1, 27, 0), (27, .putfield 166, 3, 30, 0), (30, .aload_n 0, 1, 31, 0), (31, .getfield 166, 3, 34, 0), (34, .ireturn, 1, 35, 0)])
theorem kX11_undo : okc cX11_undo (tb mX11_undo) = true := by decide +kernel
def mX11_whole : MD := (yX11_whole, cX11_whole, 6, (some .int), (1, 25), [(0, .iload_n 1, 1, 1, 0), (1, .i2l, 1, 2, 0), (2, .lconst 0, 1, 3, 0), (3, .ldc2_w 314, 3, 6, 0), (6, .invokestatic 81, 3, 9, 0), (9, .ifCond .eq 15, 3, 12, 24), (12, .iload_n 2, 1, 13, 0), (13, .i2l, 1, 14, 0), (14, .lconst 0, 1, 15, 0), (15, .ldc2_w 316, 3, 18, 0), (18, .invokestatic 81, 3, 21, 0), (21, .ifCond .ne 6, 3, 24, 27), (24, .ldc 97, 2, 26, 0), (26, .ireturn, 1, 27, 0), (27, .ldc2_w 318, 3, 30, 0), (30, .lstore_n 3, 1, 31, 0), (31, .iconst 0, 1, 32, 0), (32, .istore 5, 2, 34, 0), (34, .iload 5, 2, 36, 0), (36, .iload_n 1, 1, 37, 0), (37, .if_icmp .ge 18, 3, 40, 55), (40, .lload_n 3, 1, 41, 0), (41, .iload_n 2, 1, 42, 0), (42, .i2l, 1, 43, 0), (43, .lmul, 1, 44, 0), (44, .ldc2_w 316, 3, 47, 0), (47, .ldiv, 1, 48, 0), (48, .lstore_n 3, 1, 49, 0), (49, .iinc 5 1, 3, 52, 0), (52, .goto (-18), 3, 55, 34), (55, .lload_n 3, 1, 56, 0), (56, .l2i, 1, 57, 0), (57, .ireturn, 1, 58, 0)])
theorem kX11_whole : okc cX11_whole (tb mX11_whole) = true := by decide +kernel
def mX11_write : MD := (yX11_write, cX11_write, 3, (some .int), (2, 46), [(0, .aload_n 0, 1, 1, 0), (1, .iload_n 1, 1, 2, 0), (2, .invokevirtual 206, 3, 5, 0), (5, .ifCond .ne 6, 3, 8, 11), (8, .ldc 210, 2, 10, 0), (10, .ireturn, 1, 11, 0), (11, .iload_n 2, 1, 12, 0), (12, .i2l, 1, 13, 0), (13, .lconst 0, 1, 14, 0), (14, .ldc2_w 248, 3, 17, 0), (17, .invokestatic 81, 3, 20, 0), (20, .ifCond .ne 6, 3, 23, 26), (23, .ldc 97, 2, 25, 0), (25, .ireturn, 1, 26, 0), (26, .aload_n 0, 1, 27, 0), (27, .getfield 169, 3, 30, 0), (30, .bipush 15, 2, 32, 0), (32, .if_icmp .ne 6, 3, 35, 38), (35, .ldc 101, 2, 37, 0), (37, .ireturn, 1, 38, 0), (38, .aload_n 0, 1, 39, 0), (39, .getfield 36, 3, 42, 0), (42, .aload_n 0, 1, 43, 0), (43, .getfield 169, 3, 46, 0), (46, .iload_n 1, 1, 47, 0), (47, .iastore, 1, 48, 0), (48, .aload_n 0, 1, 49, 0), (49, .getfield 39, 3, 52, 0), (52, .aload_n 0, 1, 53, 0), (53, .getfield 169, 3, 56, 0), (56, .iload_n 2, 1, 57, 0), (57, .iastore, 1, 58, 0), (58, .aload_n 0, 1, 59, 0), (59, .dup, 1, 60, 0), (60, .getfield 169, 3, 63, 0), (63, .iconst 1, 1, 64, 0), (64, .iadd, 1, 65, 0), (65, .putfield 169, 3, 68, 0), (68, .aload_n 0, 1, 69, 0), (69, .getfield 169, 3, 72, 0), (72, .ireturn, 1, 73, 0)])
theorem kX11_write : okc cX11_write (tb mX11_write) = true := by decide +kernel
def mX11_tear : MD := (yX11_tear, cX11_tear, 2, (some .int), (0, 0), [(0, .aload_n 0, 1, 1, 0), (1, .getfield 169, 3, 4, 0), (4, .istore_n 1, 1, 5, 0), (5, .aload_n 0, 1, 6, 0), (6, .iconst 0, 1, 7, 0), (7, .putfield 169, 3, 10, 0), (10, .iload_n 1, 1, 11, 0), (11, .ireturn, 1, 12, 0)])
theorem kX11_tear : okc cX11_tear (tb mX11_tear) = true := by decide +kernel
def mX11_judge : MD := (yX11_judge, cX11_judge, 2, (some .int), (3, 63), [(0, .iconst 0, 1, 1, 0), (1, .istore_n 1, 1, 2, 0), (2, .iload_n 1, 1, 3, 0), (3, .aload_n 0, 1, 4, 0), (4, .getfield 169, 3, 7, 0), (7, .if_icmp .ge 43, 3, 10, 50), (10, .aload_n 0, 1, 11, 0), (11, .aload_n 0, 1, 12, 0), (12, .getfield 36, 3, 15, 0), (15, .iload_n 1, 1, 16, 0), (16, .iaload, 1, 17, 0), (17, .invokevirtual 206, 3, 20, 0), (20, .ifCond .eq 22, 3, 23, 42), (23, .aload_n 0, 1, 24, 0), (24, .aload_n 0, 1, 25, 0), (25, .getfield 36, 3, 28, 0), (28, .iload_n 1, 1, 29, 0), (29, .iaload, 1, 30, 0), (30, .invokevirtual 92, 3, 33, 0), (33, .aload_n 0, 1, 34, 0), (34, .getfield 39, 3, 37, 0), (37, .iload_n 1, 1, 38, 0), (38, .iaload, 1, 39, 0), (39, .if_icmp .eq 5, 3, 42, 44), (42, .iload_n 1, 1, 43, 0), (43, .ireturn, 1, 44, 0), (44, .iinc 1 1, 3, 47, 0), (47, .goto (-45), 3, 50, 2), (50, .iconst (-1), 1, 51, 0), (51, .ireturn, 1, 52, 0)])
theorem kX11_judge : okc cX11_judge (tb mX11_judge) = true := by decide +kernel
def mX11_seed : MD := (yX11_seed, cX11_seed, 3, (some .int), (0, 0), [(0, .iload_n 1, 1, 1, 0), (1, .ifCond .ge 6, 3, 4, 7), (4, .ldc 97, 2, 6, 0), (6, .ireturn, 1, 7, 0), (7, .aload_n 0, 1, 8, 0), (8, .getfield 78, 3, 11, 0), (11, .istore_n 2, 1, 12, 0), (12, .aload_n 0, 1, 13, 0), (13, .iload_n 1, 1, 14, 0), (14, .putfield 78, 3, 17, 0), (17, .iload_n 2, 1, 18, 0), (18, .ireturn, 1, 19, 0)])
theorem kX11_seed : okc cX11_seed (tb mX11_seed) = true := by decide +kernel
def mX11_keep : MD := (yX11_keep, cX11_keep, 2, (some .int), (1, 25), [(0, .iload_n 1, 1, 1, 0), (1, .i2l, 1, 2, 0), (2, .lconst 0, 1, 3, 0), (3, .lconst 1, 1, 4, 0), (4, .invokestatic 81, 3, 7, 0), (7, .ifCond .ne 6, 3, 10, 13), (10, .ldc 210, 2, 12, 0), (12, .ireturn, 1, 13, 0), (13, .aload_n 0, 1, 14, 0), (14, .iconst 0, 1, 15, 0), (15, .bipush 17, 2, 17, 0), (17, .iload_n 1, 1, 18, 0), (18, .iadd, 1, 19, 0), (19, .invokevirtual 276, 3, 22, 0), (22, .aload_n 0, 1, 23, 0), (23, .getfield 13, 3, 26, 0), (26, .iload_n 1, 1, 27, 0), (27, .aload_n 0, 1, 28, 0), (28, .getfield 78, 3, 31, 0), (31, .iastore, 1, 32, 0), (32, .aload_n 0, 1, 33, 0), (33, .getfield 16, 3, 36, 0), (36, .iload_n 1, 1, 37, 0), (37, .aload_n 0, 1, 38, 0), (38, .getfield 149, 3, 41, 0), (41, .ifCond .eq 7, 3, 44, 48), (44, .iconst 2, 1, 45, 0), (45, .goto 4, 3, 48, 49), (48, .iconst 1, 1, 49, 0), (49, .iastore, 1, 50, 0), (50, .aload_n 0, 1, 51, 0), (51, .iconst 0, 1, 52, 0), (52, .putfield 166, 3, 55, 0), (55, .iconst 1, 1, 56, 0), (56, .ireturn, 1, 57, 0)])
theorem kX11_keep : okc cX11_keep (tb mX11_keep) = true := by decide +kernel
def mX11_goBack : MD := (yX11_goBack, cX11_goBack, 2, (some .int), (1, 25), [(0, .iload_n 1, 1, 1, 0), (1, .i2l, 1, 2, 0), (2, .lconst 0, 1, 3, 0), (3, .lconst 1, 1, 4, 0), (4, .invokestatic 81, 3, 7, 0), (7, .ifCond .ne 6, 3, 10, 13), (10, .ldc 210, 2, 12, 0), (12, .ireturn, 1, 13, 0), (13, .aload_n 0, 1, 14, 0), (14, .getfield 16, 3, 17, 0), (17, .iload_n 1, 1, 18, 0), (18, .iaload, 1, 19, 0), (19, .ifCond .ne 7, 3, 22, 26), (22, .ldc_w 279, 3, 25, 0), (25, .ireturn, 1, 26, 0), (26, .aload_n 0, 1, 27, 0), (27, .bipush 17, 2, 29, 0), (29, .iload_n 1, 1, 30, 0), (30, .iadd, 1, 31, 0), (31, .iconst 0, 1, 32, 0), (32, .invokevirtual 276, 3, 35, 0), (35, .aload_n 0, 1, 36, 0), (36, .aload_n 0, 1, 37, 0), (37, .getfield 13, 3, 40, 0), (40, .iload_n 1, 1, 41, 0), (41, .iaload, 1, 42, 0), (42, .putfield 78, 3, 45, 0), (45, .aload_n 0, 1, 46, 0), (46, .aload_n 0, 1, 47, 0), (47, .getfield 16, 3, 50, 0), (50, .iload_n 1, 1, 51, 0), (51, .iaload, 1, 52, 0), (52, .iconst 2, 1, 53, 0), (53, .if_icmp .ne 7, 3, 56, 60), (56, .iconst 1, 1, 57, 0), (57, .goto 4, 3, 60, 61), (60, .iconst 0, 1, 61, 0), (61, .putfield 149, 3, 64, 0), (64, .aload_n 0, 1, 65, 0), (65, .iconst 0, 1, 66, 0), (66, .putfield 166, 3, 69, 0), (69, .iconst 1, 1, 70, 0), (70, .ireturn, 1, 71, 0)])
theorem kX11_goBack : okc cX11_goBack (tb mX11_goBack) = true := by decide +kernel
end
section
theorem ti_0 {w : Cond} (h : w ∈ tables_1) : w ∈ lw_tbl := List.mem_append_right _ h
theorem ti_1 {w : Cond} (h : w ∈ tables_1_1) : w ∈ lw_tbl := ti_0 (List.mem_append_left _ h)
theorem ti_2 {w : Cond} (h : w ∈ tables_1_2) : w ∈ lw_tbl := ti_0 (List.mem_append_right _ (List.mem_append_left _ h))
theorem ti_3 {w : Cond} (h : w ∈ tables_1_3) : w ∈ lw_tbl := ti_0 (List.mem_append_right _ (List.mem_append_right _ (List.mem_append_left _ h)))
theorem ti_4 {w : Cond} (h : w ∈ tables_1_4) : w ∈ lw_tbl := ti_0 (List.mem_append_right _ (List.mem_append_right _ (List.mem_append_right _ (List.mem_append_left _ h))))
theorem ti_5 {w : Cond} (h : w ∈ tables_1_5) : w ∈ lw_tbl := ti_0 (List.mem_append_right _ (List.mem_append_right _ (List.mem_append_right _ (List.mem_append_right _ (List.mem_append_left _ h)))))
theorem ti_6 {w : Cond} (h : w ∈ tables_1_6) : w ∈ lw_tbl := ti_0 (List.mem_append_right _ (List.mem_append_right _ (List.mem_append_right _ (List.mem_append_right _ (List.mem_append_right _ (h))))))
theorem sel_in {y : MethodName} {n : Nat} (h : (y, n) ∈ lw_privs) : Cond.selects y.cls y y ∈ lw_tbl := List.mem_append_left _ (List.mem_map.mpr ⟨(y, n), h, rfl⟩)
theorem fRX0_9 : fl RX0 9 0 0 := ⟨_, rfl, by decide, gd_in (ti_1 (List.mem_of_getElem? (i := 171) rfl)) rfl⟩
theorem fRX0_15 : fl RX0 15 0 1 := ⟨_, rfl, by decide, gd_in (ti_1 (List.mem_of_getElem? (i := 172) rfl)) rfl⟩
theorem fRX0_18 : fl RX0 18 0 2 := ⟨_, rfl, by decide, gd_in (ti_1 (List.mem_of_getElem? (i := 173) rfl)) rfl⟩
theorem fRX0_28 : fl RX0 28 6 2 := ⟨_, rfl, by decide, gd_in (ti_1 (List.mem_of_getElem? (i := 66) rfl)) rfl⟩
theorem fRX1_11 : fl RX1 11 1 0 := ⟨_, rfl, by decide, gd_in (ti_2 (List.mem_of_getElem? (i := 6) rfl)) rfl⟩
theorem fRX1_16 : fl RX1 16 1 1 := ⟨_, rfl, by decide, gd_in (ti_2 (List.mem_of_getElem? (i := 7) rfl)) rfl⟩
theorem fRX1_20 : fl RX1 20 1 2 := ⟨_, rfl, by decide, gd_in (ti_2 (List.mem_of_getElem? (i := 8) rfl)) rfl⟩
theorem fRX1_23 : fl RX1 23 1 3 := ⟨_, rfl, by decide, gd_in (ti_2 (List.mem_of_getElem? (i := 9) rfl)) rfl⟩
theorem fRX1_30 : fl RX1 30 1 5 := ⟨_, rfl, by decide, gd_in (ti_2 (List.mem_of_getElem? (i := 11) rfl)) rfl⟩
theorem fRX1_34 : fl RX1 34 1 4 := ⟨_, rfl, by decide, gd_in (ti_2 (List.mem_of_getElem? (i := 10) rfl)) rfl⟩
theorem fRX1_48 : fl RX1 48 6 2 := ⟨_, rfl, by decide, gd_in (ti_1 (List.mem_of_getElem? (i := 68) rfl)) rfl⟩
theorem fRX1_77 : fl RX1 77 6 1 := ⟨_, rfl, by decide, gd_in (ti_1 (List.mem_of_getElem? (i := 61) rfl)) rfl⟩
theorem fRX10_20 : fl RX10 20 10 0 := ⟨_, rfl, by decide, gd_in (ti_2 (List.mem_of_getElem? (i := 41) rfl)) rfl⟩
theorem fRX10_26 : fl RX10 26 10 1 := ⟨_, rfl, by decide, gd_in (ti_2 (List.mem_of_getElem? (i := 42) rfl)) rfl⟩
theorem fRX10_33 : fl RX10 33 10 2 := ⟨_, rfl, by decide, gd_in (ti_2 (List.mem_of_getElem? (i := 43) rfl)) rfl⟩
theorem fRX10_37 : fl RX10 37 10 3 := ⟨_, rfl, by decide, gd_in (ti_2 (List.mem_of_getElem? (i := 44) rfl)) rfl⟩
theorem fRX10_41 : fl RX10 41 10 4 := ⟨_, rfl, by decide, gd_in (ti_2 (List.mem_of_getElem? (i := 45) rfl)) rfl⟩
theorem fRX10_48 : fl RX10 48 10 5 := ⟨_, rfl, by decide, gd_in (ti_2 (List.mem_of_getElem? (i := 46) rfl)) rfl⟩
theorem fRX10_55 : fl RX10 55 10 6 := ⟨_, rfl, by decide, gd_in (ti_2 (List.mem_of_getElem? (i := 47) rfl)) rfl⟩
theorem fRX10_62 : fl RX10 62 10 7 := ⟨_, rfl, by decide, gd_in (ti_2 (List.mem_of_getElem? (i := 48) rfl)) rfl⟩
theorem fRX10_69 : fl RX10 69 10 8 := ⟨_, rfl, by decide, gd_in (ti_2 (List.mem_of_getElem? (i := 49) rfl)) rfl⟩
theorem fRX10_76 : fl RX10 76 10 9 := ⟨_, rfl, by decide, gd_in (ti_2 (List.mem_of_getElem? (i := 50) rfl)) rfl⟩
theorem fRX10_80 : fl RX10 80 10 12 := ⟨_, rfl, by decide, gd_in (ti_2 (List.mem_of_getElem? (i := 53) rfl)) rfl⟩
theorem fRX10_89 : fl RX10 89 5 4 := ⟨_, rfl, by decide, gd_in (ti_1 (List.mem_of_getElem? (i := 110) rfl)) rfl⟩
theorem fRX10_97 : fl RX10 97 5 10 := ⟨_, rfl, by decide, gd_in (ti_1 (List.mem_of_getElem? (i := 117) rfl)) rfl⟩
theorem fRX10_98 : fl RX10 98 5 1 := ⟨_, rfl, by decide, gd_in (ti_1 (List.mem_of_getElem? (i := 106) rfl)) rfl⟩
theorem fRX10_104 : fl RX10 104 5 11 := ⟨_, rfl, by decide, gd_in (ti_1 (List.mem_of_getElem? (i := 118) rfl)) rfl⟩
theorem fRX10_108 : fl RX10 108 10 10 := ⟨_, rfl, by decide, gd_in (ti_2 (List.mem_of_getElem? (i := 51) rfl)) rfl⟩
theorem fRX10_111 : fl RX10 111 0 2 := ⟨_, rfl, by decide, gd_in (ti_1 (List.mem_of_getElem? (i := 174) rfl)) rfl⟩
theorem fRX10_114 : fl RX10 114 10 11 := ⟨_, rfl, by decide, gd_in (ti_2 (List.mem_of_getElem? (i := 52) rfl)) rfl⟩
theorem fRX10_120 : fl RX10 120 9 1 := ⟨_, rfl, by decide, gd_in (ti_1 (List.mem_of_getElem? (i := 87) rfl)) rfl⟩
theorem fRX10_123 : fl RX10 123 9 2 := ⟨_, rfl, by decide, gd_in (ti_1 (List.mem_of_getElem? (i := 90) rfl)) rfl⟩
theorem fRX10_138 : fl RX10 138 2 2 := ⟨_, rfl, by decide, gd_in (ti_1 (List.mem_of_getElem? (i := 157) rfl)) rfl⟩
theorem fRX10_146 : fl RX10 146 6 2 := ⟨_, rfl, by decide, gd_in (ti_1 (List.mem_of_getElem? (i := 69) rfl)) rfl⟩
theorem fRX10_151 : fl RX10 151 6 3 := ⟨_, rfl, by decide, gd_in (ti_1 (List.mem_of_getElem? (i := 74) rfl)) rfl⟩
theorem fRX10_176 : fl RX10 176 3 5 := ⟨_, rfl, by decide, gd_in (ti_1 (List.mem_of_getElem? (i := 195) rfl)) rfl⟩
theorem fRX10_243 : fl RX10 243 8 3 := ⟨_, rfl, by decide, gd_in (ti_1 (List.mem_of_getElem? (i := 220) rfl)) rfl⟩
theorem fRX10_246 : fl RX10 246 8 4 := ⟨_, rfl, by decide, gd_in (ti_1 (List.mem_of_getElem? (i := 222) rfl)) rfl⟩
theorem fRX10_249 : fl RX10 249 8 2 := ⟨_, rfl, by decide, gd_in (ti_1 (List.mem_of_getElem? (i := 218) rfl)) rfl⟩
theorem fRX10_252 : fl RX10 252 8 5 := ⟨_, rfl, by decide, gd_in (ti_1 (List.mem_of_getElem? (i := 224) rfl)) rfl⟩
theorem fRX10_282 : fl RX10 282 10 13 := ⟨_, rfl, by decide, gd_in (ti_2 (List.mem_of_getElem? (i := 54) rfl)) rfl⟩
theorem fRX11_7 : fl RX11 7 11 0 := ⟨_, rfl, by decide, gd_in (ti_4 (List.mem_of_getElem? (i := 112) rfl)) rfl⟩
theorem fRX11_13 : fl RX11 13 11 4 := ⟨_, rfl, by decide, gd_in (ti_4 (List.mem_of_getElem? (i := 116) rfl)) rfl⟩
theorem fRX11_16 : fl RX11 16 11 5 := ⟨_, rfl, by decide, gd_in (ti_4 (List.mem_of_getElem? (i := 117) rfl)) rfl⟩
theorem fRX11_19 : fl RX11 19 11 7 := ⟨_, rfl, by decide, gd_in (ti_4 (List.mem_of_getElem? (i := 119) rfl)) rfl⟩
theorem fRX11_23 : fl RX11 23 11 11 := ⟨_, rfl, by decide, gd_in (ti_4 (List.mem_of_getElem? (i := 123) rfl)) rfl⟩
theorem fRX11_27 : fl RX11 27 11 14 := ⟨_, rfl, by decide, gd_in (ti_4 (List.mem_of_getElem? (i := 126) rfl)) rfl⟩
theorem fRX11_30 : fl RX11 30 11 15 := ⟨_, rfl, by decide, gd_in (ti_4 (List.mem_of_getElem? (i := 127) rfl)) rfl⟩
theorem fRX11_33 : fl RX11 33 11 16 := ⟨_, rfl, by decide, gd_in (ti_4 (List.mem_of_getElem? (i := 128) rfl)) rfl⟩
theorem fRX11_36 : fl RX11 36 11 18 := ⟨_, rfl, by decide, gd_in (ti_4 (List.mem_of_getElem? (i := 130) rfl)) rfl⟩
theorem fRX11_39 : fl RX11 39 11 19 := ⟨_, rfl, by decide, gd_in (ti_4 (List.mem_of_getElem? (i := 131) rfl)) rfl⟩
theorem fRX11_42 : fl RX11 42 11 21 := ⟨_, rfl, by decide, gd_in (ti_4 (List.mem_of_getElem? (i := 133) rfl)) rfl⟩
theorem fRX11_45 : fl RX11 45 11 22 := ⟨_, rfl, by decide, gd_in (ti_4 (List.mem_of_getElem? (i := 134) rfl)) rfl⟩
theorem fRX11_48 : fl RX11 48 11 23 := ⟨_, rfl, by decide, gd_in (ti_4 (List.mem_of_getElem? (i := 135) rfl)) rfl⟩
theorem fRX11_51 : fl RX11 51 11 26 := ⟨_, rfl, by decide, gd_in (ti_4 (List.mem_of_getElem? (i := 138) rfl)) rfl⟩
theorem fRX11_54 : fl RX11 54 11 27 := ⟨_, rfl, by decide, gd_in (ti_4 (List.mem_of_getElem? (i := 139) rfl)) rfl⟩
theorem fRX11_57 : fl RX11 57 11 28 := ⟨_, rfl, by decide, gd_in (ti_4 (List.mem_of_getElem? (i := 140) rfl)) rfl⟩
theorem fRX11_60 : fl RX11 60 11 29 := ⟨_, rfl, by decide, gd_in (ti_4 (List.mem_of_getElem? (i := 141) rfl)) rfl⟩
theorem fRX11_63 : fl RX11 63 11 30 := ⟨_, rfl, by decide, gd_in (ti_4 (List.mem_of_getElem? (i := 142) rfl)) rfl⟩
theorem fRX11_66 : fl RX11 66 11 31 := ⟨_, rfl, by decide, gd_in (ti_4 (List.mem_of_getElem? (i := 143) rfl)) rfl⟩
theorem fRX11_69 : fl RX11 69 11 32 := ⟨_, rfl, by decide, gd_in (ti_4 (List.mem_of_getElem? (i := 144) rfl)) rfl⟩
theorem fRX11_72 : fl RX11 72 11 33 := ⟨_, rfl, by decide, gd_in (ti_4 (List.mem_of_getElem? (i := 145) rfl)) rfl⟩
theorem fRX11_75 : fl RX11 75 11 34 := ⟨_, rfl, by decide, gd_in (ti_4 (List.mem_of_getElem? (i := 146) rfl)) rfl⟩
theorem fRX11_78 : fl RX11 78 11 3 := ⟨_, rfl, by decide, gd_in (ti_4 (List.mem_of_getElem? (i := 115) rfl)) rfl⟩
theorem fRX11_98 : fl RX11 98 11 6 := ⟨_, rfl, by decide, gd_in (ti_4 (List.mem_of_getElem? (i := 118) rfl)) rfl⟩
theorem fRX11_102 : fl RX11 102 11 8 := ⟨_, rfl, by decide, gd_in (ti_4 (List.mem_of_getElem? (i := 120) rfl)) rfl⟩
theorem fRX11_105 : fl RX11 105 11 9 := ⟨_, rfl, by decide, gd_in (ti_4 (List.mem_of_getElem? (i := 121) rfl)) rfl⟩
theorem fRX11_108 : fl RX11 108 11 10 := ⟨_, rfl, by decide, gd_in (ti_4 (List.mem_of_getElem? (i := 122) rfl)) rfl⟩
theorem fRX11_123 : fl RX11 123 11 12 := ⟨_, rfl, by decide, gd_in (ti_4 (List.mem_of_getElem? (i := 124) rfl)) rfl⟩
theorem fRX11_140 : fl RX11 140 11 13 := ⟨_, rfl, by decide, gd_in (ti_4 (List.mem_of_getElem? (i := 125) rfl)) rfl⟩
theorem fRX11_149 : fl RX11 149 11 1 := ⟨_, rfl, by decide, gd_in (ti_4 (List.mem_of_getElem? (i := 113) rfl)) rfl⟩
theorem fRX11_156 : fl RX11 156 11 20 := ⟨_, rfl, by decide, gd_in (ti_4 (List.mem_of_getElem? (i := 132) rfl)) rfl⟩
theorem fRX11_159 : fl RX11 159 11 24 := ⟨_, rfl, by decide, gd_in (ti_4 (List.mem_of_getElem? (i := 136) rfl)) rfl⟩
theorem fRX11_166 : fl RX11 166 11 2 := ⟨_, rfl, by decide, gd_in (ti_4 (List.mem_of_getElem? (i := 114) rfl)) rfl⟩
theorem fRX11_169 : fl RX11 169 11 17 := ⟨_, rfl, by decide, gd_in (ti_4 (List.mem_of_getElem? (i := 129) rfl)) rfl⟩
theorem fRX11_179 : fl RX11 179 11 25 := ⟨_, rfl, by decide, gd_in (ti_4 (List.mem_of_getElem? (i := 137) rfl)) rfl⟩
theorem fRX2_11 : fl RX2 11 2 0 := ⟨_, rfl, by decide, gd_in (ti_1 (List.mem_of_getElem? (i := 154) rfl)) rfl⟩
theorem fRX2_20 : fl RX2 20 2 2 := ⟨_, rfl, by decide, gd_in (ti_1 (List.mem_of_getElem? (i := 156) rfl)) rfl⟩
theorem fRX2_24 : fl RX2 24 2 1 := ⟨_, rfl, by decide, gd_in (ti_1 (List.mem_of_getElem? (i := 155) rfl)) rfl⟩
theorem fRX3_9 : fl RX3 9 3 0 := ⟨_, rfl, by decide, gd_in (ti_1 (List.mem_of_getElem? (i := 188) rfl)) rfl⟩
theorem fRX3_15 : fl RX3 15 3 1 := ⟨_, rfl, by decide, gd_in (ti_1 (List.mem_of_getElem? (i := 189) rfl)) rfl⟩
theorem fRX3_18 : fl RX3 18 3 2 := ⟨_, rfl, by decide, gd_in (ti_1 (List.mem_of_getElem? (i := 190) rfl)) rfl⟩
theorem fRX3_21 : fl RX3 21 3 3 := ⟨_, rfl, by decide, gd_in (ti_1 (List.mem_of_getElem? (i := 191) rfl)) rfl⟩
theorem fRX3_30 : fl RX3 30 6 3 := ⟨_, rfl, by decide, gd_in (ti_1 (List.mem_of_getElem? (i := 70) rfl)) rfl⟩
theorem fRX3_49 : fl RX3 49 3 5 := ⟨_, rfl, by decide, gd_in (ti_1 (List.mem_of_getElem? (i := 194) rfl)) rfl⟩
theorem fRX3_52 : fl RX3 52 3 4 := ⟨_, rfl, by decide, gd_in (ti_1 (List.mem_of_getElem? (i := 192) rfl)) rfl⟩
theorem fRX3_62 : fl RX3 62 6 1 := ⟨_, rfl, by decide, gd_in (ti_1 (List.mem_of_getElem? (i := 62) rfl)) rfl⟩
theorem fRX4_9 : fl RX4 9 4 0 := ⟨_, rfl, by decide, gd_in (ti_1 (List.mem_of_getElem? (i := 31) rfl)) rfl⟩
theorem fRX4_15 : fl RX4 15 4 1 := ⟨_, rfl, by decide, gd_in (ti_1 (List.mem_of_getElem? (i := 32) rfl)) rfl⟩
theorem fRX4_19 : fl RX4 19 4 2 := ⟨_, rfl, by decide, gd_in (ti_1 (List.mem_of_getElem? (i := 33) rfl)) rfl⟩
theorem fRX5_9 : fl RX5 9 5 0 := ⟨_, rfl, by decide, gd_in (ti_1 (List.mem_of_getElem? (i := 104) rfl)) rfl⟩
theorem fRX5_15 : fl RX5 15 5 1 := ⟨_, rfl, by decide, gd_in (ti_1 (List.mem_of_getElem? (i := 105) rfl)) rfl⟩
theorem fRX5_22 : fl RX5 22 5 2 := ⟨_, rfl, by decide, gd_in (ti_1 (List.mem_of_getElem? (i := 107) rfl)) rfl⟩
theorem fRX5_26 : fl RX5 26 5 3 := ⟨_, rfl, by decide, gd_in (ti_1 (List.mem_of_getElem? (i := 108) rfl)) rfl⟩
theorem fRX5_33 : fl RX5 33 5 4 := ⟨_, rfl, by decide, gd_in (ti_1 (List.mem_of_getElem? (i := 109) rfl)) rfl⟩
theorem fRX5_36 : fl RX5 36 9 1 := ⟨_, rfl, by decide, gd_in (ti_1 (List.mem_of_getElem? (i := 86) rfl)) rfl⟩
theorem fRX5_41 : fl RX5 41 9 2 := ⟨_, rfl, by decide, gd_in (ti_1 (List.mem_of_getElem? (i := 89) rfl)) rfl⟩
theorem fRX5_44 : fl RX5 44 5 5 := ⟨_, rfl, by decide, gd_in (ti_1 (List.mem_of_getElem? (i := 111) rfl)) rfl⟩
theorem fRX5_55 : fl RX5 55 5 7 := ⟨_, rfl, by decide, gd_in (ti_1 (List.mem_of_getElem? (i := 113) rfl)) rfl⟩
theorem fRX5_58 : fl RX5 58 5 11 := ⟨_, rfl, by decide, gd_in (ti_1 (List.mem_of_getElem? (i := 119) rfl)) rfl⟩
theorem fRX5_85 : fl RX5 85 5 6 := ⟨_, rfl, by decide, gd_in (ti_1 (List.mem_of_getElem? (i := 112) rfl)) rfl⟩
theorem fRX5_91 : fl RX5 91 5 8 := ⟨_, rfl, by decide, gd_in (ti_1 (List.mem_of_getElem? (i := 114) rfl)) rfl⟩
theorem fRX5_94 : fl RX5 94 5 9 := ⟨_, rfl, by decide, gd_in (ti_1 (List.mem_of_getElem? (i := 115) rfl)) rfl⟩
theorem fRX5_111 : fl RX5 111 4 2 := ⟨_, rfl, by decide, gd_in (ti_1 (List.mem_of_getElem? (i := 34) rfl)) rfl⟩
theorem fRX6_9 : fl RX6 9 6 0 := ⟨_, rfl, by decide, gd_in (ti_1 (List.mem_of_getElem? (i := 58) rfl)) rfl⟩
theorem fRX6_15 : fl RX6 15 6 1 := ⟨_, rfl, by decide, gd_in (ti_1 (List.mem_of_getElem? (i := 59) rfl)) rfl⟩
theorem fRX6_19 : fl RX6 19 6 2 := ⟨_, rfl, by decide, gd_in (ti_1 (List.mem_of_getElem? (i := 64) rfl)) rfl⟩
theorem fRX6_27 : fl RX6 27 6 3 := ⟨_, rfl, by decide, gd_in (ti_1 (List.mem_of_getElem? (i := 73) rfl)) rfl⟩
theorem fRX7_9 : fl RX7 9 7 0 := ⟨_, rfl, by decide, gd_in (ti_2 (List.mem_of_getElem? (i := 31) rfl)) rfl⟩
theorem fRX7_15 : fl RX7 15 7 1 := ⟨_, rfl, by decide, gd_in (ti_2 (List.mem_of_getElem? (i := 32) rfl)) rfl⟩
theorem fRX7_19 : fl RX7 19 7 2 := ⟨_, rfl, by decide, gd_in (ti_2 (List.mem_of_getElem? (i := 33) rfl)) rfl⟩
theorem fRX7_22 : fl RX7 22 6 2 := ⟨_, rfl, by decide, gd_in (ti_1 (List.mem_of_getElem? (i := 63) rfl)) rfl⟩
theorem fRX7_50 : fl RX7 50 6 1 := ⟨_, rfl, by decide, gd_in (ti_1 (List.mem_of_getElem? (i := 60) rfl)) rfl⟩
theorem fRX8_9 : fl RX8 9 8 0 := ⟨_, rfl, by decide, gd_in (ti_1 (List.mem_of_getElem? (i := 215) rfl)) rfl⟩
theorem fRX8_15 : fl RX8 15 8 1 := ⟨_, rfl, by decide, gd_in (ti_1 (List.mem_of_getElem? (i := 216) rfl)) rfl⟩
theorem fRX8_30 : fl RX8 30 8 2 := ⟨_, rfl, by decide, gd_in (ti_1 (List.mem_of_getElem? (i := 217) rfl)) rfl⟩
theorem fRX8_34 : fl RX8 34 6 2 := ⟨_, rfl, by decide, gd_in (ti_1 (List.mem_of_getElem? (i := 65) rfl)) rfl⟩
theorem fRX8_37 : fl RX8 37 8 3 := ⟨_, rfl, by decide, gd_in (ti_1 (List.mem_of_getElem? (i := 219) rfl)) rfl⟩
theorem fRX8_40 : fl RX8 40 8 4 := ⟨_, rfl, by decide, gd_in (ti_1 (List.mem_of_getElem? (i := 221) rfl)) rfl⟩
theorem fRX8_43 : fl RX8 43 8 5 := ⟨_, rfl, by decide, gd_in (ti_1 (List.mem_of_getElem? (i := 223) rfl)) rfl⟩
theorem fRX8_50 : fl RX8 50 6 3 := ⟨_, rfl, by decide, gd_in (ti_1 (List.mem_of_getElem? (i := 71) rfl)) rfl⟩
theorem fRX8_63 : fl RX8 63 3 5 := ⟨_, rfl, by decide, gd_in (ti_1 (List.mem_of_getElem? (i := 193) rfl)) rfl⟩
theorem fRX9_11 : fl RX9 11 9 0 := ⟨_, rfl, by decide, gd_in (ti_1 (List.mem_of_getElem? (i := 84) rfl)) rfl⟩
theorem fRX9_20 : fl RX9 20 9 1 := ⟨_, rfl, by decide, gd_in (ti_1 (List.mem_of_getElem? (i := 85) rfl)) rfl⟩
theorem fRX9_24 : fl RX9 24 9 2 := ⟨_, rfl, by decide, gd_in (ti_1 (List.mem_of_getElem? (i := 88) rfl)) rfl⟩
theorem fRX9_31 : fl RX9 31 6 2 := ⟨_, rfl, by decide, gd_in (ti_1 (List.mem_of_getElem? (i := 67) rfl)) rfl⟩
theorem fRX9_34 : fl RX9 34 6 3 := ⟨_, rfl, by decide, gd_in (ti_1 (List.mem_of_getElem? (i := 72) rfl)) rfl⟩
theorem pRX0_18 : fp RX0 18 0 2 .int := ⟨_, rfl, by decide, gd_in (ti_1 (List.mem_of_getElem? (i := 173) rfl)) rfl, rfl, by decide +kernel⟩
theorem pRX1_30 : fp RX1 30 1 5 .int := ⟨_, rfl, by decide, gd_in (ti_2 (List.mem_of_getElem? (i := 11) rfl)) rfl, rfl, by decide +kernel⟩
theorem pRX1_34 : fp RX1 34 1 4 .int := ⟨_, rfl, by decide, gd_in (ti_2 (List.mem_of_getElem? (i := 10) rfl)) rfl, rfl, by decide +kernel⟩
theorem pRX10_80 : fp RX10 80 10 12 .int := ⟨_, rfl, by decide, gd_in (ti_2 (List.mem_of_getElem? (i := 53) rfl)) rfl, rfl, by decide +kernel⟩
theorem pRX10_89 : fp RX10 89 5 4 .int := ⟨_, rfl, by decide, gd_in (ti_1 (List.mem_of_getElem? (i := 110) rfl)) rfl, rfl, by decide +kernel⟩
theorem pRX10_108 : fp RX10 108 10 10 .boolean := ⟨_, rfl, by decide, gd_in (ti_2 (List.mem_of_getElem? (i := 51) rfl)) rfl, rfl, by decide +kernel⟩
theorem pRX10_111 : fp RX10 111 0 2 .int := ⟨_, rfl, by decide, gd_in (ti_1 (List.mem_of_getElem? (i := 174) rfl)) rfl, rfl, by decide +kernel⟩
theorem pRX10_114 : fp RX10 114 10 11 .int := ⟨_, rfl, by decide, gd_in (ti_2 (List.mem_of_getElem? (i := 52) rfl)) rfl, rfl, by decide +kernel⟩
theorem pRX10_123 : fp RX10 123 9 2 .int := ⟨_, rfl, by decide, gd_in (ti_1 (List.mem_of_getElem? (i := 90) rfl)) rfl, rfl, by decide +kernel⟩
theorem pRX10_151 : fp RX10 151 6 3 .int := ⟨_, rfl, by decide, gd_in (ti_1 (List.mem_of_getElem? (i := 74) rfl)) rfl, rfl, by decide +kernel⟩
theorem pRX10_282 : fp RX10 282 10 13 .int := ⟨_, rfl, by decide, gd_in (ti_2 (List.mem_of_getElem? (i := 54) rfl)) rfl, rfl, by decide +kernel⟩
theorem pRX11_23 : fp RX11 23 11 11 .int := ⟨_, rfl, by decide, gd_in (ti_4 (List.mem_of_getElem? (i := 123) rfl)) rfl, rfl, by decide +kernel⟩
theorem pRX11_78 : fp RX11 78 11 3 .int := ⟨_, rfl, by decide, gd_in (ti_4 (List.mem_of_getElem? (i := 115) rfl)) rfl, rfl, by decide +kernel⟩
theorem pRX11_98 : fp RX11 98 11 6 .int := ⟨_, rfl, by decide, gd_in (ti_4 (List.mem_of_getElem? (i := 118) rfl)) rfl, rfl, by decide +kernel⟩
theorem pRX11_102 : fp RX11 102 11 8 .int := ⟨_, rfl, by decide, gd_in (ti_4 (List.mem_of_getElem? (i := 120) rfl)) rfl, rfl, by decide +kernel⟩
theorem pRX11_105 : fp RX11 105 11 9 .int := ⟨_, rfl, by decide, gd_in (ti_4 (List.mem_of_getElem? (i := 121) rfl)) rfl, rfl, by decide +kernel⟩
theorem pRX11_108 : fp RX11 108 11 10 .int := ⟨_, rfl, by decide, gd_in (ti_4 (List.mem_of_getElem? (i := 122) rfl)) rfl, rfl, by decide +kernel⟩
theorem pRX11_123 : fp RX11 123 11 12 .int := ⟨_, rfl, by decide, gd_in (ti_4 (List.mem_of_getElem? (i := 124) rfl)) rfl, rfl, by decide +kernel⟩
theorem pRX11_140 : fp RX11 140 11 13 .int := ⟨_, rfl, by decide, gd_in (ti_4 (List.mem_of_getElem? (i := 125) rfl)) rfl, rfl, by decide +kernel⟩
theorem pRX11_149 : fp RX11 149 11 1 .boolean := ⟨_, rfl, by decide, gd_in (ti_4 (List.mem_of_getElem? (i := 113) rfl)) rfl, rfl, by decide +kernel⟩
theorem pRX11_156 : fp RX11 156 11 20 .int := ⟨_, rfl, by decide, gd_in (ti_4 (List.mem_of_getElem? (i := 132) rfl)) rfl, rfl, by decide +kernel⟩
theorem pRX11_159 : fp RX11 159 11 24 .int := ⟨_, rfl, by decide, gd_in (ti_4 (List.mem_of_getElem? (i := 136) rfl)) rfl, rfl, by decide +kernel⟩
theorem pRX11_166 : fp RX11 166 11 2 .int := ⟨_, rfl, by decide, gd_in (ti_4 (List.mem_of_getElem? (i := 114) rfl)) rfl, rfl, by decide +kernel⟩
theorem pRX11_169 : fp RX11 169 11 17 .int := ⟨_, rfl, by decide, gd_in (ti_4 (List.mem_of_getElem? (i := 129) rfl)) rfl, rfl, by decide +kernel⟩
theorem pRX11_179 : fp RX11 179 11 25 .int := ⟨_, rfl, by decide, gd_in (ti_4 (List.mem_of_getElem? (i := 137) rfl)) rfl, rfl, by decide +kernel⟩
theorem pRX2_20 : fp RX2 20 2 2 .int := ⟨_, rfl, by decide, gd_in (ti_1 (List.mem_of_getElem? (i := 156) rfl)) rfl, rfl, by decide +kernel⟩
theorem pRX2_24 : fp RX2 24 2 1 .int := ⟨_, rfl, by decide, gd_in (ti_1 (List.mem_of_getElem? (i := 155) rfl)) rfl, rfl, by decide +kernel⟩
theorem pRX3_49 : fp RX3 49 3 5 .int := ⟨_, rfl, by decide, gd_in (ti_1 (List.mem_of_getElem? (i := 194) rfl)) rfl, rfl, by decide +kernel⟩
theorem pRX3_52 : fp RX3 52 3 4 .int := ⟨_, rfl, by decide, gd_in (ti_1 (List.mem_of_getElem? (i := 192) rfl)) rfl, rfl, by decide +kernel⟩
theorem pRX4_15 : fp RX4 15 4 1 .int := ⟨_, rfl, by decide, gd_in (ti_1 (List.mem_of_getElem? (i := 32) rfl)) rfl, rfl, by decide +kernel⟩
theorem pRX4_19 : fp RX4 19 4 2 .int := ⟨_, rfl, by decide, gd_in (ti_1 (List.mem_of_getElem? (i := 33) rfl)) rfl, rfl, by decide +kernel⟩
theorem pRX5_29 : fp RX5 29 5 10 .int := ⟨_, rfl, by decide, gd_in (ti_1 (List.mem_of_getElem? (i := 116) rfl)) rfl, rfl, by decide +kernel⟩
theorem pRX5_33 : fp RX5 33 5 4 .int := ⟨_, rfl, by decide, gd_in (ti_1 (List.mem_of_getElem? (i := 109) rfl)) rfl, rfl, by decide +kernel⟩
theorem pRX5_36 : fp RX5 36 9 1 .int := ⟨_, rfl, by decide, gd_in (ti_1 (List.mem_of_getElem? (i := 86) rfl)) rfl, rfl, by decide +kernel⟩
theorem pRX5_41 : fp RX5 41 9 2 .int := ⟨_, rfl, by decide, gd_in (ti_1 (List.mem_of_getElem? (i := 89) rfl)) rfl, rfl, by decide +kernel⟩
theorem pRX5_44 : fp RX5 44 5 5 .int := ⟨_, rfl, by decide, gd_in (ti_1 (List.mem_of_getElem? (i := 111) rfl)) rfl, rfl, by decide +kernel⟩
theorem pRX5_55 : fp RX5 55 5 7 .int := ⟨_, rfl, by decide, gd_in (ti_1 (List.mem_of_getElem? (i := 113) rfl)) rfl, rfl, by decide +kernel⟩
theorem pRX5_58 : fp RX5 58 5 11 .boolean := ⟨_, rfl, by decide, gd_in (ti_1 (List.mem_of_getElem? (i := 119) rfl)) rfl, rfl, by decide +kernel⟩
theorem pRX5_85 : fp RX5 85 5 6 .int := ⟨_, rfl, by decide, gd_in (ti_1 (List.mem_of_getElem? (i := 112) rfl)) rfl, rfl, by decide +kernel⟩
theorem pRX5_91 : fp RX5 91 5 8 .int := ⟨_, rfl, by decide, gd_in (ti_1 (List.mem_of_getElem? (i := 114) rfl)) rfl, rfl, by decide +kernel⟩
theorem pRX5_94 : fp RX5 94 5 9 .int := ⟨_, rfl, by decide, gd_in (ti_1 (List.mem_of_getElem? (i := 115) rfl)) rfl, rfl, by decide +kernel⟩
theorem pRX6_19 : fp RX6 19 6 2 .int := ⟨_, rfl, by decide, gd_in (ti_1 (List.mem_of_getElem? (i := 64) rfl)) rfl, rfl, by decide +kernel⟩
theorem pRX6_27 : fp RX6 27 6 3 .int := ⟨_, rfl, by decide, gd_in (ti_1 (List.mem_of_getElem? (i := 73) rfl)) rfl, rfl, by decide +kernel⟩
theorem pRX8_30 : fp RX8 30 8 2 .int := ⟨_, rfl, by decide, gd_in (ti_1 (List.mem_of_getElem? (i := 217) rfl)) rfl, rfl, by decide +kernel⟩
theorem pRX8_37 : fp RX8 37 8 3 .int := ⟨_, rfl, by decide, gd_in (ti_1 (List.mem_of_getElem? (i := 219) rfl)) rfl, rfl, by decide +kernel⟩
theorem pRX8_40 : fp RX8 40 8 4 .int := ⟨_, rfl, by decide, gd_in (ti_1 (List.mem_of_getElem? (i := 221) rfl)) rfl, rfl, by decide +kernel⟩
theorem pRX8_43 : fp RX8 43 8 5 .int := ⟨_, rfl, by decide, gd_in (ti_1 (List.mem_of_getElem? (i := 223) rfl)) rfl, rfl, by decide +kernel⟩
theorem pRX9_20 : fp RX9 20 9 1 .int := ⟨_, rfl, by decide, gd_in (ti_1 (List.mem_of_getElem? (i := 85) rfl)) rfl, rfl, by decide +kernel⟩
theorem pRX9_24 : fp RX9 24 9 2 .int := ⟨_, rfl, by decide, gd_in (ti_1 (List.mem_of_getElem? (i := 88) rfl)) rfl, rfl, by decide +kernel⟩
theorem lRX0_22 : Cond.methodLink RX0 22 yX9_ropeOf ∈ lw_gd := gd_in (ti_4 (List.mem_of_getElem? (i := 93) rfl)) rfl
theorem lRX1_26 : Cond.methodLink RX1 26 yX1_solve ∈ lw_gd := gd_in (ti_3 (List.mem_of_getElem? (i := 31) rfl)) rfl
theorem lRX1_37 : Cond.methodLinkNest RX1 37 yX10_leftOver "PretzelProof" ∈ nw_all := by decide +kernel
theorem lRX1_41 : Cond.methodLink RX1 41 yX1_findParts ∈ lw_gd := gd_in (ti_3 (List.mem_of_getElem? (i := 35) rfl)) rfl
theorem lRX1_45 : Cond.methodLink RX1 45 yX1_writeRows ∈ lw_gd := gd_in (ti_3 (List.mem_of_getElem? (i := 44) rfl)) rfl
theorem lRX1_53 : Cond.methodLink RX1 53 yX1_rowWith ∈ lw_gd := gd_in (ti_3 (List.mem_of_getElem? (i := 56) rfl)) rfl
theorem lRX1_56 : Cond.methodLink RX1 56 yX1_exchangeRows ∈ lw_gd := gd_in (ti_3 (List.mem_of_getElem? (i := 60) rfl)) rfl
theorem lRX1_60 : Cond.methodLink RX1 60 yX1_scaleRow ∈ lw_gd := gd_in (ti_3 (List.mem_of_getElem? (i := 64) rfl)) rfl
theorem lRX1_64 : Cond.methodLink RX1 64 yX1_clearOthers ∈ lw_gd := gd_in (ti_3 (List.mem_of_getElem? (i := 68) rfl)) rfl
theorem lRX1_68 : Cond.methodLink RX1 68 yJ9_max_7cf53 ∈ lw_gd := gd_in (ti_3 (List.mem_of_getElem? (i := 39) rfl)) rfl
theorem lRX1_73 : Cond.methodLink RX1 73 yX6_length ∈ lw_gd := gd_in (ti_3 (List.mem_of_getElem? (i := 42) rfl)) rfl
theorem lRX1_80 : Cond.methodLinkNest RX1 80 yX10_crossingOf "PretzelProof" ∈ nw_all := by decide +kernel
theorem lRX1_84 : Cond.methodLink RX1 84 yJ7_fill_53178 ∈ lw_gd := gd_in (ti_3 (List.mem_of_getElem? (i := 48) rfl)) rfl
theorem lRX1_90 : Cond.methodLink RX1 90 yX1_addTo ∈ lw_gd := gd_in (ti_3 (List.mem_of_getElem? (i := 49) rfl)) rfl
theorem lRX10_85 : Cond.methodLink RX10 85 yX5_addLetter ∈ lw_gd := gd_in (ti_2 (List.mem_of_getElem? (i := 89) rfl)) rfl
theorem lRX10_93 : Cond.methodLink RX10 93 yX5_readText ∈ lw_gd := gd_in (ti_2 (List.mem_of_getElem? (i := 98) rfl)) rfl
theorem lRX10_101 : Cond.methodLink RX10 101 yX9_copyFrom ∈ lw_gd := gd_in (ti_2 (List.mem_of_getElem? (i := 183) rfl)) rfl
theorem lRX10_117 : Cond.methodLink RX10 117 yX2_forgetAll ∈ lw_gd := gd_in (ti_2 (List.mem_of_getElem? (i := 194) rfl)) rfl
theorem lRX10_126 : Cond.methodLink RX10 126 yX9_crossingsOfAll ∈ lw_gd := gd_in (ti_2 (List.mem_of_getElem? (i := 206) rfl)) rfl
theorem lRX10_129 : Cond.methodLink RX10 129 yX9_saltedOfAll ∈ lw_gd := gd_in (ti_2 (List.mem_of_getElem? (i := 210) rfl)) rfl
theorem lRX10_132 : Cond.methodLink RX10 132 yX9_plainOnes ∈ lw_gd := gd_in (ti_2 (List.mem_of_getElem? (i := 215) rfl)) rfl
theorem lRX10_135 : Cond.methodLink RX10 135 yX10_shakenOutOnes ∈ lw_gd := gd_in (ti_2 (List.mem_of_getElem? (i := 219) rfl)) rfl
theorem lRX10_141 : Cond.methodLink RX10 141 yX9_ropeOf ∈ lw_gd := gd_in (ti_2 (List.mem_of_getElem? (i := 223) rfl)) rfl
theorem lRX10_154 : Cond.methodLink RX10 154 yX1_waysBy ∈ lw_gd := gd_in (ti_3 (List.mem_of_getElem? (i := 27) rfl)) rfl
theorem lRX10_158 : Cond.methodLink RX10 158 yX10_weakOnes ∈ lw_gd := gd_in (ti_3 (List.mem_of_getElem? (i := 72) rfl)) rfl
theorem lRX10_162 : Cond.methodLink RX10 162 yX10_fewestSwitches ∈ lw_gd := gd_in (ti_3 (List.mem_of_getElem? (i := 76) rfl)) rfl
theorem lRX10_165 : Cond.methodLink RX10 165 yX10_oddOnes ∈ lw_gd := gd_in (ti_3 (List.mem_of_getElem? (i := 86) rfl)) rfl
theorem lRX10_168 : Cond.methodLink RX10 168 yX6_passAt ∈ lw_gd := gd_in (ti_3 (List.mem_of_getElem? (i := 99) rfl)) rfl
theorem lRX10_172 : Cond.methodLink RX10 172 yX3_lookNow ∈ lw_gd := gd_in (ti_3 (List.mem_of_getElem? (i := 107) rfl)) rfl
theorem lRX10_177 : Cond.methodLink RX10 177 yX3_moveAt ∈ lw_gd := gd_in (ti_3 (List.mem_of_getElem? (i := 111) rfl)) rfl
theorem lRX10_180 : Cond.methodLink RX10 180 yX6_has ∈ lw_gd := gd_in (ti_3 (List.mem_of_getElem? (i := 119) rfl)) rfl
theorem lRX10_183 : Cond.methodLink RX10 183 yJ9_min_7cf53 ∈ lw_gd := gd_in (ti_3 (List.mem_of_getElem? (i := 123) rfl)) rfl
theorem lRX10_189 : Cond.methodLink RX10 189 yJ9_max_7cf53 ∈ lw_gd := gd_in (ti_3 (List.mem_of_getElem? (i := 124) rfl)) rfl
theorem lRX10_192 : Cond.methodLink RX10 192 yX3_contains ∈ lw_gd := gd_in (ti_3 (List.mem_of_getElem? (i := 125) rfl)) rfl
theorem lRX10_196 : Cond.methodLink RX10 196 yX2_remember ∈ lw_gd := gd_in (ti_3 (List.mem_of_getElem? (i := 130) rfl)) rfl
theorem lRX10_199 : Cond.methodLink RX10 199 yX6_takeAway ∈ lw_gd := gd_in (ti_3 (List.mem_of_getElem? (i := 136) rfl)) rfl
theorem lRX10_203 : Cond.methodLink RX10 203 yX6_length ∈ lw_gd := gd_in (ti_3 (List.mem_of_getElem? (i := 151) rfl)) rfl
theorem lRX10_206 : Cond.methodLink RX10 206 yX6_addCurl ∈ lw_gd := gd_in (ti_3 (List.mem_of_getElem? (i := 152) rfl)) rfl
theorem lRX10_210 : Cond.methodLink RX10 210 yX6_switchSet ∈ lw_gd := gd_in (ti_3 (List.mem_of_getElem? (i := 160) rfl)) rfl
theorem lRX10_213 : Cond.methodLink RX10 213 yX6_goTheOtherWay ∈ lw_gd := gd_in (ti_3 (List.mem_of_getElem? (i := 168) rfl)) rfl
theorem lRX10_216 : Cond.methodLink RX10 216 yX6_everyCrossing ∈ lw_gd := gd_in (ti_2 (List.mem_of_getElem? (i := 224) rfl)) rfl
theorem lRX10_219 : Cond.methodLink RX10 219 yX6_rollOnce ∈ lw_gd := gd_in (ti_3 (List.mem_of_getElem? (i := 180) rfl)) rfl
theorem lRX10_222 : Cond.methodLink RX10 222 yX6_append ∈ lw_gd := gd_in (ti_3 (List.mem_of_getElem? (i := 188) rfl)) rfl
theorem lRX10_225 : Cond.methodLink RX10 225 yX6_makePlain ∈ lw_gd := gd_in (ti_3 (List.mem_of_getElem? (i := 192) rfl)) rfl
theorem lRX10_228 : Cond.methodLink RX10 228 yX10_isIn ∈ lw_gd := gd_in (ti_3 (List.mem_of_getElem? (i := 197) rfl)) rfl
theorem lRX10_232 : Cond.methodLink RX10 232 yX10_driftOnce ∈ lw_gd := gd_in (ti_3 (List.mem_of_getElem? (i := 202) rfl)) rfl
theorem lRX10_235 : Cond.methodLink RX10 235 yX2_restore ∈ lw_gd := gd_in (ti_3 (List.mem_of_getElem? (i := 228) rfl)) rfl
theorem lRX10_239 : Cond.methodLink RX10 239 yX8_tryAll ∈ lw_gd := gd_in (ti_3 (List.mem_of_getElem? (i := 236) rfl)) rfl
theorem lRX10_255 : Cond.methodLink RX10 255 yX6_lyingIn ∈ lw_gd := gd_in (ti_3 (List.mem_of_getElem? (i := 89) rfl)) rfl
theorem lRX10_258 : Cond.methodLink RX10 258 yX7_waysInto ∈ lw_gd := gd_in (ti_4 (List.mem_of_getElem? (i := 22) rfl)) rfl
theorem lRX10_262 : Cond.methodLink RX10 262 yX10_fewestUnsalted ∈ lw_gd := gd_in (ti_4 (List.mem_of_getElem? (i := 46) rfl)) rfl
theorem lRX10_265 : Cond.methodLink RX10 265 yX7_leastWordAt ∈ lw_gd := gd_in (ti_4 (List.mem_of_getElem? (i := 54) rfl)) rfl
theorem lRX10_268 : Cond.methodLink RX10 268 yX1_firstColourOf ∈ lw_gd := gd_in (ti_4 (List.mem_of_getElem? (i := 63) rfl)) rfl
theorem lRX10_275 : Cond.methodLink RX10 275 yX0_addEntry ∈ lw_gd := gd_in (ti_4 (List.mem_of_getElem? (i := 77) rfl)) rfl
theorem lRX10_278 : Cond.methodLink RX10 278 yX0_firstWrong ∈ lw_gd := gd_in (ti_4 (List.mem_of_getElem? (i := 89) rfl)) rfl
theorem lRX10_285 : Cond.methodLink RX10 285 yX3_leftOf ∈ lw_gd := gd_in (ti_2 (List.mem_of_getElem? (i := 228) rfl)) rfl
theorem lRX10_289 : Cond.methodLink RX10 289 yJ6_bitCount_0f7a4 ∈ lw_gd := gd_in (ti_3 (List.mem_of_getElem? (i := 85) rfl)) rfl
theorem lRX10_294 : Cond.methodLink RX10 294 yX3_leftByCurls ∈ lw_gd := gd_in (ti_3 (List.mem_of_getElem? (i := 80) rfl)) rfl
theorem lRX10_297 : Cond.methodLink RX10 297 yX10_draw ∈ lw_gd := gd_in (ti_3 (List.mem_of_getElem? (i := 206) rfl)) rfl
theorem lRX10_300 : Cond.methodLink RX10 300 yX10_shakeByFirstMove ∈ lw_gd := gd_in (ti_3 (List.mem_of_getElem? (i := 215) rfl)) rfl
theorem lRX10_303 : Cond.methodLink RX10 303 yX10_curlByDraws ∈ lw_gd := gd_in (ti_3 (List.mem_of_getElem? (i := 220) rfl)) rfl
theorem lRX10_306 : Cond.methodLink RX10 306 yX10_takenBy ∈ lw_gd := gd_in (ti_3 (List.mem_of_getElem? (i := 219) rfl)) rfl
theorem lRX10_316 : Cond.methodLink RX10 316 yX10_leftOver ∈ lw_gd := gd_in (ti_3 (List.mem_of_getElem? (i := 214) rfl)) rfl
theorem lRX11_81 : Cond.methodLink RX11 81 yX11_in ∈ lw_gd := gd_in (ti_4 (List.mem_of_getElem? (i := 224) rfl)) rfl
theorem lRX11_85 : Cond.methodLink RX11 85 yX11_base ∈ lw_gd := gd_in (ti_5 (List.mem_of_getElem? (i := 37) rfl)) rfl
theorem lRX11_89 : Cond.methodLink RX11 89 yX11_passes ∈ lw_gd := gd_in (ti_5 (List.mem_of_getElem? (i := 58) rfl)) rfl
theorem lRX11_92 : Cond.methodLink RX11 92 yX11_crossings ∈ lw_gd := gd_in (ti_5 (List.mem_of_getElem? (i := 105) rfl)) rfl
theorem lRX11_111 : Cond.methodLink RX11 111 yX11_next ∈ lw_gd := gd_in (ti_4 (List.mem_of_getElem? (i := 237) rfl)) rfl
theorem lRX11_115 : Cond.methodLink RX11 115 yX11_blames ∈ lw_gd := gd_in (ti_5 (List.mem_of_getElem? (i := 1) rfl)) rfl
theorem lRX11_126 : Cond.methodLink RX11 126 yX11_ends ∈ lw_gd := gd_in (ti_5 (List.mem_of_getElem? (i := 11) rfl)) rfl
theorem lRX11_137 : Cond.methodLink RX11 137 yX11_nameOf ∈ lw_gd := gd_in (ti_5 (List.mem_of_getElem? (i := 19) rfl)) rfl
theorem lRX11_143 : Cond.methodLink RX11 143 yX11_grains ∈ lw_gd := gd_in (ti_5 (List.mem_of_getElem? (i := 5) rfl)) rfl
theorem lRX11_146 : Cond.methodLink RX11 146 yX11_threads ∈ lw_gd := gd_in (ti_5 (List.mem_of_getElem? (i := 15) rfl)) rfl
theorem lRX11_153 : Cond.methodLink RX11 153 yX11_reads ∈ lw_gd := gd_in (ti_4 (List.mem_of_getElem? (i := 233) rfl)) rfl
theorem lRX11_162 : Cond.methodLink RX11 162 yX11_stores ∈ lw_gd := gd_in (ti_5 (List.mem_of_getElem? (i := 26) rfl)) rfl
theorem lRX11_172 : Cond.methodLink RX11 172 yX11_has ∈ lw_gd := gd_in (ti_5 (List.mem_of_getElem? (i := 34) rfl)) rfl
theorem lRX11_176 : Cond.methodLink RX11 176 yX11_numbers ∈ lw_gd := gd_in (ti_5 (List.mem_of_getElem? (i := 30) rfl)) rfl
theorem lRX11_182 : Cond.methodLink RX11 182 yX11_isBeside ∈ lw_gd := gd_in (ti_5 (List.mem_of_getElem? (i := 74) rfl)) rfl
theorem lRX11_185 : Cond.methodLink RX11 185 yX11_leaves ∈ lw_gd := gd_in (ti_5 (List.mem_of_getElem? (i := 66) rfl)) rfl
theorem lRX11_188 : Cond.methodLink RX11 188 yX11_isMove ∈ lw_gd := gd_in (ti_5 (List.mem_of_getElem? (i := 70) rfl)) rfl
theorem lRX11_192 : Cond.methodLink RX11 192 yX11_without ∈ lw_gd := gd_in (ti_5 (List.mem_of_getElem? (i := 91) rfl)) rfl
theorem lRX11_196 : Cond.methodLink RX11 196 yX11_comesTo ∈ lw_gd := gd_in (ti_5 (List.mem_of_getElem? (i := 94) rfl)) rfl
theorem lRX11_200 : Cond.methodLink RX11 200 yX11_shakes ∈ lw_gd := gd_in (ti_5 (List.mem_of_getElem? (i := 87) rfl)) rfl
theorem lRX11_203 : Cond.methodLink RX11 203 yX11_bits ∈ lw_gd := gd_in (ti_5 (List.mem_of_getElem? (i := 98) rfl)) rfl
theorem lRX11_206 : Cond.methodLink RX11 206 yX11_isOne ∈ lw_gd := gd_in (ti_5 (List.mem_of_getElem? (i := 49) rfl)) rfl
theorem lRX11_211 : Cond.methodLink RX11 211 yX11_loads ∈ lw_gd := gd_in (ti_5 (List.mem_of_getElem? (i := 54) rfl)) rfl
theorem lRX11_214 : Cond.methodLink RX11 214 yX11_moveOf ∈ lw_gd := gd_in (ti_5 (List.mem_of_getElem? (i := 62) rfl)) rfl
theorem lRX11_219 : Cond.methodLink RX11 219 yX11_shaken ∈ lw_gd := gd_in (ti_5 (List.mem_of_getElem? (i := 83) rfl)) rfl
theorem lRX11_223 : Cond.methodLink RX11 223 yX11_parts ∈ lw_gd := gd_in (ti_5 (List.mem_of_getElem? (i := 109) rfl)) rfl
theorem lRX11_226 : Cond.methodLink RX11 226 yX11_left ∈ lw_gd := gd_in (ti_5 (List.mem_of_getElem? (i := 117) rfl)) rfl
theorem lRX11_229 : Cond.methodLink RX11 229 yX11_swaps ∈ lw_gd := gd_in (ti_5 (List.mem_of_getElem? (i := 134) rfl)) rfl
theorem lRX11_232 : Cond.methodLink RX11 232 yX11_clears ∈ lw_gd := gd_in (ti_5 (List.mem_of_getElem? (i := 138) rfl)) rfl
theorem lRX11_236 : Cond.methodLink RX11 236 yX11_isWay ∈ lw_gd := gd_in (ti_5 (List.mem_of_getElem? (i := 113) rfl)) rfl
theorem lRX11_239 : Cond.methodLink RX11 239 yX11_turns ∈ lw_gd := gd_in (ti_5 (List.mem_of_getElem? (i := 150) rfl)) rfl
theorem lRX11_242 : Cond.methodLink RX11 242 yX11_isOut ∈ lw_gd := gd_in (ti_5 (List.mem_of_getElem? (i := 146) rfl)) rfl
theorem lRX11_245 : Cond.methodLink RX11 245 yX11_inside ∈ lw_gd := gd_in (ti_5 (List.mem_of_getElem? (i := 162) rfl)) rfl
theorem lRX11_252 : Cond.methodLink RX11 252 yX11_colours ∈ lw_gd := gd_in (ti_5 (List.mem_of_getElem? (i := 130) rfl)) rfl
theorem lRX11_255 : Cond.methodLink RX11 255 yX11_weak ∈ lw_gd := gd_in (ti_5 (List.mem_of_getElem? (i := 142) rfl)) rfl
theorem lRX11_258 : Cond.methodLink RX11 258 yX11_switches ∈ lw_gd := gd_in (ti_5 (List.mem_of_getElem? (i := 154) rfl)) rfl
theorem lRX11_261 : Cond.methodLink RX11 261 yX11_odd ∈ lw_gd := gd_in (ti_5 (List.mem_of_getElem? (i := 158) rfl)) rfl
theorem lRX11_264 : Cond.methodLink RX11 264 yX11_isCrossing ∈ lw_gd := gd_in (ti_5 (List.mem_of_getElem? (i := 174) rfl)) rfl
theorem lRX11_267 : Cond.methodLink RX11 267 yX11_isTwo ∈ lw_gd := gd_in (ti_5 (List.mem_of_getElem? (i := 182) rfl)) rfl
theorem lRX11_270 : Cond.methodLink RX11 270 yX11_reverses ∈ lw_gd := gd_in (ti_5 (List.mem_of_getElem? (i := 186) rfl)) rfl
theorem lRX11_273 : Cond.methodLink RX11 273 yX11_isSame ∈ lw_gd := gd_in (ti_5 (List.mem_of_getElem? (i := 190) rfl)) rfl
theorem lRX11_276 : Cond.methodLink RX11 276 yX11_copies ∈ lw_gd := gd_in (ti_5 (List.mem_of_getElem? (i := 211) rfl)) rfl
theorem lRX11_280 : Cond.methodLink RX11 280 yX11_known ∈ lw_gd := gd_in (ti_5 (List.mem_of_getElem? (i := 207) rfl)) rfl
theorem lRX11_283 : Cond.methodLink RX11 283 yX11_drops ∈ lw_gd := gd_in (ti_5 (List.mem_of_getElem? (i := 215) rfl)) rfl
theorem lRX11_286 : Cond.methodLink RX11 286 yX11_curls ∈ lw_gd := gd_in (ti_5 (List.mem_of_getElem? (i := 223) rfl)) rfl
theorem lRX11_290 : Cond.methodLink RX11 290 yX11_rolls ∈ lw_gd := gd_in (ti_6 (List.mem_of_getElem? (i := 3) rfl)) rfl
theorem lRX11_293 : Cond.methodLink RX11 293 yX11_pass ∈ lw_gd := gd_in (ti_6 (List.mem_of_getElem? (i := 7) rfl)) rfl
theorem lRX11_303 : Cond.methodLink RX11 303 yX11_draw ∈ lw_gd := gd_in (ti_6 (List.mem_of_getElem? (i := 25) rfl)) rfl
theorem lRX11_308 : Cond.methodLink RX11 308 yX11_drifts ∈ lw_gd := gd_in (ti_6 (List.mem_of_getElem? (i := 21) rfl)) rfl
theorem lRX11_311 : Cond.methodLink RX11 311 yX11_told ∈ lw_gd := gd_in (ti_6 (List.mem_of_getElem? (i := 33) rfl)) rfl
theorem lRX2_27 : Cond.methodLink RX2 27 yX9_copyFrom ∈ lw_gd := gd_in (ti_3 (List.mem_of_getElem? (i := 134) rfl)) rfl
theorem lRX2_31 : Cond.methodLink RX2 31 yJ9_min_7cf53 ∈ lw_gd := gd_in (ti_3 (List.mem_of_getElem? (i := 135) rfl)) rfl
theorem lRX3_24 : Cond.methodLink RX3 24 yX6_everyCrossing ∈ lw_gd := gd_in (ti_3 (List.mem_of_getElem? (i := 84) rfl)) rfl
theorem lRX3_34 : Cond.methodLink RX3 34 yX3_lookAt ∈ lw_gd := gd_in (ti_2 (List.mem_of_getElem? (i := 232) rfl)) rfl
theorem lRX3_38 : Cond.methodLink RX3 38 yX3_takeRow ∈ lw_gd := gd_in (ti_2 (List.mem_of_getElem? (i := 236) rfl)) rfl
theorem lRX3_42 : Cond.methodLink RX3 42 yX3_seeNeighbours ∈ lw_gd := gd_in (ti_3 (List.mem_of_getElem? (i := 8) rfl)) rfl
theorem lRX3_46 : Cond.methodLink RX3 46 yX3_listMoves ∈ lw_gd := gd_in (ti_3 (List.mem_of_getElem? (i := 15) rfl)) rfl
theorem lRX3_55 : Cond.methodLinkNest RX3 55 yX10_takenBy "PretzelProof" ∈ nw_all := by decide +kernel
theorem lRX3_59 : Cond.methodLink RX3 59 yX6_length ∈ lw_gd := gd_in (ti_3 (List.mem_of_getElem? (i := 0) rfl)) rfl
theorem lRX3_65 : Cond.methodLinkNest RX3 65 yX10_crossingOf "PretzelProof" ∈ nw_all := by decide +kernel
theorem lRX3_68 : Cond.methodLinkNest RX3 68 yX10_isIn "PretzelProof" ∈ nw_all := by decide +kernel
theorem lRX3_72 : Cond.methodLink RX3 72 yJ7_fill_53178 ∈ lw_gd := gd_in (ti_3 (List.mem_of_getElem? (i := 12) rfl)) rfl
theorem lRX4_22 : Cond.methodLinkNest RX4 22 yX10_isIn "PretzelProof" ∈ nw_all := by decide +kernel
theorem lRX4_26 : Cond.methodLink RX4 26 yX4_knows ∈ lw_gd := gd_in (ti_2 (List.mem_of_getElem? (i := 163) rfl)) rfl
theorem lRX5_47 : Cond.methodLink RX5 47 yX5_readBlank ∈ lw_gd := gd_in (ti_2 (List.mem_of_getElem? (i := 102) rfl)) rfl
theorem lRX5_51 : Cond.methodLink RX5 51 yX5_readLetter ∈ lw_gd := gd_in (ti_2 (List.mem_of_getElem? (i := 106) rfl)) rfl
theorem lRX5_62 : Cond.methodLink RX5 62 yX5_readStart ∈ lw_gd := gd_in (ti_2 (List.mem_of_getElem? (i := 110) rfl)) rfl
theorem lRX5_66 : Cond.methodLink RX5 66 yX5_readFirstFigure ∈ lw_gd := gd_in (ti_2 (List.mem_of_getElem? (i := 114) rfl)) rfl
theorem lRX5_69 : Cond.methodLink RX5 69 yX5_readNumber ∈ lw_gd := gd_in (ti_2 (List.mem_of_getElem? (i := 121) rfl)) rfl
theorem lRX5_72 : Cond.methodLink RX5 72 yX5_readNumbersEnd ∈ lw_gd := gd_in (ti_2 (List.mem_of_getElem? (i := 125) rfl)) rfl
theorem lRX5_75 : Cond.methodLink RX5 75 yX5_readClause ∈ lw_gd := gd_in (ti_2 (List.mem_of_getElem? (i := 129) rfl)) rfl
theorem lRX5_78 : Cond.methodLink RX5 78 yX5_readThread ∈ lw_gd := gd_in (ti_2 (List.mem_of_getElem? (i := 137) rfl)) rfl
theorem lRX5_81 : Cond.methodLink RX5 81 yX5_isFigure ∈ lw_gd := gd_in (ti_2 (List.mem_of_getElem? (i := 118) rfl)) rfl
theorem lRX5_88 : Cond.methodLink RX5 88 yX4_begin ∈ lw_gd := gd_in (ti_2 (List.mem_of_getElem? (i := 133) rfl)) rfl
theorem lRX5_97 : Cond.methodLink RX5 97 yX5_readPass ∈ lw_gd := gd_in (ti_2 (List.mem_of_getElem? (i := 141) rfl)) rfl
theorem lRX5_101 : Cond.methodLink RX5 101 yX5_readThreadsEnd ∈ lw_gd := gd_in (ti_2 (List.mem_of_getElem? (i := 164) rfl)) rfl
theorem lRX5_104 : Cond.methodLinkNest RX5 104 yX10_isIn "PretzelProof" ∈ nw_all := by decide +kernel
theorem lRX5_108 : Cond.methodLink RX5 108 yX4_knows ∈ lw_gd := gd_in (ti_2 (List.mem_of_getElem? (i := 148) rfl)) rfl
theorem lRX5_114 : Cond.methodLink RX5 114 yJ6_bitCount_0f7a4 ∈ lw_gd := gd_in (ti_2 (List.mem_of_getElem? (i := 153) rfl)) rfl
theorem lRX5_119 : Cond.methodLink RX5 119 yX4_numberOf ∈ lw_gd := gd_in (ti_2 (List.mem_of_getElem? (i := 159) rfl)) rfl
theorem lRX5_122 : Cond.methodLink RX5 122 yX9_ropeOf ∈ lw_gd := gd_in (ti_2 (List.mem_of_getElem? (i := 168) rfl)) rfl
theorem lRX5_126 : Cond.methodLink RX5 126 yX6_lay ∈ lw_gd := gd_in (ti_2 (List.mem_of_getElem? (i := 172) rfl)) rfl
theorem lRX6_23 : Cond.methodLink RX6 23 yX6_length ∈ lw_gd := gd_in (ti_3 (List.mem_of_getElem? (i := 93) rfl)) rfl
theorem lRX6_36 : Cond.methodLink RX6 36 yX6_makePlain ∈ lw_gd := gd_in (ti_2 (List.mem_of_getElem? (i := 176) rfl)) rfl
theorem lRX6_39 : Cond.methodLink RX6 39 yJ9_min_7cf53 ∈ lw_gd := gd_in (ti_2 (List.mem_of_getElem? (i := 180) rfl)) rfl
theorem lRX6_45 : Cond.methodLink RX6 45 yX4_begin ∈ lw_gd := gd_in (ti_3 (List.mem_of_getElem? (i := 145) rfl)) rfl
theorem lRX6_50 : Cond.methodLinkNest RX6 50 yX10_crossingOf "PretzelProof" ∈ nw_all := by decide +kernel
theorem lRX6_54 : Cond.methodLink RX6 54 yX4_numberOf ∈ lw_gd := gd_in (ti_3 (List.mem_of_getElem? (i := 146) rfl)) rfl
theorem lRX6_57 : Cond.methodLinkNest RX6 57 yX10_isIn "PretzelProof" ∈ nw_all := by decide +kernel
theorem lRX6_61 : Cond.methodLink RX6 61 yX6_numberAnew ∈ lw_gd := gd_in (ti_3 (List.mem_of_getElem? (i := 141) rfl)) rfl
theorem lRX7_28 : Cond.methodLink RX7 28 yX7_comesTo ∈ lw_gd := gd_in (ti_4 (List.mem_of_getElem? (i := 26) rfl)) rfl
theorem lRX7_32 : Cond.methodLink RX7 32 yX6_length ∈ lw_gd := gd_in (ti_4 (List.mem_of_getElem? (i := 30) rfl)) rfl
theorem lRX7_36 : Cond.methodLink RX7 36 yX7_goAlong ∈ lw_gd := gd_in (ti_4 (List.mem_of_getElem? (i := 31) rfl)) rfl
theorem lRX7_40 : Cond.methodLink RX7 40 yX7_compare ∈ lw_gd := gd_in (ti_4 (List.mem_of_getElem? (i := 39) rfl)) rfl
theorem lRX7_53 : Cond.methodLink RX7 53 yX4_begin ∈ lw_gd := gd_in (ti_4 (List.mem_of_getElem? (i := 35) rfl)) rfl
theorem lRX7_58 : Cond.methodLink RX7 58 yX6_passAt ∈ lw_gd := gd_in (ti_4 (List.mem_of_getElem? (i := 36) rfl)) rfl
theorem lRX7_62 : Cond.methodLinkNest RX7 62 yX10_crossingOf "PretzelProof" ∈ nw_all := by decide +kernel
theorem lRX7_65 : Cond.methodLink RX7 65 yX4_numberOf ∈ lw_gd := gd_in (ti_4 (List.mem_of_getElem? (i := 38) rfl)) rfl
theorem lRX8_18 : Cond.methodLink RX8 18 yX6_everyCrossing ∈ lw_gd := gd_in (ti_4 (List.mem_of_getElem? (i := 0) rfl)) rfl
theorem lRX8_24 : Cond.methodLink RX8 24 yJ7_fill_53178 ∈ lw_gd := gd_in (ti_4 (List.mem_of_getElem? (i := 1) rfl)) rfl
theorem lRX8_46 : Cond.methodLink RX8 46 yX8_weigh ∈ lw_gd := gd_in (ti_4 (List.mem_of_getElem? (i := 2) rfl)) rfl
theorem lRX8_53 : Cond.methodLink RX8 53 yX3_lookAt ∈ lw_gd := gd_in (ti_4 (List.mem_of_getElem? (i := 7) rfl)) rfl
theorem lRX8_59 : Cond.methodLink RX8 59 yX8_followMoves ∈ lw_gd := gd_in (ti_4 (List.mem_of_getElem? (i := 8) rfl)) rfl
theorem lRX8_66 : Cond.methodLink RX8 66 yX3_moveAt ∈ lw_gd := gd_in (ti_4 (List.mem_of_getElem? (i := 12) rfl)) rfl
theorem lRX8_70 : Cond.methodLinkNest RX8 70 yX10_takenBy "PretzelProof" ∈ nw_all := by decide +kernel
theorem lRX8_73 : Cond.methodLink RX8 73 yJ6_bitCount_0f7a4 ∈ lw_gd := gd_in (ti_4 (List.mem_of_getElem? (i := 6) rfl)) rfl
theorem lRX9_27 : Cond.methodLink RX9 27 yX6_copyFrom ∈ lw_gd := gd_in (ti_2 (List.mem_of_getElem? (i := 187) rfl)) rfl
theorem lRX9_37 : Cond.methodLink RX9 37 yJ6_bitCount_0f7a4 ∈ lw_gd := gd_in (ti_2 (List.mem_of_getElem? (i := 214) rfl)) rfl
theorem oJ6_bitCount_0f7a4 : mdok mJ6_bitCount_0f7a4 1 := ⟨gd_in (ti_2 (List.mem_of_getElem? (i := 155) rfl)) rfl, gd_in (ti_1 (List.mem_of_getElem? (i := 13) rfl)) rfl, by decide +kernel, by decide +kernel, by decide +kernel⟩
theorem vJ6_bitCount_0f7a4 : Cond.static mJ6_bitCount_0f7a4.1 ∈ lw_gd := gd_in (ti_2 (List.mem_of_getElem? (i := 154) rfl)) rfl
theorem oJ7_fill_53178 : mdok mJ7_fill_53178 2 := ⟨gd_in (ti_3 (List.mem_of_getElem? (i := 14) rfl)) rfl, gd_in (ti_1 (List.mem_of_getElem? (i := 16) rfl)) rfl, by decide +kernel, by decide +kernel, by decide +kernel⟩
theorem vJ7_fill_53178 : Cond.static mJ7_fill_53178.1 ∈ lw_gd := gd_in (ti_3 (List.mem_of_getElem? (i := 13) rfl)) rfl
theorem oJ9_max_7cf53 : mdok mJ9_max_7cf53 2 := ⟨gd_in (ti_3 (List.mem_of_getElem? (i := 41) rfl)) rfl, gd_in (ti_1 (List.mem_of_getElem? (i := 14) rfl)) rfl, by decide +kernel, by decide +kernel, by decide +kernel⟩
theorem vJ9_max_7cf53 : Cond.static mJ9_max_7cf53.1 ∈ lw_gd := gd_in (ti_3 (List.mem_of_getElem? (i := 40) rfl)) rfl
theorem oJ9_min_7cf53 : mdok mJ9_min_7cf53 2 := ⟨gd_in (ti_2 (List.mem_of_getElem? (i := 182) rfl)) rfl, gd_in (ti_1 (List.mem_of_getElem? (i := 14) rfl)) rfl, by decide +kernel, by decide +kernel, by decide +kernel⟩
theorem vJ9_min_7cf53 : Cond.static mJ9_min_7cf53.1 ∈ lw_gd := gd_in (ti_2 (List.mem_of_getElem? (i := 181) rfl)) rfl
theorem oX0_addEntry : mdok mX0_addEntry 2 := ⟨gd_in (ti_4 (List.mem_of_getElem? (i := 80) rfl)) rfl, gd_in (ti_1 (List.mem_of_getElem? (i := 7) rfl)) rfl, by decide +kernel, by decide +kernel, by decide +kernel⟩
theorem vX0_addEntry : mvok mX0_addEntry := ⟨gd_in (ti_4 (List.mem_of_getElem? (i := 78) rfl)) rfl, gd_in (ti_4 (List.mem_of_getElem? (i := 79) rfl)) rfl⟩
theorem oX0_firstWrong : mdok mX0_firstWrong 1 := ⟨gd_in (ti_4 (List.mem_of_getElem? (i := 92) rfl)) rfl, gd_in (ti_1 (List.mem_of_getElem? (i := 7) rfl)) rfl, by decide +kernel, by decide +kernel, by decide +kernel⟩
theorem vX0_firstWrong : mvok mX0_firstWrong := ⟨gd_in (ti_4 (List.mem_of_getElem? (i := 90) rfl)) rfl, gd_in (ti_4 (List.mem_of_getElem? (i := 91) rfl)) rfl⟩
theorem oX10_colour : mdok mX10_colour 2 := ⟨gd_in (ti_4 (List.mem_of_getElem? (i := 62) rfl)) rfl, gd_in (ti_1 (List.mem_of_getElem? (i := 1) rfl)) rfl, by decide +kernel, by decide +kernel, by decide +kernel⟩
theorem vX10_colour : mvok mX10_colour := ⟨gd_in (ti_4 (List.mem_of_getElem? (i := 60) rfl)) rfl, gd_in (ti_4 (List.mem_of_getElem? (i := 61) rfl)) rfl⟩
theorem oX10_crossingOf : mdok mX10_crossingOf 1 := ⟨gd_in (ti_3 (List.mem_of_getElem? (i := 6) rfl)) rfl, gd_in (ti_1 (List.mem_of_getElem? (i := 1) rfl)) rfl, by decide +kernel, by decide +kernel, by decide +kernel⟩
theorem vX10_crossingOf : Cond.static mX10_crossingOf.1 ∈ lw_gd := gd_in (ti_3 (List.mem_of_getElem? (i := 5) rfl)) rfl
theorem oX10_curl : mdok mX10_curl 3 := ⟨gd_in (ti_3 (List.mem_of_getElem? (i := 150) rfl)) rfl, gd_in (ti_1 (List.mem_of_getElem? (i := 1) rfl)) rfl, by decide +kernel, by decide +kernel, by decide +kernel⟩
theorem vX10_curl : mvok mX10_curl := ⟨gd_in (ti_3 (List.mem_of_getElem? (i := 148) rfl)) rfl, gd_in (ti_3 (List.mem_of_getElem? (i := 149) rfl)) rfl⟩
theorem oX10_curlByDraws : mdok mX10_curlByDraws 1 := ⟨gd_in (ti_3 (List.mem_of_getElem? (i := 223) rfl)) rfl, gd_in (ti_1 (List.mem_of_getElem? (i := 1) rfl)) rfl, by decide +kernel, by decide +kernel, by decide +kernel⟩
theorem vX10_curlByDraws : mvok mX10_curlByDraws := ⟨gd_in (ti_3 (List.mem_of_getElem? (i := 222) rfl)) rfl, gd_in (sel_in (n := 14) (List.mem_of_getElem? (i := 6) rfl)) rfl⟩
theorem oX10_draw : mdok mX10_draw 1 := ⟨gd_in (ti_3 (List.mem_of_getElem? (i := 209) rfl)) rfl, gd_in (ti_1 (List.mem_of_getElem? (i := 1) rfl)) rfl, by decide +kernel, by decide +kernel, by decide +kernel⟩
theorem vX10_draw : mvok mX10_draw := ⟨gd_in (ti_3 (List.mem_of_getElem? (i := 208) rfl)) rfl, gd_in (sel_in (n := 14) (List.mem_of_getElem? (i := 4) rfl)) rfl⟩
theorem oX10_drift : mdok mX10_drift 1 := ⟨gd_in (ti_3 (List.mem_of_getElem? (i := 201) rfl)) rfl, gd_in (ti_1 (List.mem_of_getElem? (i := 1) rfl)) rfl, by decide +kernel, by decide +kernel, by decide +kernel⟩
theorem vX10_drift : mvok mX10_drift := ⟨gd_in (ti_3 (List.mem_of_getElem? (i := 199) rfl)) rfl, gd_in (ti_3 (List.mem_of_getElem? (i := 200) rfl)) rfl⟩
theorem oX10_driftOnce : mdok mX10_driftOnce 0 := ⟨gd_in (ti_3 (List.mem_of_getElem? (i := 205) rfl)) rfl, gd_in (ti_1 (List.mem_of_getElem? (i := 1) rfl)) rfl, by decide +kernel, by decide +kernel, by decide +kernel⟩
theorem vX10_driftOnce : mvok mX10_driftOnce := ⟨gd_in (ti_3 (List.mem_of_getElem? (i := 204) rfl)) rfl, gd_in (sel_in (n := 14) (List.mem_of_getElem? (i := 3) rfl)) rfl⟩
theorem oX10_fault : mdok mX10_fault 0 := ⟨gd_in (ti_2 (List.mem_of_getElem? (i := 201) rfl)) rfl, gd_in (ti_1 (List.mem_of_getElem? (i := 1) rfl)) rfl, by decide +kernel, by decide +kernel, by decide +kernel⟩
theorem vX10_fault : mvok mX10_fault := ⟨gd_in (ti_2 (List.mem_of_getElem? (i := 199) rfl)) rfl, gd_in (ti_2 (List.mem_of_getElem? (i := 200) rfl)) rfl⟩
theorem oX10_feed : mdok mX10_feed 1 := ⟨gd_in (ti_2 (List.mem_of_getElem? (i := 87) rfl)) rfl, gd_in (ti_1 (List.mem_of_getElem? (i := 1) rfl)) rfl, by decide +kernel, by decide +kernel, by decide +kernel⟩
theorem vX10_feed : mvok mX10_feed := ⟨gd_in (ti_2 (List.mem_of_getElem? (i := 85) rfl)) rfl, gd_in (ti_2 (List.mem_of_getElem? (i := 86) rfl)) rfl⟩
theorem oX10_fewestSwitches : mdok mX10_fewestSwitches 1 := ⟨gd_in (ti_3 (List.mem_of_getElem? (i := 79) rfl)) rfl, gd_in (ti_1 (List.mem_of_getElem? (i := 1) rfl)) rfl, by decide +kernel, by decide +kernel, by decide +kernel⟩
theorem vX10_fewestSwitches : mvok mX10_fewestSwitches := ⟨gd_in (ti_3 (List.mem_of_getElem? (i := 78) rfl)) rfl, gd_in (sel_in (n := 14) (List.mem_of_getElem? (i := 2) rfl)) rfl⟩
theorem oX10_fewestUnsalted : mdok mX10_fewestUnsalted 1 := ⟨gd_in (ti_4 (List.mem_of_getElem? (i := 49) rfl)) rfl, gd_in (ti_1 (List.mem_of_getElem? (i := 1) rfl)) rfl, by decide +kernel, by decide +kernel, by decide +kernel⟩
theorem vX10_fewestUnsalted : mvok mX10_fewestUnsalted := ⟨gd_in (ti_4 (List.mem_of_getElem? (i := 48) rfl)) rfl, gd_in (sel_in (n := 14) (List.mem_of_getElem? (i := 7) rfl)) rfl⟩
theorem oX10_goBack : mdok mX10_goBack 1 := ⟨gd_in (ti_4 (List.mem_of_getElem? (i := 105) rfl)) rfl, gd_in (ti_1 (List.mem_of_getElem? (i := 1) rfl)) rfl, by decide +kernel, by decide +kernel, by decide +kernel⟩
theorem vX10_goBack : mvok mX10_goBack := ⟨gd_in (ti_4 (List.mem_of_getElem? (i := 103) rfl)) rfl, gd_in (ti_4 (List.mem_of_getElem? (i := 104) rfl)) rfl⟩
theorem oX10_isIn : mdok mX10_isIn 2 := ⟨gd_in (ti_2 (List.mem_of_getElem? (i := 147) rfl)) rfl, gd_in (ti_1 (List.mem_of_getElem? (i := 1) rfl)) rfl, by decide +kernel, by decide +kernel, by decide +kernel⟩
theorem vX10_isIn : Cond.static mX10_isIn.1 ∈ lw_gd := gd_in (ti_2 (List.mem_of_getElem? (i := 146) rfl)) rfl
theorem oX10_join : mdok mX10_join 2 := ⟨gd_in (ti_3 (List.mem_of_getElem? (i := 187) rfl)) rfl, gd_in (ti_1 (List.mem_of_getElem? (i := 1) rfl)) rfl, by decide +kernel, by decide +kernel, by decide +kernel⟩
theorem vX10_join : mvok mX10_join := ⟨gd_in (ti_3 (List.mem_of_getElem? (i := 185) rfl)) rfl, gd_in (ti_3 (List.mem_of_getElem? (i := 186) rfl)) rfl⟩
theorem oX10_judge : mdok mX10_judge 0 := ⟨gd_in (ti_4 (List.mem_of_getElem? (i := 88) rfl)) rfl, gd_in (ti_1 (List.mem_of_getElem? (i := 1) rfl)) rfl, by decide +kernel, by decide +kernel, by decide +kernel⟩
theorem vX10_judge : mvok mX10_judge := ⟨gd_in (ti_4 (List.mem_of_getElem? (i := 86) rfl)) rfl, gd_in (ti_4 (List.mem_of_getElem? (i := 87) rfl)) rfl⟩
theorem oX10_keep : mdok mX10_keep 1 := ⟨gd_in (ti_4 (List.mem_of_getElem? (i := 101) rfl)) rfl, gd_in (ti_1 (List.mem_of_getElem? (i := 1) rfl)) rfl, by decide +kernel, by decide +kernel, by decide +kernel⟩
theorem vX10_keep : mvok mX10_keep := ⟨gd_in (ti_4 (List.mem_of_getElem? (i := 99) rfl)) rfl, gd_in (ti_4 (List.mem_of_getElem? (i := 100) rfl)) rfl⟩
theorem oX10_leftOver : mdok mX10_leftOver 2 := ⟨gd_in (ti_3 (List.mem_of_getElem? (i := 55) rfl)) rfl, gd_in (ti_1 (List.mem_of_getElem? (i := 1) rfl)) rfl, by decide +kernel, by decide +kernel, by decide +kernel⟩
theorem vX10_leftOver : Cond.static mX10_leftOver.1 ∈ lw_gd := gd_in (ti_3 (List.mem_of_getElem? (i := 54) rfl)) rfl
theorem oX10_mirror : mdok mX10_mirror 1 := ⟨gd_in (ti_3 (List.mem_of_getElem? (i := 175) rfl)) rfl, gd_in (ti_1 (List.mem_of_getElem? (i := 1) rfl)) rfl, by decide +kernel, by decide +kernel, by decide +kernel⟩
theorem vX10_mirror : mvok mX10_mirror := ⟨gd_in (ti_3 (List.mem_of_getElem? (i := 173) rfl)) rfl, gd_in (ti_3 (List.mem_of_getElem? (i := 174) rfl)) rfl⟩
theorem oX10_moves : mdok mX10_moves 2 := ⟨gd_in (ti_3 (List.mem_of_getElem? (i := 106) rfl)) rfl, gd_in (ti_1 (List.mem_of_getElem? (i := 1) rfl)) rfl, by decide +kernel, by decide +kernel, by decide +kernel⟩
theorem vX10_moves : mvok mX10_moves := ⟨gd_in (ti_3 (List.mem_of_getElem? (i := 104) rfl)) rfl, gd_in (ti_3 (List.mem_of_getElem? (i := 105) rfl)) rfl⟩
theorem oX10_oddOnes : mdok mX10_oddOnes 1 := ⟨gd_in (ti_3 (List.mem_of_getElem? (i := 88) rfl)) rfl, gd_in (ti_1 (List.mem_of_getElem? (i := 1) rfl)) rfl, by decide +kernel, by decide +kernel, by decide +kernel⟩
theorem vX10_oddOnes : Cond.static mX10_oddOnes.1 ∈ lw_gd := gd_in (ti_3 (List.mem_of_getElem? (i := 87) rfl)) rfl
theorem oX10_pass : mdok mX10_pass 2 := ⟨gd_in (ti_3 (List.mem_of_getElem? (i := 98) rfl)) rfl, gd_in (ti_1 (List.mem_of_getElem? (i := 1) rfl)) rfl, by decide +kernel, by decide +kernel, by decide +kernel⟩
theorem vX10_pass : mvok mX10_pass := ⟨gd_in (ti_3 (List.mem_of_getElem? (i := 96) rfl)) rfl, gd_in (ti_3 (List.mem_of_getElem? (i := 97) rfl)) rfl⟩
theorem oX10_pretzel : mdok mX10_pretzel 2 := ⟨gd_in (ti_3 (List.mem_of_getElem? (i := 25) rfl)) rfl, gd_in (ti_1 (List.mem_of_getElem? (i := 1) rfl)) rfl, by decide +kernel, by decide +kernel, by decide +kernel⟩
theorem vX10_pretzel : mvok mX10_pretzel := ⟨gd_in (ti_3 (List.mem_of_getElem? (i := 23) rfl)) rfl, gd_in (ti_3 (List.mem_of_getElem? (i := 24) rfl)) rfl⟩
theorem oX10_reverse : mdok mX10_reverse 1 := ⟨gd_in (ti_3 (List.mem_of_getElem? (i := 167) rfl)) rfl, gd_in (ti_1 (List.mem_of_getElem? (i := 1) rfl)) rfl, by decide +kernel, by decide +kernel, by decide +kernel⟩
theorem vX10_reverse : mvok mX10_reverse := ⟨gd_in (ti_3 (List.mem_of_getElem? (i := 165) rfl)) rfl, gd_in (ti_3 (List.mem_of_getElem? (i := 166) rfl)) rfl⟩
theorem oX10_roll : mdok mX10_roll 1 := ⟨gd_in (ti_3 (List.mem_of_getElem? (i := 179) rfl)) rfl, gd_in (ti_1 (List.mem_of_getElem? (i := 1) rfl)) rfl, by decide +kernel, by decide +kernel, by decide +kernel⟩
theorem vX10_roll : mvok mX10_roll := ⟨gd_in (ti_3 (List.mem_of_getElem? (i := 177) rfl)) rfl, gd_in (ti_3 (List.mem_of_getElem? (i := 178) rfl)) rfl⟩
theorem oX10_salt : mdok mX10_salt 3 := ⟨gd_in (ti_3 (List.mem_of_getElem? (i := 196) rfl)) rfl, gd_in (ti_1 (List.mem_of_getElem? (i := 1) rfl)) rfl, by decide +kernel, by decide +kernel, by decide +kernel⟩
theorem vX10_salt : mvok mX10_salt := ⟨gd_in (ti_3 (List.mem_of_getElem? (i := 194) rfl)) rfl, gd_in (ti_3 (List.mem_of_getElem? (i := 195) rfl)) rfl⟩
theorem oX10_same : mdok mX10_same 2 := ⟨gd_in (ti_4 (List.mem_of_getElem? (i := 21) rfl)) rfl, gd_in (ti_1 (List.mem_of_getElem? (i := 1) rfl)) rfl, by decide +kernel, by decide +kernel, by decide +kernel⟩
theorem vX10_same : mvok mX10_same := ⟨gd_in (ti_4 (List.mem_of_getElem? (i := 19) rfl)) rfl, gd_in (ti_4 (List.mem_of_getElem? (i := 20) rfl)) rfl⟩
theorem oX10_seed : mdok mX10_seed 1 := ⟨gd_in (ti_4 (List.mem_of_getElem? (i := 97) rfl)) rfl, gd_in (ti_1 (List.mem_of_getElem? (i := 1) rfl)) rfl, by decide +kernel, by decide +kernel, by decide +kernel⟩
theorem vX10_seed : mvok mX10_seed := ⟨gd_in (ti_4 (List.mem_of_getElem? (i := 95) rfl)) rfl, gd_in (ti_4 (List.mem_of_getElem? (i := 96) rfl)) rfl⟩
theorem oX10_shake : mdok mX10_shake 3 := ⟨gd_in (ti_3 (List.mem_of_getElem? (i := 118) rfl)) rfl, gd_in (ti_1 (List.mem_of_getElem? (i := 1) rfl)) rfl, by decide +kernel, by decide +kernel, by decide +kernel⟩
theorem vX10_shake : mvok mX10_shake := ⟨gd_in (ti_3 (List.mem_of_getElem? (i := 116) rfl)) rfl, gd_in (ti_3 (List.mem_of_getElem? (i := 117) rfl)) rfl⟩
theorem oX10_shakeByFirstMove : mdok mX10_shakeByFirstMove 1 := ⟨gd_in (ti_3 (List.mem_of_getElem? (i := 218) rfl)) rfl, gd_in (ti_1 (List.mem_of_getElem? (i := 1) rfl)) rfl, by decide +kernel, by decide +kernel, by decide +kernel⟩
theorem vX10_shakeByFirstMove : mvok mX10_shakeByFirstMove := ⟨gd_in (ti_3 (List.mem_of_getElem? (i := 217) rfl)) rfl, gd_in (sel_in (n := 14) (List.mem_of_getElem? (i := 5) rfl)) rfl⟩
theorem oX10_shakenOutOnes : mdok mX10_shakenOutOnes 0 := ⟨gd_in (ti_2 (List.mem_of_getElem? (i := 222) rfl)) rfl, gd_in (ti_1 (List.mem_of_getElem? (i := 1) rfl)) rfl, by decide +kernel, by decide +kernel, by decide +kernel⟩
theorem vX10_shakenOutOnes : mvok mX10_shakenOutOnes := ⟨gd_in (ti_2 (List.mem_of_getElem? (i := 221) rfl)) rfl, gd_in (sel_in (n := 14) (List.mem_of_getElem? (i := 0) rfl)) rfl⟩
theorem oX10_takenBy : mdok mX10_takenBy 1 := ⟨gd_in (ti_3 (List.mem_of_getElem? (i := 21) rfl)) rfl, gd_in (ti_1 (List.mem_of_getElem? (i := 1) rfl)) rfl, by decide +kernel, by decide +kernel, by decide +kernel⟩
theorem vX10_takenBy : Cond.static mX10_takenBy.1 ∈ lw_gd := gd_in (ti_3 (List.mem_of_getElem? (i := 20) rfl)) rfl
theorem oX10_tear : mdok mX10_tear 0 := ⟨gd_in (ti_4 (List.mem_of_getElem? (i := 84) rfl)) rfl, gd_in (ti_1 (List.mem_of_getElem? (i := 1) rfl)) rfl, by decide +kernel, by decide +kernel, by decide +kernel⟩
theorem vX10_tear : mvok mX10_tear := ⟨gd_in (ti_4 (List.mem_of_getElem? (i := 82) rfl)) rfl, gd_in (ti_4 (List.mem_of_getElem? (i := 83) rfl)) rfl⟩
theorem oX10_tells : mdok mX10_tells 2 := ⟨gd_in (ti_4 (List.mem_of_getElem? (i := 45) rfl)) rfl, gd_in (ti_1 (List.mem_of_getElem? (i := 1) rfl)) rfl, by decide +kernel, by decide +kernel, by decide +kernel⟩
theorem vX10_tells : mvok mX10_tells := ⟨gd_in (ti_4 (List.mem_of_getElem? (i := 43) rfl)) rfl, gd_in (ti_4 (List.mem_of_getElem? (i := 44) rfl)) rfl⟩
theorem oX10_toShake : mdok mX10_toShake 2 := ⟨gd_in (ti_3 (List.mem_of_getElem? (i := 235) rfl)) rfl, gd_in (ti_1 (List.mem_of_getElem? (i := 1) rfl)) rfl, by decide +kernel, by decide +kernel, by decide +kernel⟩
theorem vX10_toShake : mvok mX10_toShake := ⟨gd_in (ti_3 (List.mem_of_getElem? (i := 233) rfl)) rfl, gd_in (ti_3 (List.mem_of_getElem? (i := 234) rfl)) rfl⟩
theorem oX10_told : mdok mX10_told 1 := ⟨gd_in (ti_2 (List.mem_of_getElem? (i := 205) rfl)) rfl, gd_in (ti_1 (List.mem_of_getElem? (i := 1) rfl)) rfl, by decide +kernel, by decide +kernel, by decide +kernel⟩
theorem vX10_told : mvok mX10_told := ⟨gd_in (ti_2 (List.mem_of_getElem? (i := 203) rfl)) rfl, gd_in (ti_2 (List.mem_of_getElem? (i := 204) rfl)) rfl⟩
theorem oX10_tray : mdok mX10_tray 0 := ⟨gd_in (ti_2 (List.mem_of_getElem? (i := 97) rfl)) rfl, gd_in (ti_1 (List.mem_of_getElem? (i := 1) rfl)) rfl, by decide +kernel, by decide +kernel, by decide +kernel⟩
theorem vX10_tray : mvok mX10_tray := ⟨gd_in (ti_2 (List.mem_of_getElem? (i := 95) rfl)) rfl, gd_in (ti_2 (List.mem_of_getElem? (i := 96) rfl)) rfl⟩
theorem oX10_turn : mdok mX10_turn 2 := ⟨gd_in (ti_3 (List.mem_of_getElem? (i := 159) rfl)) rfl, gd_in (ti_1 (List.mem_of_getElem? (i := 1) rfl)) rfl, by decide +kernel, by decide +kernel, by decide +kernel⟩
theorem vX10_turn : mvok mX10_turn := ⟨gd_in (ti_3 (List.mem_of_getElem? (i := 157) rfl)) rfl, gd_in (ti_3 (List.mem_of_getElem? (i := 158) rfl)) rfl⟩
theorem oX10_undo : mdok mX10_undo 0 := ⟨gd_in (ti_3 (List.mem_of_getElem? (i := 227) rfl)) rfl, gd_in (ti_1 (List.mem_of_getElem? (i := 1) rfl)) rfl, by decide +kernel, by decide +kernel, by decide +kernel⟩
theorem vX10_undo : mvok mX10_undo := ⟨gd_in (ti_3 (List.mem_of_getElem? (i := 225) rfl)) rfl, gd_in (ti_3 (List.mem_of_getElem? (i := 226) rfl)) rfl⟩
theorem oX10_weakOnes : mdok mX10_weakOnes 1 := ⟨gd_in (ti_3 (List.mem_of_getElem? (i := 75) rfl)) rfl, gd_in (ti_1 (List.mem_of_getElem? (i := 1) rfl)) rfl, by decide +kernel, by decide +kernel, by decide +kernel⟩
theorem vX10_weakOnes : mvok mX10_weakOnes := ⟨gd_in (ti_3 (List.mem_of_getElem? (i := 74) rfl)) rfl, gd_in (sel_in (n := 14) (List.mem_of_getElem? (i := 1) rfl)) rfl⟩
theorem oX10_whole : mdok mX10_whole 2 := ⟨gd_in (ti_4 (List.mem_of_getElem? (i := 70) rfl)) rfl, gd_in (ti_1 (List.mem_of_getElem? (i := 1) rfl)) rfl, by decide +kernel, by decide +kernel, by decide +kernel⟩
theorem vX10_whole : mvok mX10_whole := ⟨gd_in (ti_4 (List.mem_of_getElem? (i := 68) rfl)) rfl, gd_in (ti_4 (List.mem_of_getElem? (i := 69) rfl)) rfl⟩
theorem oX10_within : mdok mX10_within 2 := ⟨gd_in (ti_4 (List.mem_of_getElem? (i := 17) rfl)) rfl, gd_in (ti_1 (List.mem_of_getElem? (i := 1) rfl)) rfl, by decide +kernel, by decide +kernel, by decide +kernel⟩
theorem vX10_within : mvok mX10_within := ⟨gd_in (ti_4 (List.mem_of_getElem? (i := 15) rfl)) rfl, gd_in (ti_4 (List.mem_of_getElem? (i := 16) rfl)) rfl⟩
theorem oX10_words : mdok mX10_words 2 := ⟨gd_in (ti_4 (List.mem_of_getElem? (i := 53) rfl)) rfl, gd_in (ti_1 (List.mem_of_getElem? (i := 1) rfl)) rfl, by decide +kernel, by decide +kernel, by decide +kernel⟩
theorem vX10_words : mvok mX10_words := ⟨gd_in (ti_4 (List.mem_of_getElem? (i := 51) rfl)) rfl, gd_in (ti_4 (List.mem_of_getElem? (i := 52) rfl)) rfl⟩
theorem oX10_write : mdok mX10_write 2 := ⟨gd_in (ti_4 (List.mem_of_getElem? (i := 76) rfl)) rfl, gd_in (ti_1 (List.mem_of_getElem? (i := 1) rfl)) rfl, by decide +kernel, by decide +kernel, by decide +kernel⟩
theorem vX10_write : mvok mX10_write := ⟨gd_in (ti_4 (List.mem_of_getElem? (i := 74) rfl)) rfl, gd_in (ti_4 (List.mem_of_getElem? (i := 75) rfl)) rfl⟩
theorem oX11_base : mdok mX11_base 1 := ⟨gd_in (ti_5 (List.mem_of_getElem? (i := 40) rfl)) rfl, gd_in (ti_1 (List.mem_of_getElem? (i := 12) rfl)) rfl, by decide +kernel, by decide +kernel, by decide +kernel⟩
theorem vX11_base : mvok mX11_base := ⟨gd_in (ti_5 (List.mem_of_getElem? (i := 39) rfl)) rfl, gd_in (sel_in (n := 35) (List.mem_of_getElem? (i := 16) rfl)) rfl⟩
theorem oX11_bits : mdok mX11_bits 1 := ⟨gd_in (ti_5 (List.mem_of_getElem? (i := 100) rfl)) rfl, gd_in (ti_1 (List.mem_of_getElem? (i := 12) rfl)) rfl, by decide +kernel, by decide +kernel, by decide +kernel⟩
theorem vX11_bits : Cond.static mX11_bits.1 ∈ lw_gd := gd_in (ti_5 (List.mem_of_getElem? (i := 99) rfl)) rfl
theorem oX11_blames : mdok mX11_blames 2 := ⟨gd_in (ti_5 (List.mem_of_getElem? (i := 4) rfl)) rfl, gd_in (ti_1 (List.mem_of_getElem? (i := 12) rfl)) rfl, by decide +kernel, by decide +kernel, by decide +kernel⟩
theorem vX11_blames : mvok mX11_blames := ⟨gd_in (ti_5 (List.mem_of_getElem? (i := 3) rfl)) rfl, gd_in (sel_in (n := 35) (List.mem_of_getElem? (i := 10) rfl)) rfl⟩
theorem oX11_clears : mdok mX11_clears 4 := ⟨gd_in (ti_5 (List.mem_of_getElem? (i := 141) rfl)) rfl, gd_in (ti_1 (List.mem_of_getElem? (i := 12) rfl)) rfl, by decide +kernel, by decide +kernel, by decide +kernel⟩
theorem vX11_clears : mvok mX11_clears := ⟨gd_in (ti_5 (List.mem_of_getElem? (i := 140) rfl)) rfl, gd_in (sel_in (n := 35) (List.mem_of_getElem? (i := 32) rfl)) rfl⟩
theorem oX11_colour : mdok mX11_colour 2 := ⟨gd_in (ti_5 (List.mem_of_getElem? (i := 104) rfl)) rfl, gd_in (ti_1 (List.mem_of_getElem? (i := 12) rfl)) rfl, by decide +kernel, by decide +kernel, by decide +kernel⟩
theorem vX11_colour : mvok mX11_colour := ⟨gd_in (ti_5 (List.mem_of_getElem? (i := 102) rfl)) rfl, gd_in (ti_5 (List.mem_of_getElem? (i := 103) rfl)) rfl⟩
theorem oX11_colours : mdok mX11_colours 1 := ⟨gd_in (ti_5 (List.mem_of_getElem? (i := 133) rfl)) rfl, gd_in (ti_1 (List.mem_of_getElem? (i := 12) rfl)) rfl, by decide +kernel, by decide +kernel, by decide +kernel⟩
theorem vX11_colours : mvok mX11_colours := ⟨gd_in (ti_5 (List.mem_of_getElem? (i := 132) rfl)) rfl, gd_in (sel_in (n := 35) (List.mem_of_getElem? (i := 30) rfl)) rfl⟩
theorem oX11_comesTo : mdok mX11_comesTo 3 := ⟨gd_in (ti_5 (List.mem_of_getElem? (i := 97) rfl)) rfl, gd_in (ti_1 (List.mem_of_getElem? (i := 12) rfl)) rfl, by decide +kernel, by decide +kernel, by decide +kernel⟩
theorem vX11_comesTo : mvok mX11_comesTo := ⟨gd_in (ti_5 (List.mem_of_getElem? (i := 96) rfl)) rfl, gd_in (sel_in (n := 35) (List.mem_of_getElem? (i := 26) rfl)) rfl⟩
theorem oX11_copies : mdok mX11_copies 2 := ⟨gd_in (ti_5 (List.mem_of_getElem? (i := 214) rfl)) rfl, gd_in (ti_1 (List.mem_of_getElem? (i := 12) rfl)) rfl, by decide +kernel, by decide +kernel, by decide +kernel⟩
theorem vX11_copies : mvok mX11_copies := ⟨gd_in (ti_5 (List.mem_of_getElem? (i := 213) rfl)) rfl, gd_in (sel_in (n := 35) (List.mem_of_getElem? (i := 44) rfl)) rfl⟩
theorem oX11_crossings : mdok mX11_crossings 1 := ⟨gd_in (ti_5 (List.mem_of_getElem? (i := 108) rfl)) rfl, gd_in (ti_1 (List.mem_of_getElem? (i := 12) rfl)) rfl, by decide +kernel, by decide +kernel, by decide +kernel⟩
theorem vX11_crossings : mvok mX11_crossings := ⟨gd_in (ti_5 (List.mem_of_getElem? (i := 107) rfl)) rfl, gd_in (sel_in (n := 35) (List.mem_of_getElem? (i := 27) rfl)) rfl⟩
theorem oX11_curl : mdok mX11_curl 3 := ⟨gd_in (ti_5 (List.mem_of_getElem? (i := 222) rfl)) rfl, gd_in (ti_1 (List.mem_of_getElem? (i := 12) rfl)) rfl, by decide +kernel, by decide +kernel, by decide +kernel⟩
theorem vX11_curl : mvok mX11_curl := ⟨gd_in (ti_5 (List.mem_of_getElem? (i := 220) rfl)) rfl, gd_in (ti_5 (List.mem_of_getElem? (i := 221) rfl)) rfl⟩
theorem oX11_curls : mdok mX11_curls 3 := ⟨gd_in (ti_5 (List.mem_of_getElem? (i := 226) rfl)) rfl, gd_in (ti_1 (List.mem_of_getElem? (i := 12) rfl)) rfl, by decide +kernel, by decide +kernel, by decide +kernel⟩
theorem vX11_curls : mvok mX11_curls := ⟨gd_in (ti_5 (List.mem_of_getElem? (i := 225) rfl)) rfl, gd_in (sel_in (n := 35) (List.mem_of_getElem? (i := 46) rfl)) rfl⟩
theorem oX11_draw : mdok mX11_draw 1 := ⟨gd_in (ti_6 (List.mem_of_getElem? (i := 28) rfl)) rfl, gd_in (ti_1 (List.mem_of_getElem? (i := 12) rfl)) rfl, by decide +kernel, by decide +kernel, by decide +kernel⟩
theorem vX11_draw : mvok mX11_draw := ⟨gd_in (ti_6 (List.mem_of_getElem? (i := 27) rfl)) rfl, gd_in (sel_in (n := 35) (List.mem_of_getElem? (i := 49) rfl)) rfl⟩
theorem oX11_drift : mdok mX11_drift 1 := ⟨gd_in (ti_6 (List.mem_of_getElem? (i := 19) rfl)) rfl, gd_in (ti_1 (List.mem_of_getElem? (i := 12) rfl)) rfl, by decide +kernel, by decide +kernel, by decide +kernel⟩
theorem vX11_drift : mvok mX11_drift := ⟨gd_in (ti_6 (List.mem_of_getElem? (i := 17) rfl)) rfl, gd_in (ti_6 (List.mem_of_getElem? (i := 18) rfl)) rfl⟩
theorem oX11_drifts : mdok mX11_drifts 0 := ⟨gd_in (ti_6 (List.mem_of_getElem? (i := 24) rfl)) rfl, gd_in (ti_1 (List.mem_of_getElem? (i := 12) rfl)) rfl, by decide +kernel, by decide +kernel, by decide +kernel⟩
theorem vX11_drifts : mvok mX11_drifts := ⟨gd_in (ti_6 (List.mem_of_getElem? (i := 23) rfl)) rfl, gd_in (sel_in (n := 35) (List.mem_of_getElem? (i := 48) rfl)) rfl⟩
theorem oX11_drops : mdok mX11_drops 1 := ⟨gd_in (ti_5 (List.mem_of_getElem? (i := 218) rfl)) rfl, gd_in (ti_1 (List.mem_of_getElem? (i := 12) rfl)) rfl, by decide +kernel, by decide +kernel, by decide +kernel⟩
theorem vX11_drops : mvok mX11_drops := ⟨gd_in (ti_5 (List.mem_of_getElem? (i := 217) rfl)) rfl, gd_in (sel_in (n := 35) (List.mem_of_getElem? (i := 45) rfl)) rfl⟩
theorem oX11_ends : mdok mX11_ends 0 := ⟨gd_in (ti_5 (List.mem_of_getElem? (i := 14) rfl)) rfl, gd_in (ti_1 (List.mem_of_getElem? (i := 12) rfl)) rfl, by decide +kernel, by decide +kernel, by decide +kernel⟩
theorem vX11_ends : mvok mX11_ends := ⟨gd_in (ti_5 (List.mem_of_getElem? (i := 13) rfl)) rfl, gd_in (sel_in (n := 35) (List.mem_of_getElem? (i := 12) rfl)) rfl⟩
theorem oX11_fault : mdok mX11_fault 0 := ⟨gd_in (ti_5 (List.mem_of_getElem? (i := 44) rfl)) rfl, gd_in (ti_1 (List.mem_of_getElem? (i := 12) rfl)) rfl, by decide +kernel, by decide +kernel, by decide +kernel⟩
theorem vX11_fault : mvok mX11_fault := ⟨gd_in (ti_5 (List.mem_of_getElem? (i := 42) rfl)) rfl, gd_in (ti_5 (List.mem_of_getElem? (i := 43) rfl)) rfl⟩
theorem oX11_feed : mdok mX11_feed 1 := ⟨gd_in (ti_4 (List.mem_of_getElem? (i := 222) rfl)) rfl, gd_in (ti_1 (List.mem_of_getElem? (i := 12) rfl)) rfl, by decide +kernel, by decide +kernel, by decide +kernel⟩
theorem vX11_feed : mvok mX11_feed := ⟨gd_in (ti_4 (List.mem_of_getElem? (i := 220) rfl)) rfl, gd_in (ti_4 (List.mem_of_getElem? (i := 221) rfl)) rfl⟩
theorem oX11_goBack : mdok mX11_goBack 1 := ⟨gd_in (ti_6 (List.mem_of_getElem? (i := 68) rfl)) rfl, gd_in (ti_1 (List.mem_of_getElem? (i := 12) rfl)) rfl, by decide +kernel, by decide +kernel, by decide +kernel⟩
theorem vX11_goBack : mvok mX11_goBack := ⟨gd_in (ti_6 (List.mem_of_getElem? (i := 66) rfl)) rfl, gd_in (ti_6 (List.mem_of_getElem? (i := 67) rfl)) rfl⟩
theorem oX11_grains : mdok mX11_grains 0 := ⟨gd_in (ti_5 (List.mem_of_getElem? (i := 8) rfl)) rfl, gd_in (ti_1 (List.mem_of_getElem? (i := 12) rfl)) rfl, by decide +kernel, by decide +kernel, by decide +kernel⟩
theorem vX11_grains : mvok mX11_grains := ⟨gd_in (ti_5 (List.mem_of_getElem? (i := 7) rfl)) rfl, gd_in (sel_in (n := 35) (List.mem_of_getElem? (i := 11) rfl)) rfl⟩
theorem oX11_has : mdok mX11_has 2 := ⟨gd_in (ti_5 (List.mem_of_getElem? (i := 36) rfl)) rfl, gd_in (ti_1 (List.mem_of_getElem? (i := 12) rfl)) rfl, by decide +kernel, by decide +kernel, by decide +kernel⟩
theorem vX11_has : Cond.static mX11_has.1 ∈ lw_gd := gd_in (ti_5 (List.mem_of_getElem? (i := 35) rfl)) rfl
theorem oX11_in : mdok mX11_in 3 := ⟨gd_in (ti_4 (List.mem_of_getElem? (i := 226) rfl)) rfl, gd_in (ti_1 (List.mem_of_getElem? (i := 12) rfl)) rfl, by decide +kernel, by decide +kernel, by decide +kernel⟩
theorem vX11_in : Cond.static mX11_in.1 ∈ lw_gd := gd_in (ti_4 (List.mem_of_getElem? (i := 225) rfl)) rfl
theorem oX11_inside : mdok mX11_inside 1 := ⟨gd_in (ti_5 (List.mem_of_getElem? (i := 165) rfl)) rfl, gd_in (ti_1 (List.mem_of_getElem? (i := 12) rfl)) rfl, by decide +kernel, by decide +kernel, by decide +kernel⟩
theorem vX11_inside : mvok mX11_inside := ⟨gd_in (ti_5 (List.mem_of_getElem? (i := 164) rfl)) rfl, gd_in (sel_in (n := 35) (List.mem_of_getElem? (i := 38) rfl)) rfl⟩
theorem oX11_isBeside : mdok mX11_isBeside 2 := ⟨gd_in (ti_5 (List.mem_of_getElem? (i := 77) rfl)) rfl, gd_in (ti_1 (List.mem_of_getElem? (i := 12) rfl)) rfl, by decide +kernel, by decide +kernel, by decide +kernel⟩
theorem vX11_isBeside : mvok mX11_isBeside := ⟨gd_in (ti_5 (List.mem_of_getElem? (i := 76) rfl)) rfl, gd_in (sel_in (n := 35) (List.mem_of_getElem? (i := 23) rfl)) rfl⟩
theorem oX11_isCrossing : mdok mX11_isCrossing 2 := ⟨gd_in (ti_5 (List.mem_of_getElem? (i := 177) rfl)) rfl, gd_in (ti_1 (List.mem_of_getElem? (i := 12) rfl)) rfl, by decide +kernel, by decide +kernel, by decide +kernel⟩
theorem vX11_isCrossing : mvok mX11_isCrossing := ⟨gd_in (ti_5 (List.mem_of_getElem? (i := 176) rfl)) rfl, gd_in (sel_in (n := 35) (List.mem_of_getElem? (i := 39) rfl)) rfl⟩
theorem oX11_isMove : mdok mX11_isMove 4 := ⟨gd_in (ti_5 (List.mem_of_getElem? (i := 73) rfl)) rfl, gd_in (ti_1 (List.mem_of_getElem? (i := 12) rfl)) rfl, by decide +kernel, by decide +kernel, by decide +kernel⟩
theorem vX11_isMove : mvok mX11_isMove := ⟨gd_in (ti_5 (List.mem_of_getElem? (i := 72) rfl)) rfl, gd_in (sel_in (n := 35) (List.mem_of_getElem? (i := 22) rfl)) rfl⟩
theorem oX11_isOne : mdok mX11_isOne 1 := ⟨gd_in (ti_5 (List.mem_of_getElem? (i := 52) rfl)) rfl, gd_in (ti_1 (List.mem_of_getElem? (i := 12) rfl)) rfl, by decide +kernel, by decide +kernel, by decide +kernel⟩
theorem vX11_isOne : mvok mX11_isOne := ⟨gd_in (ti_5 (List.mem_of_getElem? (i := 51) rfl)) rfl, gd_in (sel_in (n := 35) (List.mem_of_getElem? (i := 17) rfl)) rfl⟩
theorem oX11_isOut : mdok mX11_isOut 1 := ⟨gd_in (ti_5 (List.mem_of_getElem? (i := 149) rfl)) rfl, gd_in (ti_1 (List.mem_of_getElem? (i := 12) rfl)) rfl, by decide +kernel, by decide +kernel, by decide +kernel⟩
theorem vX11_isOut : mvok mX11_isOut := ⟨gd_in (ti_5 (List.mem_of_getElem? (i := 148) rfl)) rfl, gd_in (sel_in (n := 35) (List.mem_of_getElem? (i := 34) rfl)) rfl⟩
theorem oX11_isSame : mdok mX11_isSame 1 := ⟨gd_in (ti_5 (List.mem_of_getElem? (i := 193) rfl)) rfl, gd_in (ti_1 (List.mem_of_getElem? (i := 12) rfl)) rfl, by decide +kernel, by decide +kernel, by decide +kernel⟩
theorem vX11_isSame : mvok mX11_isSame := ⟨gd_in (ti_5 (List.mem_of_getElem? (i := 192) rfl)) rfl, gd_in (sel_in (n := 35) (List.mem_of_getElem? (i := 42) rfl)) rfl⟩
theorem oX11_isTwo : mdok mX11_isTwo 2 := ⟨gd_in (ti_5 (List.mem_of_getElem? (i := 185) rfl)) rfl, gd_in (ti_1 (List.mem_of_getElem? (i := 12) rfl)) rfl, by decide +kernel, by decide +kernel, by decide +kernel⟩
theorem vX11_isTwo : mvok mX11_isTwo := ⟨gd_in (ti_5 (List.mem_of_getElem? (i := 184) rfl)) rfl, gd_in (sel_in (n := 35) (List.mem_of_getElem? (i := 40) rfl)) rfl⟩
theorem oX11_isWay : mdok mX11_isWay 1 := ⟨gd_in (ti_5 (List.mem_of_getElem? (i := 116) rfl)) rfl, gd_in (ti_1 (List.mem_of_getElem? (i := 12) rfl)) rfl, by decide +kernel, by decide +kernel, by decide +kernel⟩
theorem vX11_isWay : mvok mX11_isWay := ⟨gd_in (ti_5 (List.mem_of_getElem? (i := 115) rfl)) rfl, gd_in (sel_in (n := 35) (List.mem_of_getElem? (i := 29) rfl)) rfl⟩
theorem oX11_join : mdok mX11_join 2 := ⟨gd_in (ti_6 (List.mem_of_getElem? (i := 11) rfl)) rfl, gd_in (ti_1 (List.mem_of_getElem? (i := 12) rfl)) rfl, by decide +kernel, by decide +kernel, by decide +kernel⟩
theorem vX11_join : mvok mX11_join := ⟨gd_in (ti_6 (List.mem_of_getElem? (i := 9) rfl)) rfl, gd_in (ti_6 (List.mem_of_getElem? (i := 10) rfl)) rfl⟩
theorem oX11_judge : mdok mX11_judge 0 := ⟨gd_in (ti_6 (List.mem_of_getElem? (i := 56) rfl)) rfl, gd_in (ti_1 (List.mem_of_getElem? (i := 12) rfl)) rfl, by decide +kernel, by decide +kernel, by decide +kernel⟩
theorem vX11_judge : mvok mX11_judge := ⟨gd_in (ti_6 (List.mem_of_getElem? (i := 54) rfl)) rfl, gd_in (ti_6 (List.mem_of_getElem? (i := 55) rfl)) rfl⟩
theorem oX11_keep : mdok mX11_keep 1 := ⟨gd_in (ti_6 (List.mem_of_getElem? (i := 64) rfl)) rfl, gd_in (ti_1 (List.mem_of_getElem? (i := 12) rfl)) rfl, by decide +kernel, by decide +kernel, by decide +kernel⟩
theorem vX11_keep : mvok mX11_keep := ⟨gd_in (ti_6 (List.mem_of_getElem? (i := 62) rfl)) rfl, gd_in (ti_6 (List.mem_of_getElem? (i := 63) rfl)) rfl⟩
theorem oX11_known : mdok mX11_known 0 := ⟨gd_in (ti_5 (List.mem_of_getElem? (i := 210) rfl)) rfl, gd_in (ti_1 (List.mem_of_getElem? (i := 12) rfl)) rfl, by decide +kernel, by decide +kernel, by decide +kernel⟩
theorem vX11_known : mvok mX11_known := ⟨gd_in (ti_5 (List.mem_of_getElem? (i := 209) rfl)) rfl, gd_in (sel_in (n := 35) (List.mem_of_getElem? (i := 43) rfl)) rfl⟩
theorem oX11_leaves : mdok mX11_leaves 1 := ⟨gd_in (ti_5 (List.mem_of_getElem? (i := 69) rfl)) rfl, gd_in (ti_1 (List.mem_of_getElem? (i := 12) rfl)) rfl, by decide +kernel, by decide +kernel, by decide +kernel⟩
theorem vX11_leaves : mvok mX11_leaves := ⟨gd_in (ti_5 (List.mem_of_getElem? (i := 68) rfl)) rfl, gd_in (sel_in (n := 35) (List.mem_of_getElem? (i := 21) rfl)) rfl⟩
theorem oX11_left : mdok mX11_left 2 := ⟨gd_in (ti_5 (List.mem_of_getElem? (i := 119) rfl)) rfl, gd_in (ti_1 (List.mem_of_getElem? (i := 12) rfl)) rfl, by decide +kernel, by decide +kernel, by decide +kernel⟩
theorem vX11_left : Cond.static mX11_left.1 ∈ lw_gd := gd_in (ti_5 (List.mem_of_getElem? (i := 118) rfl)) rfl
theorem oX11_loads : mdok mX11_loads 1 := ⟨gd_in (ti_5 (List.mem_of_getElem? (i := 57) rfl)) rfl, gd_in (ti_1 (List.mem_of_getElem? (i := 12) rfl)) rfl, by decide +kernel, by decide +kernel, by decide +kernel⟩
theorem vX11_loads : mvok mX11_loads := ⟨gd_in (ti_5 (List.mem_of_getElem? (i := 56) rfl)) rfl, gd_in (sel_in (n := 35) (List.mem_of_getElem? (i := 18) rfl)) rfl⟩
theorem oX11_mirror : mdok mX11_mirror 1 := ⟨gd_in (ti_5 (List.mem_of_getElem? (i := 238) rfl)) rfl, gd_in (ti_1 (List.mem_of_getElem? (i := 12) rfl)) rfl, by decide +kernel, by decide +kernel, by decide +kernel⟩
theorem vX11_mirror : mvok mX11_mirror := ⟨gd_in (ti_5 (List.mem_of_getElem? (i := 236) rfl)) rfl, gd_in (ti_5 (List.mem_of_getElem? (i := 237) rfl)) rfl⟩
theorem oX11_moveOf : mdok mX11_moveOf 1 := ⟨gd_in (ti_5 (List.mem_of_getElem? (i := 65) rfl)) rfl, gd_in (ti_1 (List.mem_of_getElem? (i := 12) rfl)) rfl, by decide +kernel, by decide +kernel, by decide +kernel⟩
theorem vX11_moveOf : mvok mX11_moveOf := ⟨gd_in (ti_5 (List.mem_of_getElem? (i := 64) rfl)) rfl, gd_in (sel_in (n := 35) (List.mem_of_getElem? (i := 20) rfl)) rfl⟩
theorem oX11_moves : mdok mX11_moves 2 := ⟨gd_in (ti_5 (List.mem_of_getElem? (i := 48) rfl)) rfl, gd_in (ti_1 (List.mem_of_getElem? (i := 12) rfl)) rfl, by decide +kernel, by decide +kernel, by decide +kernel⟩
theorem vX11_moves : mvok mX11_moves := ⟨gd_in (ti_5 (List.mem_of_getElem? (i := 46) rfl)) rfl, gd_in (ti_5 (List.mem_of_getElem? (i := 47) rfl)) rfl⟩
theorem oX11_nameOf : mdok mX11_nameOf 1 := ⟨gd_in (ti_5 (List.mem_of_getElem? (i := 21) rfl)) rfl, gd_in (ti_1 (List.mem_of_getElem? (i := 12) rfl)) rfl, by decide +kernel, by decide +kernel, by decide +kernel⟩
theorem vX11_nameOf : Cond.static mX11_nameOf.1 ∈ lw_gd := gd_in (ti_5 (List.mem_of_getElem? (i := 20) rfl)) rfl
theorem oX11_next : mdok mX11_next 0 := ⟨gd_in (ti_5 (List.mem_of_getElem? (i := 0) rfl)) rfl, gd_in (ti_1 (List.mem_of_getElem? (i := 12) rfl)) rfl, by decide +kernel, by decide +kernel, by decide +kernel⟩
theorem vX11_next : mvok mX11_next := ⟨gd_in (ti_4 (List.mem_of_getElem? (i := 239) rfl)) rfl, gd_in (sel_in (n := 35) (List.mem_of_getElem? (i := 9) rfl)) rfl⟩
theorem oX11_numbers : mdok mX11_numbers 1 := ⟨gd_in (ti_5 (List.mem_of_getElem? (i := 33) rfl)) rfl, gd_in (ti_1 (List.mem_of_getElem? (i := 12) rfl)) rfl, by decide +kernel, by decide +kernel, by decide +kernel⟩
theorem vX11_numbers : mvok mX11_numbers := ⟨gd_in (ti_5 (List.mem_of_getElem? (i := 32) rfl)) rfl, gd_in (sel_in (n := 35) (List.mem_of_getElem? (i := 15) rfl)) rfl⟩
theorem oX11_odd : mdok mX11_odd 0 := ⟨gd_in (ti_5 (List.mem_of_getElem? (i := 161) rfl)) rfl, gd_in (ti_1 (List.mem_of_getElem? (i := 12) rfl)) rfl, by decide +kernel, by decide +kernel, by decide +kernel⟩
theorem vX11_odd : mvok mX11_odd := ⟨gd_in (ti_5 (List.mem_of_getElem? (i := 160) rfl)) rfl, gd_in (sel_in (n := 35) (List.mem_of_getElem? (i := 37) rfl)) rfl⟩
theorem oX11_parts : mdok mX11_parts 0 := ⟨gd_in (ti_5 (List.mem_of_getElem? (i := 112) rfl)) rfl, gd_in (ti_1 (List.mem_of_getElem? (i := 12) rfl)) rfl, by decide +kernel, by decide +kernel, by decide +kernel⟩
theorem vX11_parts : mvok mX11_parts := ⟨gd_in (ti_5 (List.mem_of_getElem? (i := 111) rfl)) rfl, gd_in (sel_in (n := 35) (List.mem_of_getElem? (i := 28) rfl)) rfl⟩
theorem oX11_pass : mdok mX11_pass 2 := ⟨gd_in (ti_5 (List.mem_of_getElem? (i := 169) rfl)) rfl, gd_in (ti_1 (List.mem_of_getElem? (i := 12) rfl)) rfl, by decide +kernel, by decide +kernel, by decide +kernel⟩
theorem vX11_pass : mvok mX11_pass := ⟨gd_in (ti_5 (List.mem_of_getElem? (i := 167) rfl)) rfl, gd_in (ti_5 (List.mem_of_getElem? (i := 168) rfl)) rfl⟩
theorem oX11_passes : mdok mX11_passes 1 := ⟨gd_in (ti_5 (List.mem_of_getElem? (i := 61) rfl)) rfl, gd_in (ti_1 (List.mem_of_getElem? (i := 12) rfl)) rfl, by decide +kernel, by decide +kernel, by decide +kernel⟩
theorem vX11_passes : mvok mX11_passes := ⟨gd_in (ti_5 (List.mem_of_getElem? (i := 60) rfl)) rfl, gd_in (sel_in (n := 35) (List.mem_of_getElem? (i := 19) rfl)) rfl⟩
theorem oX11_pretzel : mdok mX11_pretzel 2 := ⟨gd_in (ti_5 (List.mem_of_getElem? (i := 128) rfl)) rfl, gd_in (ti_1 (List.mem_of_getElem? (i := 12) rfl)) rfl, by decide +kernel, by decide +kernel, by decide +kernel⟩
theorem vX11_pretzel : mvok mX11_pretzel := ⟨gd_in (ti_5 (List.mem_of_getElem? (i := 126) rfl)) rfl, gd_in (ti_5 (List.mem_of_getElem? (i := 127) rfl)) rfl⟩
theorem oX11_reads : mdok mX11_reads 0 := ⟨gd_in (ti_4 (List.mem_of_getElem? (i := 236) rfl)) rfl, gd_in (ti_1 (List.mem_of_getElem? (i := 12) rfl)) rfl, by decide +kernel, by decide +kernel, by decide +kernel⟩
theorem vX11_reads : mvok mX11_reads := ⟨gd_in (ti_4 (List.mem_of_getElem? (i := 235) rfl)) rfl, gd_in (sel_in (n := 35) (List.mem_of_getElem? (i := 8) rfl)) rfl⟩
theorem oX11_reverse : mdok mX11_reverse 1 := ⟨gd_in (ti_5 (List.mem_of_getElem? (i := 234) rfl)) rfl, gd_in (ti_1 (List.mem_of_getElem? (i := 12) rfl)) rfl, by decide +kernel, by decide +kernel, by decide +kernel⟩
theorem vX11_reverse : mvok mX11_reverse := ⟨gd_in (ti_5 (List.mem_of_getElem? (i := 232) rfl)) rfl, gd_in (ti_5 (List.mem_of_getElem? (i := 233) rfl)) rfl⟩
theorem oX11_reverses : mdok mX11_reverses 0 := ⟨gd_in (ti_5 (List.mem_of_getElem? (i := 189) rfl)) rfl, gd_in (ti_1 (List.mem_of_getElem? (i := 12) rfl)) rfl, by decide +kernel, by decide +kernel, by decide +kernel⟩
theorem vX11_reverses : mvok mX11_reverses := ⟨gd_in (ti_5 (List.mem_of_getElem? (i := 188) rfl)) rfl, gd_in (sel_in (n := 35) (List.mem_of_getElem? (i := 41) rfl)) rfl⟩
theorem oX11_roll : mdok mX11_roll 1 := ⟨gd_in (ti_6 (List.mem_of_getElem? (i := 2) rfl)) rfl, gd_in (ti_1 (List.mem_of_getElem? (i := 12) rfl)) rfl, by decide +kernel, by decide +kernel, by decide +kernel⟩
theorem vX11_roll : mvok mX11_roll := ⟨gd_in (ti_6 (List.mem_of_getElem? (i := 0) rfl)) rfl, gd_in (ti_6 (List.mem_of_getElem? (i := 1) rfl)) rfl⟩
theorem oX11_rolls : mdok mX11_rolls 1 := ⟨gd_in (ti_6 (List.mem_of_getElem? (i := 6) rfl)) rfl, gd_in (ti_1 (List.mem_of_getElem? (i := 12) rfl)) rfl, by decide +kernel, by decide +kernel, by decide +kernel⟩
theorem vX11_rolls : mvok mX11_rolls := ⟨gd_in (ti_6 (List.mem_of_getElem? (i := 5) rfl)) rfl, gd_in (sel_in (n := 35) (List.mem_of_getElem? (i := 47) rfl)) rfl⟩
theorem oX11_salt : mdok mX11_salt 3 := ⟨gd_in (ti_6 (List.mem_of_getElem? (i := 15) rfl)) rfl, gd_in (ti_1 (List.mem_of_getElem? (i := 12) rfl)) rfl, by decide +kernel, by decide +kernel, by decide +kernel⟩
theorem vX11_salt : mvok mX11_salt := ⟨gd_in (ti_6 (List.mem_of_getElem? (i := 13) rfl)) rfl, gd_in (ti_6 (List.mem_of_getElem? (i := 14) rfl)) rfl⟩
theorem oX11_same : mdok mX11_same 2 := ⟨gd_in (ti_5 (List.mem_of_getElem? (i := 181) rfl)) rfl, gd_in (ti_1 (List.mem_of_getElem? (i := 12) rfl)) rfl, by decide +kernel, by decide +kernel, by decide +kernel⟩
theorem vX11_same : mvok mX11_same := ⟨gd_in (ti_5 (List.mem_of_getElem? (i := 179) rfl)) rfl, gd_in (ti_5 (List.mem_of_getElem? (i := 180) rfl)) rfl⟩
theorem oX11_seed : mdok mX11_seed 1 := ⟨gd_in (ti_6 (List.mem_of_getElem? (i := 60) rfl)) rfl, gd_in (ti_1 (List.mem_of_getElem? (i := 12) rfl)) rfl, by decide +kernel, by decide +kernel, by decide +kernel⟩
theorem vX11_seed : mvok mX11_seed := ⟨gd_in (ti_6 (List.mem_of_getElem? (i := 58) rfl)) rfl, gd_in (ti_6 (List.mem_of_getElem? (i := 59) rfl)) rfl⟩
theorem oX11_shake : mdok mX11_shake 3 := ⟨gd_in (ti_5 (List.mem_of_getElem? (i := 205) rfl)) rfl, gd_in (ti_1 (List.mem_of_getElem? (i := 12) rfl)) rfl, by decide +kernel, by decide +kernel, by decide +kernel⟩
theorem vX11_shake : mvok mX11_shake := ⟨gd_in (ti_5 (List.mem_of_getElem? (i := 203) rfl)) rfl, gd_in (ti_5 (List.mem_of_getElem? (i := 204) rfl)) rfl⟩
theorem oX11_shaken : mdok mX11_shaken 2 := ⟨gd_in (ti_5 (List.mem_of_getElem? (i := 86) rfl)) rfl, gd_in (ti_1 (List.mem_of_getElem? (i := 12) rfl)) rfl, by decide +kernel, by decide +kernel, by decide +kernel⟩
theorem vX11_shaken : mvok mX11_shaken := ⟨gd_in (ti_5 (List.mem_of_getElem? (i := 85) rfl)) rfl, gd_in (sel_in (n := 35) (List.mem_of_getElem? (i := 24) rfl)) rfl⟩
theorem oX11_shakes : mdok mX11_shakes 1 := ⟨gd_in (ti_5 (List.mem_of_getElem? (i := 90) rfl)) rfl, gd_in (ti_1 (List.mem_of_getElem? (i := 12) rfl)) rfl, by decide +kernel, by decide +kernel, by decide +kernel⟩
theorem vX11_shakes : mvok mX11_shakes := ⟨gd_in (ti_5 (List.mem_of_getElem? (i := 89) rfl)) rfl, gd_in (sel_in (n := 35) (List.mem_of_getElem? (i := 25) rfl)) rfl⟩
theorem oX11_stores : mdok mX11_stores 1 := ⟨gd_in (ti_5 (List.mem_of_getElem? (i := 29) rfl)) rfl, gd_in (ti_1 (List.mem_of_getElem? (i := 12) rfl)) rfl, by decide +kernel, by decide +kernel, by decide +kernel⟩
theorem vX11_stores : mvok mX11_stores := ⟨gd_in (ti_5 (List.mem_of_getElem? (i := 28) rfl)) rfl, gd_in (sel_in (n := 35) (List.mem_of_getElem? (i := 14) rfl)) rfl⟩
theorem oX11_swaps : mdok mX11_swaps 2 := ⟨gd_in (ti_5 (List.mem_of_getElem? (i := 137) rfl)) rfl, gd_in (ti_1 (List.mem_of_getElem? (i := 12) rfl)) rfl, by decide +kernel, by decide +kernel, by decide +kernel⟩
theorem vX11_swaps : mvok mX11_swaps := ⟨gd_in (ti_5 (List.mem_of_getElem? (i := 136) rfl)) rfl, gd_in (sel_in (n := 35) (List.mem_of_getElem? (i := 31) rfl)) rfl⟩
theorem oX11_switches : mdok mX11_switches 0 := ⟨gd_in (ti_5 (List.mem_of_getElem? (i := 157) rfl)) rfl, gd_in (ti_1 (List.mem_of_getElem? (i := 12) rfl)) rfl, by decide +kernel, by decide +kernel, by decide +kernel⟩
theorem vX11_switches : mvok mX11_switches := ⟨gd_in (ti_5 (List.mem_of_getElem? (i := 156) rfl)) rfl, gd_in (sel_in (n := 35) (List.mem_of_getElem? (i := 36) rfl)) rfl⟩
theorem oX11_tear : mdok mX11_tear 0 := ⟨gd_in (ti_6 (List.mem_of_getElem? (i := 52) rfl)) rfl, gd_in (ti_1 (List.mem_of_getElem? (i := 12) rfl)) rfl, by decide +kernel, by decide +kernel, by decide +kernel⟩
theorem vX11_tear : mvok mX11_tear := ⟨gd_in (ti_6 (List.mem_of_getElem? (i := 50) rfl)) rfl, gd_in (ti_6 (List.mem_of_getElem? (i := 51) rfl)) rfl⟩
theorem oX11_tells : mdok mX11_tells 2 := ⟨gd_in (ti_5 (List.mem_of_getElem? (i := 197) rfl)) rfl, gd_in (ti_1 (List.mem_of_getElem? (i := 12) rfl)) rfl, by decide +kernel, by decide +kernel, by decide +kernel⟩
theorem vX11_tells : mvok mX11_tells := ⟨gd_in (ti_5 (List.mem_of_getElem? (i := 195) rfl)) rfl, gd_in (ti_5 (List.mem_of_getElem? (i := 196) rfl)) rfl⟩
theorem oX11_threads : mdok mX11_threads 0 := ⟨gd_in (ti_5 (List.mem_of_getElem? (i := 18) rfl)) rfl, gd_in (ti_1 (List.mem_of_getElem? (i := 12) rfl)) rfl, by decide +kernel, by decide +kernel, by decide +kernel⟩
theorem vX11_threads : mvok mX11_threads := ⟨gd_in (ti_5 (List.mem_of_getElem? (i := 17) rfl)) rfl, gd_in (sel_in (n := 35) (List.mem_of_getElem? (i := 13) rfl)) rfl⟩
theorem oX11_toShake : mdok mX11_toShake 2 := ⟨gd_in (ti_5 (List.mem_of_getElem? (i := 81) rfl)) rfl, gd_in (ti_1 (List.mem_of_getElem? (i := 12) rfl)) rfl, by decide +kernel, by decide +kernel, by decide +kernel⟩
theorem vX11_toShake : mvok mX11_toShake := ⟨gd_in (ti_5 (List.mem_of_getElem? (i := 79) rfl)) rfl, gd_in (ti_5 (List.mem_of_getElem? (i := 80) rfl)) rfl⟩
theorem oX11_told : mdok mX11_told 1 := ⟨gd_in (ti_5 (List.mem_of_getElem? (i := 123) rfl)) rfl, gd_in (ti_1 (List.mem_of_getElem? (i := 12) rfl)) rfl, by decide +kernel, by decide +kernel, by decide +kernel⟩
theorem vX11_told : mvok mX11_told := ⟨gd_in (ti_5 (List.mem_of_getElem? (i := 121) rfl)) rfl, gd_in (ti_5 (List.mem_of_getElem? (i := 122) rfl)) rfl⟩
theorem oX11_tray : mdok mX11_tray 0 := ⟨gd_in (ti_4 (List.mem_of_getElem? (i := 232) rfl)) rfl, gd_in (ti_1 (List.mem_of_getElem? (i := 12) rfl)) rfl, by decide +kernel, by decide +kernel, by decide +kernel⟩
theorem vX11_tray : mvok mX11_tray := ⟨gd_in (ti_4 (List.mem_of_getElem? (i := 230) rfl)) rfl, gd_in (ti_4 (List.mem_of_getElem? (i := 231) rfl)) rfl⟩
theorem oX11_turn : mdok mX11_turn 2 := ⟨gd_in (ti_5 (List.mem_of_getElem? (i := 230) rfl)) rfl, gd_in (ti_1 (List.mem_of_getElem? (i := 12) rfl)) rfl, by decide +kernel, by decide +kernel, by decide +kernel⟩
theorem vX11_turn : mvok mX11_turn := ⟨gd_in (ti_5 (List.mem_of_getElem? (i := 228) rfl)) rfl, gd_in (ti_5 (List.mem_of_getElem? (i := 229) rfl)) rfl⟩
theorem oX11_turns : mdok mX11_turns 1 := ⟨gd_in (ti_5 (List.mem_of_getElem? (i := 153) rfl)) rfl, gd_in (ti_1 (List.mem_of_getElem? (i := 12) rfl)) rfl, by decide +kernel, by decide +kernel, by decide +kernel⟩
theorem vX11_turns : mvok mX11_turns := ⟨gd_in (ti_5 (List.mem_of_getElem? (i := 152) rfl)) rfl, gd_in (sel_in (n := 35) (List.mem_of_getElem? (i := 35) rfl)) rfl⟩
theorem oX11_undo : mdok mX11_undo 0 := ⟨gd_in (ti_6 (List.mem_of_getElem? (i := 37) rfl)) rfl, gd_in (ti_1 (List.mem_of_getElem? (i := 12) rfl)) rfl, by decide +kernel, by decide +kernel, by decide +kernel⟩
theorem vX11_undo : mvok mX11_undo := ⟨gd_in (ti_6 (List.mem_of_getElem? (i := 35) rfl)) rfl, gd_in (ti_6 (List.mem_of_getElem? (i := 36) rfl)) rfl⟩
theorem oX11_weak : mdok mX11_weak 0 := ⟨gd_in (ti_5 (List.mem_of_getElem? (i := 145) rfl)) rfl, gd_in (ti_1 (List.mem_of_getElem? (i := 12) rfl)) rfl, by decide +kernel, by decide +kernel, by decide +kernel⟩
theorem vX11_weak : mvok mX11_weak := ⟨gd_in (ti_5 (List.mem_of_getElem? (i := 144) rfl)) rfl, gd_in (sel_in (n := 35) (List.mem_of_getElem? (i := 33) rfl)) rfl⟩
theorem oX11_whole : mdok mX11_whole 2 := ⟨gd_in (ti_6 (List.mem_of_getElem? (i := 41) rfl)) rfl, gd_in (ti_1 (List.mem_of_getElem? (i := 12) rfl)) rfl, by decide +kernel, by decide +kernel, by decide +kernel⟩
theorem vX11_whole : mvok mX11_whole := ⟨gd_in (ti_6 (List.mem_of_getElem? (i := 39) rfl)) rfl, gd_in (ti_6 (List.mem_of_getElem? (i := 40) rfl)) rfl⟩
theorem oX11_within : mdok mX11_within 2 := ⟨gd_in (ti_5 (List.mem_of_getElem? (i := 173) rfl)) rfl, gd_in (ti_1 (List.mem_of_getElem? (i := 12) rfl)) rfl, by decide +kernel, by decide +kernel, by decide +kernel⟩
theorem vX11_within : mvok mX11_within := ⟨gd_in (ti_5 (List.mem_of_getElem? (i := 171) rfl)) rfl, gd_in (ti_5 (List.mem_of_getElem? (i := 172) rfl)) rfl⟩
theorem oX11_without : mdok mX11_without 3 := ⟨gd_in (ti_5 (List.mem_of_getElem? (i := 93) rfl)) rfl, gd_in (ti_1 (List.mem_of_getElem? (i := 12) rfl)) rfl, by decide +kernel, by decide +kernel, by decide +kernel⟩
theorem vX11_without : Cond.static mX11_without.1 ∈ lw_gd := gd_in (ti_5 (List.mem_of_getElem? (i := 92) rfl)) rfl
theorem oX11_words : mdok mX11_words 2 := ⟨gd_in (ti_5 (List.mem_of_getElem? (i := 201) rfl)) rfl, gd_in (ti_1 (List.mem_of_getElem? (i := 12) rfl)) rfl, by decide +kernel, by decide +kernel, by decide +kernel⟩
theorem vX11_words : mvok mX11_words := ⟨gd_in (ti_5 (List.mem_of_getElem? (i := 199) rfl)) rfl, gd_in (ti_5 (List.mem_of_getElem? (i := 200) rfl)) rfl⟩
theorem oX11_write : mdok mX11_write 2 := ⟨gd_in (ti_6 (List.mem_of_getElem? (i := 48) rfl)) rfl, gd_in (ti_1 (List.mem_of_getElem? (i := 12) rfl)) rfl, by decide +kernel, by decide +kernel, by decide +kernel⟩
theorem vX11_write : mvok mX11_write := ⟨gd_in (ti_6 (List.mem_of_getElem? (i := 46) rfl)) rfl, gd_in (ti_6 (List.mem_of_getElem? (i := 47) rfl)) rfl⟩
theorem oX1_addTo : mdok mX1_addTo 4 := ⟨gd_in (ti_3 (List.mem_of_getElem? (i := 52) rfl)) rfl, gd_in (ti_1 (List.mem_of_getElem? (i := 10) rfl)) rfl, by decide +kernel, by decide +kernel, by decide +kernel⟩
theorem vX1_addTo : mvok mX1_addTo := ⟨gd_in (ti_3 (List.mem_of_getElem? (i := 50) rfl)) rfl, gd_in (ti_3 (List.mem_of_getElem? (i := 51) rfl)) rfl⟩
theorem oX1_clearOthers : mdok mX1_clearOthers 4 := ⟨gd_in (ti_3 (List.mem_of_getElem? (i := 71) rfl)) rfl, gd_in (ti_1 (List.mem_of_getElem? (i := 10) rfl)) rfl, by decide +kernel, by decide +kernel, by decide +kernel⟩
theorem vX1_clearOthers : mvok mX1_clearOthers := ⟨gd_in (ti_3 (List.mem_of_getElem? (i := 69) rfl)) rfl, gd_in (ti_3 (List.mem_of_getElem? (i := 70) rfl)) rfl⟩
theorem oX1_exchangeRows : mdok mX1_exchangeRows 2 := ⟨gd_in (ti_3 (List.mem_of_getElem? (i := 63) rfl)) rfl, gd_in (ti_1 (List.mem_of_getElem? (i := 10) rfl)) rfl, by decide +kernel, by decide +kernel, by decide +kernel⟩
theorem vX1_exchangeRows : mvok mX1_exchangeRows := ⟨gd_in (ti_3 (List.mem_of_getElem? (i := 61) rfl)) rfl, gd_in (ti_3 (List.mem_of_getElem? (i := 62) rfl)) rfl⟩
theorem oX1_findParts : mdok mX1_findParts 1 := ⟨gd_in (ti_3 (List.mem_of_getElem? (i := 38) rfl)) rfl, gd_in (ti_1 (List.mem_of_getElem? (i := 10) rfl)) rfl, by decide +kernel, by decide +kernel, by decide +kernel⟩
theorem vX1_findParts : mvok mX1_findParts := ⟨gd_in (ti_3 (List.mem_of_getElem? (i := 36) rfl)) rfl, gd_in (ti_3 (List.mem_of_getElem? (i := 37) rfl)) rfl⟩
theorem oX1_firstColourOf : mdok mX1_firstColourOf 2 := ⟨gd_in (ti_4 (List.mem_of_getElem? (i := 66) rfl)) rfl, gd_in (ti_1 (List.mem_of_getElem? (i := 10) rfl)) rfl, by decide +kernel, by decide +kernel, by decide +kernel⟩
theorem vX1_firstColourOf : mvok mX1_firstColourOf := ⟨gd_in (ti_4 (List.mem_of_getElem? (i := 64) rfl)) rfl, gd_in (ti_4 (List.mem_of_getElem? (i := 65) rfl)) rfl⟩
theorem oX1_rowWith : mdok mX1_rowWith 2 := ⟨gd_in (ti_3 (List.mem_of_getElem? (i := 59) rfl)) rfl, gd_in (ti_1 (List.mem_of_getElem? (i := 10) rfl)) rfl, by decide +kernel, by decide +kernel, by decide +kernel⟩
theorem vX1_rowWith : mvok mX1_rowWith := ⟨gd_in (ti_3 (List.mem_of_getElem? (i := 57) rfl)) rfl, gd_in (ti_3 (List.mem_of_getElem? (i := 58) rfl)) rfl⟩
theorem oX1_scaleRow : mdok mX1_scaleRow 3 := ⟨gd_in (ti_3 (List.mem_of_getElem? (i := 67) rfl)) rfl, gd_in (ti_1 (List.mem_of_getElem? (i := 10) rfl)) rfl, by decide +kernel, by decide +kernel, by decide +kernel⟩
theorem vX1_scaleRow : mvok mX1_scaleRow := ⟨gd_in (ti_3 (List.mem_of_getElem? (i := 65) rfl)) rfl, gd_in (ti_3 (List.mem_of_getElem? (i := 66) rfl)) rfl⟩
theorem oX1_solve : mdok mX1_solve 2 := ⟨gd_in (ti_3 (List.mem_of_getElem? (i := 34) rfl)) rfl, gd_in (ti_1 (List.mem_of_getElem? (i := 10) rfl)) rfl, by decide +kernel, by decide +kernel, by decide +kernel⟩
theorem vX1_solve : mvok mX1_solve := ⟨gd_in (ti_3 (List.mem_of_getElem? (i := 32) rfl)) rfl, gd_in (ti_3 (List.mem_of_getElem? (i := 33) rfl)) rfl⟩
theorem oX1_waysBy : mdok mX1_waysBy 2 := ⟨gd_in (ti_3 (List.mem_of_getElem? (i := 30) rfl)) rfl, gd_in (ti_1 (List.mem_of_getElem? (i := 10) rfl)) rfl, by decide +kernel, by decide +kernel, by decide +kernel⟩
theorem vX1_waysBy : mvok mX1_waysBy := ⟨gd_in (ti_3 (List.mem_of_getElem? (i := 28) rfl)) rfl, gd_in (ti_3 (List.mem_of_getElem? (i := 29) rfl)) rfl⟩
theorem oX1_writeRows : mdok mX1_writeRows 2 := ⟨gd_in (ti_3 (List.mem_of_getElem? (i := 47) rfl)) rfl, gd_in (ti_1 (List.mem_of_getElem? (i := 10) rfl)) rfl, by decide +kernel, by decide +kernel, by decide +kernel⟩
theorem vX1_writeRows : mvok mX1_writeRows := ⟨gd_in (ti_3 (List.mem_of_getElem? (i := 45) rfl)) rfl, gd_in (ti_3 (List.mem_of_getElem? (i := 46) rfl)) rfl⟩
theorem oX2_forgetAll : mdok mX2_forgetAll 0 := ⟨gd_in (ti_2 (List.mem_of_getElem? (i := 197) rfl)) rfl, gd_in (ti_1 (List.mem_of_getElem? (i := 6) rfl)) rfl, by decide +kernel, by decide +kernel, by decide +kernel⟩
theorem vX2_forgetAll : mvok mX2_forgetAll := ⟨gd_in (ti_2 (List.mem_of_getElem? (i := 195) rfl)) rfl, gd_in (ti_2 (List.mem_of_getElem? (i := 196) rfl)) rfl⟩
theorem oX2_remember : mdok mX2_remember 1 := ⟨gd_in (ti_3 (List.mem_of_getElem? (i := 133) rfl)) rfl, gd_in (ti_1 (List.mem_of_getElem? (i := 6) rfl)) rfl, by decide +kernel, by decide +kernel, by decide +kernel⟩
theorem vX2_remember : mvok mX2_remember := ⟨gd_in (ti_3 (List.mem_of_getElem? (i := 131) rfl)) rfl, gd_in (ti_3 (List.mem_of_getElem? (i := 132) rfl)) rfl⟩
theorem oX2_restore : mdok mX2_restore 1 := ⟨gd_in (ti_3 (List.mem_of_getElem? (i := 231) rfl)) rfl, gd_in (ti_1 (List.mem_of_getElem? (i := 6) rfl)) rfl, by decide +kernel, by decide +kernel, by decide +kernel⟩
theorem vX2_restore : mvok mX2_restore := ⟨gd_in (ti_3 (List.mem_of_getElem? (i := 229) rfl)) rfl, gd_in (ti_3 (List.mem_of_getElem? (i := 230) rfl)) rfl⟩
theorem oX3_contains : mdok mX3_contains 1 := ⟨gd_in (ti_3 (List.mem_of_getElem? (i := 128) rfl)) rfl, gd_in (ti_1 (List.mem_of_getElem? (i := 8) rfl)) rfl, by decide +kernel, by decide +kernel, by decide +kernel⟩
theorem vX3_contains : mvok mX3_contains := ⟨gd_in (ti_3 (List.mem_of_getElem? (i := 126) rfl)) rfl, gd_in (ti_3 (List.mem_of_getElem? (i := 127) rfl)) rfl⟩
theorem oX3_leftByCurls : mdok mX3_leftByCurls 1 := ⟨gd_in (ti_3 (List.mem_of_getElem? (i := 83) rfl)) rfl, gd_in (ti_1 (List.mem_of_getElem? (i := 8) rfl)) rfl, by decide +kernel, by decide +kernel, by decide +kernel⟩
theorem vX3_leftByCurls : mvok mX3_leftByCurls := ⟨gd_in (ti_3 (List.mem_of_getElem? (i := 81) rfl)) rfl, gd_in (ti_3 (List.mem_of_getElem? (i := 82) rfl)) rfl⟩
theorem oX3_leftOf : mdok mX3_leftOf 4 := ⟨gd_in (ti_2 (List.mem_of_getElem? (i := 231) rfl)) rfl, gd_in (ti_1 (List.mem_of_getElem? (i := 8) rfl)) rfl, by decide +kernel, by decide +kernel, by decide +kernel⟩
theorem vX3_leftOf : mvok mX3_leftOf := ⟨gd_in (ti_2 (List.mem_of_getElem? (i := 229) rfl)) rfl, gd_in (ti_2 (List.mem_of_getElem? (i := 230) rfl)) rfl⟩
theorem oX3_listMoves : mdok mX3_listMoves 1 := ⟨gd_in (ti_3 (List.mem_of_getElem? (i := 18) rfl)) rfl, gd_in (ti_1 (List.mem_of_getElem? (i := 8) rfl)) rfl, by decide +kernel, by decide +kernel, by decide +kernel⟩
theorem vX3_listMoves : mvok mX3_listMoves := ⟨gd_in (ti_3 (List.mem_of_getElem? (i := 16) rfl)) rfl, gd_in (ti_3 (List.mem_of_getElem? (i := 17) rfl)) rfl⟩
theorem oX3_lookAt : mdok mX3_lookAt 4 := ⟨gd_in (ti_2 (List.mem_of_getElem? (i := 235) rfl)) rfl, gd_in (ti_1 (List.mem_of_getElem? (i := 8) rfl)) rfl, by decide +kernel, by decide +kernel, by decide +kernel⟩
theorem vX3_lookAt : mvok mX3_lookAt := ⟨gd_in (ti_2 (List.mem_of_getElem? (i := 233) rfl)) rfl, gd_in (ti_2 (List.mem_of_getElem? (i := 234) rfl)) rfl⟩
theorem oX3_lookNow : mdok mX3_lookNow 1 := ⟨gd_in (ti_3 (List.mem_of_getElem? (i := 110) rfl)) rfl, gd_in (ti_1 (List.mem_of_getElem? (i := 8) rfl)) rfl, by decide +kernel, by decide +kernel, by decide +kernel⟩
theorem vX3_lookNow : mvok mX3_lookNow := ⟨gd_in (ti_3 (List.mem_of_getElem? (i := 108) rfl)) rfl, gd_in (ti_3 (List.mem_of_getElem? (i := 109) rfl)) rfl⟩
theorem oX3_moveAt : mdok mX3_moveAt 1 := ⟨gd_in (ti_3 (List.mem_of_getElem? (i := 114) rfl)) rfl, gd_in (ti_1 (List.mem_of_getElem? (i := 8) rfl)) rfl, by decide +kernel, by decide +kernel, by decide +kernel⟩
theorem vX3_moveAt : mvok mX3_moveAt := ⟨gd_in (ti_3 (List.mem_of_getElem? (i := 112) rfl)) rfl, gd_in (ti_3 (List.mem_of_getElem? (i := 113) rfl)) rfl⟩
theorem oX3_seeNeighbours : mdok mX3_seeNeighbours 1 := ⟨gd_in (ti_3 (List.mem_of_getElem? (i := 11) rfl)) rfl, gd_in (ti_1 (List.mem_of_getElem? (i := 8) rfl)) rfl, by decide +kernel, by decide +kernel, by decide +kernel⟩
theorem vX3_seeNeighbours : mvok mX3_seeNeighbours := ⟨gd_in (ti_3 (List.mem_of_getElem? (i := 9) rfl)) rfl, gd_in (ti_3 (List.mem_of_getElem? (i := 10) rfl)) rfl⟩
theorem oX3_takeRow : mdok mX3_takeRow 3 := ⟨gd_in (ti_2 (List.mem_of_getElem? (i := 239) rfl)) rfl, gd_in (ti_1 (List.mem_of_getElem? (i := 8) rfl)) rfl, by decide +kernel, by decide +kernel, by decide +kernel⟩
theorem vX3_takeRow : mvok mX3_takeRow := ⟨gd_in (ti_2 (List.mem_of_getElem? (i := 237) rfl)) rfl, gd_in (ti_2 (List.mem_of_getElem? (i := 238) rfl)) rfl⟩
theorem oX4_begin : mdok mX4_begin 0 := ⟨gd_in (ti_2 (List.mem_of_getElem? (i := 136) rfl)) rfl, gd_in (ti_1 (List.mem_of_getElem? (i := 2) rfl)) rfl, by decide +kernel, by decide +kernel, by decide +kernel⟩
theorem vX4_begin : mvok mX4_begin := ⟨gd_in (ti_2 (List.mem_of_getElem? (i := 134) rfl)) rfl, gd_in (ti_2 (List.mem_of_getElem? (i := 135) rfl)) rfl⟩
theorem oX4_knows : mdok mX4_knows 1 := ⟨gd_in (ti_2 (List.mem_of_getElem? (i := 151) rfl)) rfl, gd_in (ti_1 (List.mem_of_getElem? (i := 2) rfl)) rfl, by decide +kernel, by decide +kernel, by decide +kernel⟩
theorem vX4_knows : mvok mX4_knows := ⟨gd_in (ti_2 (List.mem_of_getElem? (i := 149) rfl)) rfl, gd_in (ti_2 (List.mem_of_getElem? (i := 150) rfl)) rfl⟩
theorem oX4_numberOf : mdok mX4_numberOf 1 := ⟨gd_in (ti_2 (List.mem_of_getElem? (i := 162) rfl)) rfl, gd_in (ti_1 (List.mem_of_getElem? (i := 2) rfl)) rfl, by decide +kernel, by decide +kernel, by decide +kernel⟩
theorem vX4_numberOf : mvok mX4_numberOf := ⟨gd_in (ti_2 (List.mem_of_getElem? (i := 160) rfl)) rfl, gd_in (ti_2 (List.mem_of_getElem? (i := 161) rfl)) rfl⟩
theorem oX5_addLetter : mdok mX5_addLetter 1 := ⟨gd_in (ti_2 (List.mem_of_getElem? (i := 92) rfl)) rfl, gd_in (ti_1 (List.mem_of_getElem? (i := 3) rfl)) rfl, by decide +kernel, by decide +kernel, by decide +kernel⟩
theorem vX5_addLetter : mvok mX5_addLetter := ⟨gd_in (ti_2 (List.mem_of_getElem? (i := 90) rfl)) rfl, gd_in (ti_2 (List.mem_of_getElem? (i := 91) rfl)) rfl⟩
theorem oX5_isFigure : mdok mX5_isFigure 1 := ⟨gd_in (ti_2 (List.mem_of_getElem? (i := 120) rfl)) rfl, gd_in (ti_1 (List.mem_of_getElem? (i := 3) rfl)) rfl, by decide +kernel, by decide +kernel, by decide +kernel⟩
theorem vX5_isFigure : Cond.static mX5_isFigure.1 ∈ lw_gd := gd_in (ti_2 (List.mem_of_getElem? (i := 119) rfl)) rfl
theorem oX5_readBlank : mdok mX5_readBlank 0 := ⟨gd_in (ti_2 (List.mem_of_getElem? (i := 105) rfl)) rfl, gd_in (ti_1 (List.mem_of_getElem? (i := 3) rfl)) rfl, by decide +kernel, by decide +kernel, by decide +kernel⟩
theorem vX5_readBlank : mvok mX5_readBlank := ⟨gd_in (ti_2 (List.mem_of_getElem? (i := 103) rfl)) rfl, gd_in (ti_2 (List.mem_of_getElem? (i := 104) rfl)) rfl⟩
theorem oX5_readClause : mdok mX5_readClause 1 := ⟨gd_in (ti_2 (List.mem_of_getElem? (i := 132) rfl)) rfl, gd_in (ti_1 (List.mem_of_getElem? (i := 3) rfl)) rfl, by decide +kernel, by decide +kernel, by decide +kernel⟩
theorem vX5_readClause : mvok mX5_readClause := ⟨gd_in (ti_2 (List.mem_of_getElem? (i := 130) rfl)) rfl, gd_in (ti_2 (List.mem_of_getElem? (i := 131) rfl)) rfl⟩
theorem oX5_readFirstFigure : mdok mX5_readFirstFigure 2 := ⟨gd_in (ti_2 (List.mem_of_getElem? (i := 117) rfl)) rfl, gd_in (ti_1 (List.mem_of_getElem? (i := 3) rfl)) rfl, by decide +kernel, by decide +kernel, by decide +kernel⟩
theorem vX5_readFirstFigure : mvok mX5_readFirstFigure := ⟨gd_in (ti_2 (List.mem_of_getElem? (i := 115) rfl)) rfl, gd_in (ti_2 (List.mem_of_getElem? (i := 116) rfl)) rfl⟩
theorem oX5_readLetter : mdok mX5_readLetter 2 := ⟨gd_in (ti_2 (List.mem_of_getElem? (i := 109) rfl)) rfl, gd_in (ti_1 (List.mem_of_getElem? (i := 3) rfl)) rfl, by decide +kernel, by decide +kernel, by decide +kernel⟩
theorem vX5_readLetter : mvok mX5_readLetter := ⟨gd_in (ti_2 (List.mem_of_getElem? (i := 107) rfl)) rfl, gd_in (ti_2 (List.mem_of_getElem? (i := 108) rfl)) rfl⟩
theorem oX5_readNumber : mdok mX5_readNumber 1 := ⟨gd_in (ti_2 (List.mem_of_getElem? (i := 124) rfl)) rfl, gd_in (ti_1 (List.mem_of_getElem? (i := 3) rfl)) rfl, by decide +kernel, by decide +kernel, by decide +kernel⟩
theorem vX5_readNumber : mvok mX5_readNumber := ⟨gd_in (ti_2 (List.mem_of_getElem? (i := 122) rfl)) rfl, gd_in (ti_2 (List.mem_of_getElem? (i := 123) rfl)) rfl⟩
theorem oX5_readNumbersEnd : mdok mX5_readNumbersEnd 1 := ⟨gd_in (ti_2 (List.mem_of_getElem? (i := 128) rfl)) rfl, gd_in (ti_1 (List.mem_of_getElem? (i := 3) rfl)) rfl, by decide +kernel, by decide +kernel, by decide +kernel⟩
theorem vX5_readNumbersEnd : mvok mX5_readNumbersEnd := ⟨gd_in (ti_2 (List.mem_of_getElem? (i := 126) rfl)) rfl, gd_in (ti_2 (List.mem_of_getElem? (i := 127) rfl)) rfl⟩
theorem oX5_readPass : mdok mX5_readPass 2 := ⟨gd_in (ti_2 (List.mem_of_getElem? (i := 144) rfl)) rfl, gd_in (ti_1 (List.mem_of_getElem? (i := 3) rfl)) rfl, by decide +kernel, by decide +kernel, by decide +kernel⟩
theorem vX5_readPass : mvok mX5_readPass := ⟨gd_in (ti_2 (List.mem_of_getElem? (i := 142) rfl)) rfl, gd_in (ti_2 (List.mem_of_getElem? (i := 143) rfl)) rfl⟩
theorem oX5_readStart : mdok mX5_readStart 1 := ⟨gd_in (ti_2 (List.mem_of_getElem? (i := 113) rfl)) rfl, gd_in (ti_1 (List.mem_of_getElem? (i := 3) rfl)) rfl, by decide +kernel, by decide +kernel, by decide +kernel⟩
theorem vX5_readStart : mvok mX5_readStart := ⟨gd_in (ti_2 (List.mem_of_getElem? (i := 111) rfl)) rfl, gd_in (ti_2 (List.mem_of_getElem? (i := 112) rfl)) rfl⟩
theorem oX5_readText : mdok mX5_readText 0 := ⟨gd_in (ti_2 (List.mem_of_getElem? (i := 101) rfl)) rfl, gd_in (ti_1 (List.mem_of_getElem? (i := 3) rfl)) rfl, by decide +kernel, by decide +kernel, by decide +kernel⟩
theorem vX5_readText : mvok mX5_readText := ⟨gd_in (ti_2 (List.mem_of_getElem? (i := 99) rfl)) rfl, gd_in (ti_2 (List.mem_of_getElem? (i := 100) rfl)) rfl⟩
theorem oX5_readThread : mdok mX5_readThread 1 := ⟨gd_in (ti_2 (List.mem_of_getElem? (i := 140) rfl)) rfl, gd_in (ti_1 (List.mem_of_getElem? (i := 3) rfl)) rfl, by decide +kernel, by decide +kernel, by decide +kernel⟩
theorem vX5_readThread : mvok mX5_readThread := ⟨gd_in (ti_2 (List.mem_of_getElem? (i := 138) rfl)) rfl, gd_in (ti_2 (List.mem_of_getElem? (i := 139) rfl)) rfl⟩
theorem oX5_readThreadsEnd : mdok mX5_readThreadsEnd 0 := ⟨gd_in (ti_2 (List.mem_of_getElem? (i := 167) rfl)) rfl, gd_in (ti_1 (List.mem_of_getElem? (i := 3) rfl)) rfl, by decide +kernel, by decide +kernel, by decide +kernel⟩
theorem vX5_readThreadsEnd : mvok mX5_readThreadsEnd := ⟨gd_in (ti_2 (List.mem_of_getElem? (i := 165) rfl)) rfl, gd_in (ti_2 (List.mem_of_getElem? (i := 166) rfl)) rfl⟩
theorem oX6_addCurl : mdok mX6_addCurl 2 := ⟨gd_in (ti_3 (List.mem_of_getElem? (i := 155) rfl)) rfl, gd_in (ti_1 (List.mem_of_getElem? (i := 5) rfl)) rfl, by decide +kernel, by decide +kernel, by decide +kernel⟩
theorem vX6_addCurl : mvok mX6_addCurl := ⟨gd_in (ti_3 (List.mem_of_getElem? (i := 153) rfl)) rfl, gd_in (ti_3 (List.mem_of_getElem? (i := 154) rfl)) rfl⟩
theorem oX6_append : mdok mX6_append 1 := ⟨gd_in (ti_3 (List.mem_of_getElem? (i := 191) rfl)) rfl, gd_in (ti_1 (List.mem_of_getElem? (i := 5) rfl)) rfl, by decide +kernel, by decide +kernel, by decide +kernel⟩
theorem vX6_append : mvok mX6_append := ⟨gd_in (ti_3 (List.mem_of_getElem? (i := 189) rfl)) rfl, gd_in (ti_3 (List.mem_of_getElem? (i := 190) rfl)) rfl⟩
theorem oX6_copyFrom : mdok mX6_copyFrom 1 := ⟨gd_in (ti_2 (List.mem_of_getElem? (i := 190) rfl)) rfl, gd_in (ti_1 (List.mem_of_getElem? (i := 5) rfl)) rfl, by decide +kernel, by decide +kernel, by decide +kernel⟩
theorem vX6_copyFrom : mvok mX6_copyFrom := ⟨gd_in (ti_2 (List.mem_of_getElem? (i := 188) rfl)) rfl, gd_in (ti_2 (List.mem_of_getElem? (i := 189) rfl)) rfl⟩
theorem oX6_everyCrossing : mdok mX6_everyCrossing 0 := ⟨gd_in (ti_2 (List.mem_of_getElem? (i := 227) rfl)) rfl, gd_in (ti_1 (List.mem_of_getElem? (i := 5) rfl)) rfl, by decide +kernel, by decide +kernel, by decide +kernel⟩
theorem vX6_everyCrossing : mvok mX6_everyCrossing := ⟨gd_in (ti_2 (List.mem_of_getElem? (i := 225) rfl)) rfl, gd_in (ti_2 (List.mem_of_getElem? (i := 226) rfl)) rfl⟩
theorem oX6_goTheOtherWay : mdok mX6_goTheOtherWay 0 := ⟨gd_in (ti_3 (List.mem_of_getElem? (i := 171) rfl)) rfl, gd_in (ti_1 (List.mem_of_getElem? (i := 5) rfl)) rfl, by decide +kernel, by decide +kernel, by decide +kernel⟩
theorem vX6_goTheOtherWay : mvok mX6_goTheOtherWay := ⟨gd_in (ti_3 (List.mem_of_getElem? (i := 169) rfl)) rfl, gd_in (ti_3 (List.mem_of_getElem? (i := 170) rfl)) rfl⟩
theorem oX6_has : mdok mX6_has 1 := ⟨gd_in (ti_3 (List.mem_of_getElem? (i := 122) rfl)) rfl, gd_in (ti_1 (List.mem_of_getElem? (i := 5) rfl)) rfl, by decide +kernel, by decide +kernel, by decide +kernel⟩
theorem vX6_has : mvok mX6_has := ⟨gd_in (ti_3 (List.mem_of_getElem? (i := 120) rfl)) rfl, gd_in (ti_3 (List.mem_of_getElem? (i := 121) rfl)) rfl⟩
theorem oX6_lay : mdok mX6_lay 2 := ⟨gd_in (ti_2 (List.mem_of_getElem? (i := 175) rfl)) rfl, gd_in (ti_1 (List.mem_of_getElem? (i := 5) rfl)) rfl, by decide +kernel, by decide +kernel, by decide +kernel⟩
theorem vX6_lay : mvok mX6_lay := ⟨gd_in (ti_2 (List.mem_of_getElem? (i := 173) rfl)) rfl, gd_in (ti_2 (List.mem_of_getElem? (i := 174) rfl)) rfl⟩
theorem oX6_length : mdok mX6_length 0 := ⟨gd_in (ti_3 (List.mem_of_getElem? (i := 3) rfl)) rfl, gd_in (ti_1 (List.mem_of_getElem? (i := 5) rfl)) rfl, by decide +kernel, by decide +kernel, by decide +kernel⟩
theorem vX6_length : mvok mX6_length := ⟨gd_in (ti_3 (List.mem_of_getElem? (i := 1) rfl)) rfl, gd_in (ti_3 (List.mem_of_getElem? (i := 2) rfl)) rfl⟩
theorem oX6_lyingIn : mdok mX6_lyingIn 1 := ⟨gd_in (ti_3 (List.mem_of_getElem? (i := 92) rfl)) rfl, gd_in (ti_1 (List.mem_of_getElem? (i := 5) rfl)) rfl, by decide +kernel, by decide +kernel, by decide +kernel⟩
theorem vX6_lyingIn : mvok mX6_lyingIn := ⟨gd_in (ti_3 (List.mem_of_getElem? (i := 90) rfl)) rfl, gd_in (ti_3 (List.mem_of_getElem? (i := 91) rfl)) rfl⟩
theorem oX6_makePlain : mdok mX6_makePlain 0 := ⟨gd_in (ti_2 (List.mem_of_getElem? (i := 179) rfl)) rfl, gd_in (ti_1 (List.mem_of_getElem? (i := 5) rfl)) rfl, by decide +kernel, by decide +kernel, by decide +kernel⟩
theorem vX6_makePlain : mvok mX6_makePlain := ⟨gd_in (ti_2 (List.mem_of_getElem? (i := 177) rfl)) rfl, gd_in (ti_2 (List.mem_of_getElem? (i := 178) rfl)) rfl⟩
theorem oX6_numberAnew : mdok mX6_numberAnew 0 := ⟨gd_in (ti_3 (List.mem_of_getElem? (i := 144) rfl)) rfl, gd_in (ti_1 (List.mem_of_getElem? (i := 5) rfl)) rfl, by decide +kernel, by decide +kernel, by decide +kernel⟩
theorem vX6_numberAnew : mvok mX6_numberAnew := ⟨gd_in (ti_3 (List.mem_of_getElem? (i := 142) rfl)) rfl, gd_in (ti_3 (List.mem_of_getElem? (i := 143) rfl)) rfl⟩
theorem oX6_passAt : mdok mX6_passAt 1 := ⟨gd_in (ti_3 (List.mem_of_getElem? (i := 102) rfl)) rfl, gd_in (ti_1 (List.mem_of_getElem? (i := 5) rfl)) rfl, by decide +kernel, by decide +kernel, by decide +kernel⟩
theorem vX6_passAt : mvok mX6_passAt := ⟨gd_in (ti_3 (List.mem_of_getElem? (i := 100) rfl)) rfl, gd_in (ti_3 (List.mem_of_getElem? (i := 101) rfl)) rfl⟩
theorem oX6_rollOnce : mdok mX6_rollOnce 0 := ⟨gd_in (ti_3 (List.mem_of_getElem? (i := 183) rfl)) rfl, gd_in (ti_1 (List.mem_of_getElem? (i := 5) rfl)) rfl, by decide +kernel, by decide +kernel, by decide +kernel⟩
theorem vX6_rollOnce : mvok mX6_rollOnce := ⟨gd_in (ti_3 (List.mem_of_getElem? (i := 181) rfl)) rfl, gd_in (ti_3 (List.mem_of_getElem? (i := 182) rfl)) rfl⟩
theorem oX6_switchSet : mdok mX6_switchSet 1 := ⟨gd_in (ti_3 (List.mem_of_getElem? (i := 163) rfl)) rfl, gd_in (ti_1 (List.mem_of_getElem? (i := 5) rfl)) rfl, by decide +kernel, by decide +kernel, by decide +kernel⟩
theorem vX6_switchSet : mvok mX6_switchSet := ⟨gd_in (ti_3 (List.mem_of_getElem? (i := 161) rfl)) rfl, gd_in (ti_3 (List.mem_of_getElem? (i := 162) rfl)) rfl⟩
theorem oX6_takeAway : mdok mX6_takeAway 1 := ⟨gd_in (ti_3 (List.mem_of_getElem? (i := 139) rfl)) rfl, gd_in (ti_1 (List.mem_of_getElem? (i := 5) rfl)) rfl, by decide +kernel, by decide +kernel, by decide +kernel⟩
theorem vX6_takeAway : mvok mX6_takeAway := ⟨gd_in (ti_3 (List.mem_of_getElem? (i := 137) rfl)) rfl, gd_in (ti_3 (List.mem_of_getElem? (i := 138) rfl)) rfl⟩
theorem oX7_comesTo : mdok mX7_comesTo 4 := ⟨gd_in (ti_4 (List.mem_of_getElem? (i := 29) rfl)) rfl, gd_in (ti_1 (List.mem_of_getElem? (i := 11) rfl)) rfl, by decide +kernel, by decide +kernel, by decide +kernel⟩
theorem vX7_comesTo : mvok mX7_comesTo := ⟨gd_in (ti_4 (List.mem_of_getElem? (i := 27) rfl)) rfl, gd_in (ti_4 (List.mem_of_getElem? (i := 28) rfl)) rfl⟩
theorem oX7_compare : mdok mX7_compare 3 := ⟨gd_in (ti_4 (List.mem_of_getElem? (i := 41) rfl)) rfl, gd_in (ti_1 (List.mem_of_getElem? (i := 11) rfl)) rfl, by decide +kernel, by decide +kernel, by decide +kernel⟩
theorem vX7_compare : Cond.static mX7_compare.1 ∈ lw_gd := gd_in (ti_4 (List.mem_of_getElem? (i := 40) rfl)) rfl
theorem oX7_goAlong : mdok mX7_goAlong 4 := ⟨gd_in (ti_4 (List.mem_of_getElem? (i := 34) rfl)) rfl, gd_in (ti_1 (List.mem_of_getElem? (i := 11) rfl)) rfl, by decide +kernel, by decide +kernel, by decide +kernel⟩
theorem vX7_goAlong : mvok mX7_goAlong := ⟨gd_in (ti_4 (List.mem_of_getElem? (i := 32) rfl)) rfl, gd_in (ti_4 (List.mem_of_getElem? (i := 33) rfl)) rfl⟩
theorem oX7_leastWordAt : mdok mX7_leastWordAt 2 := ⟨gd_in (ti_4 (List.mem_of_getElem? (i := 57) rfl)) rfl, gd_in (ti_1 (List.mem_of_getElem? (i := 11) rfl)) rfl, by decide +kernel, by decide +kernel, by decide +kernel⟩
theorem vX7_leastWordAt : mvok mX7_leastWordAt := ⟨gd_in (ti_4 (List.mem_of_getElem? (i := 55) rfl)) rfl, gd_in (ti_4 (List.mem_of_getElem? (i := 56) rfl)) rfl⟩
theorem oX7_waysInto : mdok mX7_waysInto 2 := ⟨gd_in (ti_4 (List.mem_of_getElem? (i := 25) rfl)) rfl, gd_in (ti_1 (List.mem_of_getElem? (i := 11) rfl)) rfl, by decide +kernel, by decide +kernel, by decide +kernel⟩
theorem vX7_waysInto : mvok mX7_waysInto := ⟨gd_in (ti_4 (List.mem_of_getElem? (i := 23) rfl)) rfl, gd_in (ti_4 (List.mem_of_getElem? (i := 24) rfl)) rfl⟩
theorem oX8_followMoves : mdok mX8_followMoves 3 := ⟨gd_in (ti_4 (List.mem_of_getElem? (i := 11) rfl)) rfl, gd_in (ti_1 (List.mem_of_getElem? (i := 9) rfl)) rfl, by decide +kernel, by decide +kernel, by decide +kernel⟩
theorem vX8_followMoves : mvok mX8_followMoves := ⟨gd_in (ti_4 (List.mem_of_getElem? (i := 9) rfl)) rfl, gd_in (ti_4 (List.mem_of_getElem? (i := 10) rfl)) rfl⟩
theorem oX8_tryAll : mdok mX8_tryAll 2 := ⟨gd_in (ti_3 (List.mem_of_getElem? (i := 239) rfl)) rfl, gd_in (ti_1 (List.mem_of_getElem? (i := 9) rfl)) rfl, by decide +kernel, by decide +kernel, by decide +kernel⟩
theorem vX8_tryAll : mvok mX8_tryAll := ⟨gd_in (ti_3 (List.mem_of_getElem? (i := 237) rfl)) rfl, gd_in (ti_3 (List.mem_of_getElem? (i := 238) rfl)) rfl⟩
theorem oX8_weigh : mdok mX8_weigh 1 := ⟨gd_in (ti_4 (List.mem_of_getElem? (i := 5) rfl)) rfl, gd_in (ti_1 (List.mem_of_getElem? (i := 9) rfl)) rfl, by decide +kernel, by decide +kernel, by decide +kernel⟩
theorem vX8_weigh : mvok mX8_weigh := ⟨gd_in (ti_4 (List.mem_of_getElem? (i := 3) rfl)) rfl, gd_in (ti_4 (List.mem_of_getElem? (i := 4) rfl)) rfl⟩
theorem oX9_copyFrom : mdok mX9_copyFrom 1 := ⟨gd_in (ti_2 (List.mem_of_getElem? (i := 186) rfl)) rfl, gd_in (ti_1 (List.mem_of_getElem? (i := 4) rfl)) rfl, by decide +kernel, by decide +kernel, by decide +kernel⟩
theorem vX9_copyFrom : mvok mX9_copyFrom := ⟨gd_in (ti_2 (List.mem_of_getElem? (i := 184) rfl)) rfl, gd_in (ti_2 (List.mem_of_getElem? (i := 185) rfl)) rfl⟩
theorem oX9_crossingsOfAll : mdok mX9_crossingsOfAll 0 := ⟨gd_in (ti_2 (List.mem_of_getElem? (i := 209) rfl)) rfl, gd_in (ti_1 (List.mem_of_getElem? (i := 4) rfl)) rfl, by decide +kernel, by decide +kernel, by decide +kernel⟩
theorem vX9_crossingsOfAll : mvok mX9_crossingsOfAll := ⟨gd_in (ti_2 (List.mem_of_getElem? (i := 207) rfl)) rfl, gd_in (ti_2 (List.mem_of_getElem? (i := 208) rfl)) rfl⟩
theorem oX9_plainOnes : mdok mX9_plainOnes 0 := ⟨gd_in (ti_2 (List.mem_of_getElem? (i := 218) rfl)) rfl, gd_in (ti_1 (List.mem_of_getElem? (i := 4) rfl)) rfl, by decide +kernel, by decide +kernel, by decide +kernel⟩
theorem vX9_plainOnes : mvok mX9_plainOnes := ⟨gd_in (ti_2 (List.mem_of_getElem? (i := 216) rfl)) rfl, gd_in (ti_2 (List.mem_of_getElem? (i := 217) rfl)) rfl⟩
theorem oX9_ropeOf : mdok mX9_ropeOf 1 := ⟨gd_in (ti_2 (List.mem_of_getElem? (i := 171) rfl)) rfl, gd_in (ti_1 (List.mem_of_getElem? (i := 4) rfl)) rfl, by decide +kernel, by decide +kernel, by decide +kernel⟩
theorem vX9_ropeOf : mvok mX9_ropeOf := ⟨gd_in (ti_2 (List.mem_of_getElem? (i := 169) rfl)) rfl, gd_in (ti_2 (List.mem_of_getElem? (i := 170) rfl)) rfl⟩
theorem oX9_saltedOfAll : mdok mX9_saltedOfAll 0 := ⟨gd_in (ti_2 (List.mem_of_getElem? (i := 213) rfl)) rfl, gd_in (ti_1 (List.mem_of_getElem? (i := 4) rfl)) rfl, by decide +kernel, by decide +kernel, by decide +kernel⟩
theorem vX9_saltedOfAll : mvok mX9_saltedOfAll := ⟨gd_in (ti_2 (List.mem_of_getElem? (i := 211) rfl)) rfl, gd_in (ti_2 (List.mem_of_getElem? (i := 212) rfl)) rfl⟩
theorem nRX10_84 : Cond.constant RX10 84 (Int32.ofInt (-1000000002)) ∈ lw_gd := gd_in (ti_2 (List.mem_of_getElem? (i := 88) rfl)) rfl
theorem nRX10_92 : Cond.constant RX10 92 (Int32.ofInt (-1000000004)) ∈ lw_gd := gd_in (ti_2 (List.mem_of_getElem? (i := 93) rfl)) rfl
theorem nRX10_145 : Cond.constant RX10 145 (Int32.ofInt (-1000000001)) ∈ lw_gd := gd_in (ti_3 (List.mem_of_getElem? (i := 26) rfl)) rfl
theorem nRX10_195 : Cond.constant RX10 195 (Int32.ofInt (-1000000003)) ∈ lw_gd := gd_in (ti_3 (List.mem_of_getElem? (i := 129) rfl)) rfl
theorem nRX10_271 : Cond.constantLong RX10 271 (Int64.ofInt (1000000000)) ∈ lw_gd := gd_in (ti_4 (List.mem_of_getElem? (i := 71) rfl)) rfl
theorem nRX10_273 : Cond.constantLong RX10 273 (Int64.ofInt (100)) ∈ lw_gd := gd_in (ti_4 (List.mem_of_getElem? (i := 72) rfl)) rfl
theorem nRX10_309 : Cond.constantLong RX10 309 (Int64.ofInt (1103515245)) ∈ lw_gd := gd_in (ti_3 (List.mem_of_getElem? (i := 210) rfl)) rfl
theorem nRX10_311 : Cond.constantLong RX10 311 (Int64.ofInt (12345)) ∈ lw_gd := gd_in (ti_3 (List.mem_of_getElem? (i := 211) rfl)) rfl
theorem nRX10_313 : Cond.constantLong RX10 313 (Int64.ofInt (2147483647)) ∈ lw_gd := gd_in (ti_3 (List.mem_of_getElem? (i := 212) rfl)) rfl
theorem nRX10_315 : Cond.constant RX10 315 (Int32.ofInt (65536)) ∈ lw_gd := gd_in (ti_3 (List.mem_of_getElem? (i := 213) rfl)) rfl
theorem nRX11_95 : Cond.constantLong RX11 95 (Int64.ofInt (255)) ∈ lw_gd := gd_in (ti_4 (List.mem_of_getElem? (i := 223) rfl)) rfl
theorem nRX11_97 : Cond.constant RX11 97 (Int32.ofInt (-1000000002)) ∈ lw_gd := gd_in (ti_4 (List.mem_of_getElem? (i := 227) rfl)) rfl
theorem nRX11_101 : Cond.constant RX11 101 (Int32.ofInt (-1000000004)) ∈ lw_gd := gd_in (ti_4 (List.mem_of_getElem? (i := 228) rfl)) rfl
theorem nRX11_119 : Cond.constantLong RX11 119 (Int64.ofInt (48)) ∈ lw_gd := gd_in (ti_5 (List.mem_of_getElem? (i := 9) rfl)) rfl
theorem nRX11_121 : Cond.constantLong RX11 121 (Int64.ofInt (57)) ∈ lw_gd := gd_in (ti_5 (List.mem_of_getElem? (i := 10) rfl)) rfl
theorem nRX11_129 : Cond.constantLong RX11 129 (Int64.ofInt (65)) ∈ lw_gd := gd_in (ti_5 (List.mem_of_getElem? (i := 22) rfl)) rfl
theorem nRX11_131 : Cond.constantLong RX11 131 (Int64.ofInt (90)) ∈ lw_gd := gd_in (ti_5 (List.mem_of_getElem? (i := 23) rfl)) rfl
theorem nRX11_133 : Cond.constantLong RX11 133 (Int64.ofInt (97)) ∈ lw_gd := gd_in (ti_5 (List.mem_of_getElem? (i := 24) rfl)) rfl
theorem nRX11_135 : Cond.constantLong RX11 135 (Int64.ofInt (122)) ∈ lw_gd := gd_in (ti_5 (List.mem_of_getElem? (i := 25) rfl)) rfl
theorem nRX11_210 : Cond.constant RX11 210 (Int32.ofInt (-1000000001)) ∈ lw_gd := gd_in (ti_5 (List.mem_of_getElem? (i := 53) rfl)) rfl
theorem nRX11_217 : Cond.constantLong RX11 217 (Int64.ofInt (3)) ∈ lw_gd := gd_in (ti_5 (List.mem_of_getElem? (i := 82) rfl)) rfl
theorem nRX11_248 : Cond.constantLong RX11 248 (Int64.ofInt (8)) ∈ lw_gd := gd_in (ti_5 (List.mem_of_getElem? (i := 124) rfl)) rfl
theorem nRX11_250 : Cond.constantLong RX11 250 (Int64.ofInt (6)) ∈ lw_gd := gd_in (ti_5 (List.mem_of_getElem? (i := 129) rfl)) rfl
theorem nRX11_279 : Cond.constant RX11 279 (Int32.ofInt (-1000000003)) ∈ lw_gd := gd_in (ti_5 (List.mem_of_getElem? (i := 206) rfl)) rfl
theorem nRX11_296 : Cond.constantLong RX11 296 (Int64.ofInt (1103515245)) ∈ lw_gd := gd_in (ti_6 (List.mem_of_getElem? (i := 29) rfl)) rfl
theorem nRX11_298 : Cond.constantLong RX11 298 (Int64.ofInt (12345)) ∈ lw_gd := gd_in (ti_6 (List.mem_of_getElem? (i := 30) rfl)) rfl
theorem nRX11_300 : Cond.constantLong RX11 300 (Int64.ofInt (2147483648)) ∈ lw_gd := gd_in (ti_6 (List.mem_of_getElem? (i := 31) rfl)) rfl
theorem nRX11_302 : Cond.constant RX11 302 (Int32.ofInt (65536)) ∈ lw_gd := gd_in (ti_6 (List.mem_of_getElem? (i := 32) rfl)) rfl
theorem nRX11_306 : Cond.constantLong RX11 306 (Int64.ofInt (30)) ∈ lw_gd := gd_in (ti_6 (List.mem_of_getElem? (i := 20) rfl)) rfl
theorem nRX11_314 : Cond.constantLong RX11 314 (Int64.ofInt (60)) ∈ lw_gd := gd_in (ti_6 (List.mem_of_getElem? (i := 42) rfl)) rfl
theorem nRX11_316 : Cond.constantLong RX11 316 (Int64.ofInt (100)) ∈ lw_gd := gd_in (ti_6 (List.mem_of_getElem? (i := 43) rfl)) rfl
theorem nRX11_318 : Cond.constantLong RX11 318 (Int64.ofInt (1000000000)) ∈ lw_gd := gd_in (ti_6 (List.mem_of_getElem? (i := 44) rfl)) rfl
theorem nRJ6_265 : Cond.constant RJ6 265 (Int32.ofInt (1431655765)) ∈ lw_gd := gd_in (ti_2 (List.mem_of_getElem? (i := 156) rfl)) rfl
theorem nRJ6_266 : Cond.constant RJ6 266 (Int32.ofInt (858993459)) ∈ lw_gd := gd_in (ti_2 (List.mem_of_getElem? (i := 157) rfl)) rfl
theorem nRJ6_267 : Cond.constant RJ6 267 (Int32.ofInt (252645135)) ∈ lw_gd := gd_in (ti_2 (List.mem_of_getElem? (i := 158) rfl)) rfl
end
section
/-! calls by what comes back -/
def SpI (M : MD) (av : List AV) (h : HH) (a : Int) (h' : HH) : Prop := Sp M av h (fun r g => r = some (vi a) ∧ g = h')
def SpV (M : MD) (av : List AV) (h : HH) (h' : HH) : Prop := Sp M av h (fun r g => r = none ∧ g = h')
def SpR (M : MD) (av : List AV) (h : HH) (v : AV) (h' : HH) : Prop := Sp M av h (fun r g => r = some v ∧ g = h')
section AWV
variable {M M' : MD} {P P' : Option AV → HH → Prop} {lv lv' : LV} {st stk : List AV} {h h' : HH} {k pc np tg t i x n : Nat} {as : List AV} {R : Option AV} {a : Int} {v : AV}

theorem i_virt0 (hd : (tb M)[k]? = some (pc, .invokevirtual x, 3, np, tg)) (hlk : Cond.methodLink M.1.cls x M'.1 ∈ lw_gd) (hm : mdok M' n) (hmv : mvok M') (hR : rmok M M') (hn : 0 = n) (ho : ((ko t).bind fun c => (vwCl[c]?).map fun q => q.1) = some M'.1.cls) (hwd : aw_ st ≤ 8) (hSp : SpI M' [vr t i] h a h') (kk : AW M P np lv (vi a :: st) h') : AW M P pc lv (vr t i :: st) h := a_virt (as := []) hd hlk hm hmv hR hn ho rfl hwd hSp (fun r g hp => by obtain ⟨rfl, rfl⟩ := hp; exact kk)

theorem v_virt0 (hd : (tb M)[k]? = some (pc, .invokevirtual x, 3, np, tg)) (hlk : Cond.methodLink M.1.cls x M'.1 ∈ lw_gd) (hm : mdok M' n) (hmv : mvok M') (hR : rmok M M') (hn : 0 = n) (ho : ((ko t).bind fun c => (vwCl[c]?).map fun q => q.1) = some M'.1.cls) (hwd : aw_ st ≤ 8) (hSp : SpV M' [vr t i] h h') (kk : AW M P np lv (st) h') : AW M P pc lv (vr t i :: st) h := a_virt (as := []) hd hlk hm hmv hR hn ho rfl hwd hSp (fun r g hp => by obtain ⟨rfl, rfl⟩ := hp; exact kk)

theorem r_virt0 (hd : (tb M)[k]? = some (pc, .invokevirtual x, 3, np, tg)) (hlk : Cond.methodLink M.1.cls x M'.1 ∈ lw_gd) (hm : mdok M' n) (hmv : mvok M') (hR : rmok M M') (hn : 0 = n) (ho : ((ko t).bind fun c => (vwCl[c]?).map fun q => q.1) = some M'.1.cls) (hwd : aw_ st ≤ 8) (hSp : SpR M' [vr t i] h v h') (kk : AW M P np lv (v :: st) h') : AW M P pc lv (vr t i :: st) h := a_virt (as := []) hd hlk hm hmv hR hn ho rfl hwd hSp (fun r g hp => by obtain ⟨rfl, rfl⟩ := hp; exact kk)

theorem ui_virt0 (hd : (tb M)[k]? = some (pc, .invokevirtual x, 3, np, tg)) (hlk : Cond.methodLink M.1.cls x M'.1 ∈ lw_gd) (hm : mdok M' n) (hmv : mvok M') (hR : rmok M M') (hn : 0 = n) (ho : ((ko t).bind fun c => (vwCl[c]?).map fun q => q.1) = some M'.1.cls) (hwd : aw_ st ≤ 8) (hSp : Sp M' [vr t i] h P') (hty : ∀ r g, P' r g → ∃ a, r = some (vi a)) (kk : ∀ (a : Int) (g : HH), P' (some (vi a)) g → AW M P np lv (vi a :: st) g) : AW M P pc lv (vr t i :: st) h := a_virt (as := []) hd hlk hm hmv hR hn ho rfl hwd hSp (fun r g hp => by obtain ⟨a, rfl⟩ := hty r g hp; exact kk a g hp)

theorem uv_virt0 (hd : (tb M)[k]? = some (pc, .invokevirtual x, 3, np, tg)) (hlk : Cond.methodLink M.1.cls x M'.1 ∈ lw_gd) (hm : mdok M' n) (hmv : mvok M') (hR : rmok M M') (hn : 0 = n) (ho : ((ko t).bind fun c => (vwCl[c]?).map fun q => q.1) = some M'.1.cls) (hwd : aw_ st ≤ 8) (hSp : Sp M' [vr t i] h P') (hty : ∀ r g, P' r g → r = none) (kk : ∀ (g : HH), P' (none) g → AW M P np lv (st) g) : AW M P pc lv (vr t i :: st) h := a_virt (as := []) hd hlk hm hmv hR hn ho rfl hwd hSp (fun r g hp => by obtain rfl := hty r g hp; exact kk g hp)

theorem i_virt1 {x0 : AV} (hd : (tb M)[k]? = some (pc, .invokevirtual x, 3, np, tg)) (hlk : Cond.methodLink M.1.cls x M'.1 ∈ lw_gd) (hm : mdok M' n) (hmv : mvok M') (hR : rmok M M') (hn : 1 = n) (ho : ((ko t).bind fun c => (vwCl[c]?).map fun q => q.1) = some M'.1.cls) (hwd : aw_ st ≤ 8) (hSp : SpI M' [vr t i, x0] h a h') (kk : AW M P np lv (vi a :: st) h') : AW M P pc lv (x0 :: vr t i :: st) h := a_virt (as := [x0]) hd hlk hm hmv hR hn ho rfl hwd hSp (fun r g hp => by obtain ⟨rfl, rfl⟩ := hp; exact kk)

theorem v_virt1 {x0 : AV} (hd : (tb M)[k]? = some (pc, .invokevirtual x, 3, np, tg)) (hlk : Cond.methodLink M.1.cls x M'.1 ∈ lw_gd) (hm : mdok M' n) (hmv : mvok M') (hR : rmok M M') (hn : 1 = n) (ho : ((ko t).bind fun c => (vwCl[c]?).map fun q => q.1) = some M'.1.cls) (hwd : aw_ st ≤ 8) (hSp : SpV M' [vr t i, x0] h h') (kk : AW M P np lv (st) h') : AW M P pc lv (x0 :: vr t i :: st) h := a_virt (as := [x0]) hd hlk hm hmv hR hn ho rfl hwd hSp (fun r g hp => by obtain ⟨rfl, rfl⟩ := hp; exact kk)

theorem r_virt1 {x0 : AV} (hd : (tb M)[k]? = some (pc, .invokevirtual x, 3, np, tg)) (hlk : Cond.methodLink M.1.cls x M'.1 ∈ lw_gd) (hm : mdok M' n) (hmv : mvok M') (hR : rmok M M') (hn : 1 = n) (ho : ((ko t).bind fun c => (vwCl[c]?).map fun q => q.1) = some M'.1.cls) (hwd : aw_ st ≤ 8) (hSp : SpR M' [vr t i, x0] h v h') (kk : AW M P np lv (v :: st) h') : AW M P pc lv (x0 :: vr t i :: st) h := a_virt (as := [x0]) hd hlk hm hmv hR hn ho rfl hwd hSp (fun r g hp => by obtain ⟨rfl, rfl⟩ := hp; exact kk)

theorem ui_virt1 {x0 : AV} (hd : (tb M)[k]? = some (pc, .invokevirtual x, 3, np, tg)) (hlk : Cond.methodLink M.1.cls x M'.1 ∈ lw_gd) (hm : mdok M' n) (hmv : mvok M') (hR : rmok M M') (hn : 1 = n) (ho : ((ko t).bind fun c => (vwCl[c]?).map fun q => q.1) = some M'.1.cls) (hwd : aw_ st ≤ 8) (hSp : Sp M' [vr t i, x0] h P') (hty : ∀ r g, P' r g → ∃ a, r = some (vi a)) (kk : ∀ (a : Int) (g : HH), P' (some (vi a)) g → AW M P np lv (vi a :: st) g) : AW M P pc lv (x0 :: vr t i :: st) h := a_virt (as := [x0]) hd hlk hm hmv hR hn ho rfl hwd hSp (fun r g hp => by obtain ⟨a, rfl⟩ := hty r g hp; exact kk a g hp)

theorem uv_virt1 {x0 : AV} (hd : (tb M)[k]? = some (pc, .invokevirtual x, 3, np, tg)) (hlk : Cond.methodLink M.1.cls x M'.1 ∈ lw_gd) (hm : mdok M' n) (hmv : mvok M') (hR : rmok M M') (hn : 1 = n) (ho : ((ko t).bind fun c => (vwCl[c]?).map fun q => q.1) = some M'.1.cls) (hwd : aw_ st ≤ 8) (hSp : Sp M' [vr t i, x0] h P') (hty : ∀ r g, P' r g → r = none) (kk : ∀ (g : HH), P' (none) g → AW M P np lv (st) g) : AW M P pc lv (x0 :: vr t i :: st) h := a_virt (as := [x0]) hd hlk hm hmv hR hn ho rfl hwd hSp (fun r g hp => by obtain rfl := hty r g hp; exact kk g hp)

theorem i_virt2 {x0 x1 : AV} (hd : (tb M)[k]? = some (pc, .invokevirtual x, 3, np, tg)) (hlk : Cond.methodLink M.1.cls x M'.1 ∈ lw_gd) (hm : mdok M' n) (hmv : mvok M') (hR : rmok M M') (hn : 2 = n) (ho : ((ko t).bind fun c => (vwCl[c]?).map fun q => q.1) = some M'.1.cls) (hwd : aw_ st ≤ 8) (hSp : SpI M' [vr t i, x0, x1] h a h') (kk : AW M P np lv (vi a :: st) h') : AW M P pc lv (x1 :: x0 :: vr t i :: st) h := a_virt (as := [x0, x1]) hd hlk hm hmv hR hn ho rfl hwd hSp (fun r g hp => by obtain ⟨rfl, rfl⟩ := hp; exact kk)

theorem v_virt2 {x0 x1 : AV} (hd : (tb M)[k]? = some (pc, .invokevirtual x, 3, np, tg)) (hlk : Cond.methodLink M.1.cls x M'.1 ∈ lw_gd) (hm : mdok M' n) (hmv : mvok M') (hR : rmok M M') (hn : 2 = n) (ho : ((ko t).bind fun c => (vwCl[c]?).map fun q => q.1) = some M'.1.cls) (hwd : aw_ st ≤ 8) (hSp : SpV M' [vr t i, x0, x1] h h') (kk : AW M P np lv (st) h') : AW M P pc lv (x1 :: x0 :: vr t i :: st) h := a_virt (as := [x0, x1]) hd hlk hm hmv hR hn ho rfl hwd hSp (fun r g hp => by obtain ⟨rfl, rfl⟩ := hp; exact kk)

theorem r_virt2 {x0 x1 : AV} (hd : (tb M)[k]? = some (pc, .invokevirtual x, 3, np, tg)) (hlk : Cond.methodLink M.1.cls x M'.1 ∈ lw_gd) (hm : mdok M' n) (hmv : mvok M') (hR : rmok M M') (hn : 2 = n) (ho : ((ko t).bind fun c => (vwCl[c]?).map fun q => q.1) = some M'.1.cls) (hwd : aw_ st ≤ 8) (hSp : SpR M' [vr t i, x0, x1] h v h') (kk : AW M P np lv (v :: st) h') : AW M P pc lv (x1 :: x0 :: vr t i :: st) h := a_virt (as := [x0, x1]) hd hlk hm hmv hR hn ho rfl hwd hSp (fun r g hp => by obtain ⟨rfl, rfl⟩ := hp; exact kk)

theorem ui_virt2 {x0 x1 : AV} (hd : (tb M)[k]? = some (pc, .invokevirtual x, 3, np, tg)) (hlk : Cond.methodLink M.1.cls x M'.1 ∈ lw_gd) (hm : mdok M' n) (hmv : mvok M') (hR : rmok M M') (hn : 2 = n) (ho : ((ko t).bind fun c => (vwCl[c]?).map fun q => q.1) = some M'.1.cls) (hwd : aw_ st ≤ 8) (hSp : Sp M' [vr t i, x0, x1] h P') (hty : ∀ r g, P' r g → ∃ a, r = some (vi a)) (kk : ∀ (a : Int) (g : HH), P' (some (vi a)) g → AW M P np lv (vi a :: st) g) : AW M P pc lv (x1 :: x0 :: vr t i :: st) h := a_virt (as := [x0, x1]) hd hlk hm hmv hR hn ho rfl hwd hSp (fun r g hp => by obtain ⟨a, rfl⟩ := hty r g hp; exact kk a g hp)

theorem uv_virt2 {x0 x1 : AV} (hd : (tb M)[k]? = some (pc, .invokevirtual x, 3, np, tg)) (hlk : Cond.methodLink M.1.cls x M'.1 ∈ lw_gd) (hm : mdok M' n) (hmv : mvok M') (hR : rmok M M') (hn : 2 = n) (ho : ((ko t).bind fun c => (vwCl[c]?).map fun q => q.1) = some M'.1.cls) (hwd : aw_ st ≤ 8) (hSp : Sp M' [vr t i, x0, x1] h P') (hty : ∀ r g, P' r g → r = none) (kk : ∀ (g : HH), P' (none) g → AW M P np lv (st) g) : AW M P pc lv (x1 :: x0 :: vr t i :: st) h := a_virt (as := [x0, x1]) hd hlk hm hmv hR hn ho rfl hwd hSp (fun r g hp => by obtain rfl := hty r g hp; exact kk g hp)

theorem i_virt3 {x0 x1 x2 : AV} (hd : (tb M)[k]? = some (pc, .invokevirtual x, 3, np, tg)) (hlk : Cond.methodLink M.1.cls x M'.1 ∈ lw_gd) (hm : mdok M' n) (hmv : mvok M') (hR : rmok M M') (hn : 3 = n) (ho : ((ko t).bind fun c => (vwCl[c]?).map fun q => q.1) = some M'.1.cls) (hwd : aw_ st ≤ 8) (hSp : SpI M' [vr t i, x0, x1, x2] h a h') (kk : AW M P np lv (vi a :: st) h') : AW M P pc lv (x2 :: x1 :: x0 :: vr t i :: st) h := a_virt (as := [x0, x1, x2]) hd hlk hm hmv hR hn ho rfl hwd hSp (fun r g hp => by obtain ⟨rfl, rfl⟩ := hp; exact kk)

theorem v_virt3 {x0 x1 x2 : AV} (hd : (tb M)[k]? = some (pc, .invokevirtual x, 3, np, tg)) (hlk : Cond.methodLink M.1.cls x M'.1 ∈ lw_gd) (hm : mdok M' n) (hmv : mvok M') (hR : rmok M M') (hn : 3 = n) (ho : ((ko t).bind fun c => (vwCl[c]?).map fun q => q.1) = some M'.1.cls) (hwd : aw_ st ≤ 8) (hSp : SpV M' [vr t i, x0, x1, x2] h h') (kk : AW M P np lv (st) h') : AW M P pc lv (x2 :: x1 :: x0 :: vr t i :: st) h := a_virt (as := [x0, x1, x2]) hd hlk hm hmv hR hn ho rfl hwd hSp (fun r g hp => by obtain ⟨rfl, rfl⟩ := hp; exact kk)

theorem r_virt3 {x0 x1 x2 : AV} (hd : (tb M)[k]? = some (pc, .invokevirtual x, 3, np, tg)) (hlk : Cond.methodLink M.1.cls x M'.1 ∈ lw_gd) (hm : mdok M' n) (hmv : mvok M') (hR : rmok M M') (hn : 3 = n) (ho : ((ko t).bind fun c => (vwCl[c]?).map fun q => q.1) = some M'.1.cls) (hwd : aw_ st ≤ 8) (hSp : SpR M' [vr t i, x0, x1, x2] h v h') (kk : AW M P np lv (v :: st) h') : AW M P pc lv (x2 :: x1 :: x0 :: vr t i :: st) h := a_virt (as := [x0, x1, x2]) hd hlk hm hmv hR hn ho rfl hwd hSp (fun r g hp => by obtain ⟨rfl, rfl⟩ := hp; exact kk)

theorem ui_virt3 {x0 x1 x2 : AV} (hd : (tb M)[k]? = some (pc, .invokevirtual x, 3, np, tg)) (hlk : Cond.methodLink M.1.cls x M'.1 ∈ lw_gd) (hm : mdok M' n) (hmv : mvok M') (hR : rmok M M') (hn : 3 = n) (ho : ((ko t).bind fun c => (vwCl[c]?).map fun q => q.1) = some M'.1.cls) (hwd : aw_ st ≤ 8) (hSp : Sp M' [vr t i, x0, x1, x2] h P') (hty : ∀ r g, P' r g → ∃ a, r = some (vi a)) (kk : ∀ (a : Int) (g : HH), P' (some (vi a)) g → AW M P np lv (vi a :: st) g) : AW M P pc lv (x2 :: x1 :: x0 :: vr t i :: st) h := a_virt (as := [x0, x1, x2]) hd hlk hm hmv hR hn ho rfl hwd hSp (fun r g hp => by obtain ⟨a, rfl⟩ := hty r g hp; exact kk a g hp)

theorem uv_virt3 {x0 x1 x2 : AV} (hd : (tb M)[k]? = some (pc, .invokevirtual x, 3, np, tg)) (hlk : Cond.methodLink M.1.cls x M'.1 ∈ lw_gd) (hm : mdok M' n) (hmv : mvok M') (hR : rmok M M') (hn : 3 = n) (ho : ((ko t).bind fun c => (vwCl[c]?).map fun q => q.1) = some M'.1.cls) (hwd : aw_ st ≤ 8) (hSp : Sp M' [vr t i, x0, x1, x2] h P') (hty : ∀ r g, P' r g → r = none) (kk : ∀ (g : HH), P' (none) g → AW M P np lv (st) g) : AW M P pc lv (x2 :: x1 :: x0 :: vr t i :: st) h := a_virt (as := [x0, x1, x2]) hd hlk hm hmv hR hn ho rfl hwd hSp (fun r g hp => by obtain rfl := hty r g hp; exact kk g hp)

theorem i_virt4 {x0 x1 x2 x3 : AV} (hd : (tb M)[k]? = some (pc, .invokevirtual x, 3, np, tg)) (hlk : Cond.methodLink M.1.cls x M'.1 ∈ lw_gd) (hm : mdok M' n) (hmv : mvok M') (hR : rmok M M') (hn : 4 = n) (ho : ((ko t).bind fun c => (vwCl[c]?).map fun q => q.1) = some M'.1.cls) (hwd : aw_ st ≤ 8) (hSp : SpI M' [vr t i, x0, x1, x2, x3] h a h') (kk : AW M P np lv (vi a :: st) h') : AW M P pc lv (x3 :: x2 :: x1 :: x0 :: vr t i :: st) h := a_virt (as := [x0, x1, x2, x3]) hd hlk hm hmv hR hn ho rfl hwd hSp (fun r g hp => by obtain ⟨rfl, rfl⟩ := hp; exact kk)

theorem v_virt4 {x0 x1 x2 x3 : AV} (hd : (tb M)[k]? = some (pc, .invokevirtual x, 3, np, tg)) (hlk : Cond.methodLink M.1.cls x M'.1 ∈ lw_gd) (hm : mdok M' n) (hmv : mvok M') (hR : rmok M M') (hn : 4 = n) (ho : ((ko t).bind fun c => (vwCl[c]?).map fun q => q.1) = some M'.1.cls) (hwd : aw_ st ≤ 8) (hSp : SpV M' [vr t i, x0, x1, x2, x3] h h') (kk : AW M P np lv (st) h') : AW M P pc lv (x3 :: x2 :: x1 :: x0 :: vr t i :: st) h := a_virt (as := [x0, x1, x2, x3]) hd hlk hm hmv hR hn ho rfl hwd hSp (fun r g hp => by obtain ⟨rfl, rfl⟩ := hp; exact kk)

theorem r_virt4 {x0 x1 x2 x3 : AV} (hd : (tb M)[k]? = some (pc, .invokevirtual x, 3, np, tg)) (hlk : Cond.methodLink M.1.cls x M'.1 ∈ lw_gd) (hm : mdok M' n) (hmv : mvok M') (hR : rmok M M') (hn : 4 = n) (ho : ((ko t).bind fun c => (vwCl[c]?).map fun q => q.1) = some M'.1.cls) (hwd : aw_ st ≤ 8) (hSp : SpR M' [vr t i, x0, x1, x2, x3] h v h') (kk : AW M P np lv (v :: st) h') : AW M P pc lv (x3 :: x2 :: x1 :: x0 :: vr t i :: st) h := a_virt (as := [x0, x1, x2, x3]) hd hlk hm hmv hR hn ho rfl hwd hSp (fun r g hp => by obtain ⟨rfl, rfl⟩ := hp; exact kk)

theorem ui_virt4 {x0 x1 x2 x3 : AV} (hd : (tb M)[k]? = some (pc, .invokevirtual x, 3, np, tg)) (hlk : Cond.methodLink M.1.cls x M'.1 ∈ lw_gd) (hm : mdok M' n) (hmv : mvok M') (hR : rmok M M') (hn : 4 = n) (ho : ((ko t).bind fun c => (vwCl[c]?).map fun q => q.1) = some M'.1.cls) (hwd : aw_ st ≤ 8) (hSp : Sp M' [vr t i, x0, x1, x2, x3] h P') (hty : ∀ r g, P' r g → ∃ a, r = some (vi a)) (kk : ∀ (a : Int) (g : HH), P' (some (vi a)) g → AW M P np lv (vi a :: st) g) : AW M P pc lv (x3 :: x2 :: x1 :: x0 :: vr t i :: st) h := a_virt (as := [x0, x1, x2, x3]) hd hlk hm hmv hR hn ho rfl hwd hSp (fun r g hp => by obtain ⟨a, rfl⟩ := hty r g hp; exact kk a g hp)

theorem uv_virt4 {x0 x1 x2 x3 : AV} (hd : (tb M)[k]? = some (pc, .invokevirtual x, 3, np, tg)) (hlk : Cond.methodLink M.1.cls x M'.1 ∈ lw_gd) (hm : mdok M' n) (hmv : mvok M') (hR : rmok M M') (hn : 4 = n) (ho : ((ko t).bind fun c => (vwCl[c]?).map fun q => q.1) = some M'.1.cls) (hwd : aw_ st ≤ 8) (hSp : Sp M' [vr t i, x0, x1, x2, x3] h P') (hty : ∀ r g, P' r g → r = none) (kk : ∀ (g : HH), P' (none) g → AW M P np lv (st) g) : AW M P pc lv (x3 :: x2 :: x1 :: x0 :: vr t i :: st) h := a_virt (as := [x0, x1, x2, x3]) hd hlk hm hmv hR hn ho rfl hwd hSp (fun r g hp => by obtain rfl := hty r g hp; exact kk g hp)

theorem i_virt5 {x0 x1 x2 x3 x4 : AV} (hd : (tb M)[k]? = some (pc, .invokevirtual x, 3, np, tg)) (hlk : Cond.methodLink M.1.cls x M'.1 ∈ lw_gd) (hm : mdok M' n) (hmv : mvok M') (hR : rmok M M') (hn : 5 = n) (ho : ((ko t).bind fun c => (vwCl[c]?).map fun q => q.1) = some M'.1.cls) (hwd : aw_ st ≤ 8) (hSp : SpI M' [vr t i, x0, x1, x2, x3, x4] h a h') (kk : AW M P np lv (vi a :: st) h') : AW M P pc lv (x4 :: x3 :: x2 :: x1 :: x0 :: vr t i :: st) h := a_virt (as := [x0, x1, x2, x3, x4]) hd hlk hm hmv hR hn ho rfl hwd hSp (fun r g hp => by obtain ⟨rfl, rfl⟩ := hp; exact kk)

theorem v_virt5 {x0 x1 x2 x3 x4 : AV} (hd : (tb M)[k]? = some (pc, .invokevirtual x, 3, np, tg)) (hlk : Cond.methodLink M.1.cls x M'.1 ∈ lw_gd) (hm : mdok M' n) (hmv : mvok M') (hR : rmok M M') (hn : 5 = n) (ho : ((ko t).bind fun c => (vwCl[c]?).map fun q => q.1) = some M'.1.cls) (hwd : aw_ st ≤ 8) (hSp : SpV M' [vr t i, x0, x1, x2, x3, x4] h h') (kk : AW M P np lv (st) h') : AW M P pc lv (x4 :: x3 :: x2 :: x1 :: x0 :: vr t i :: st) h := a_virt (as := [x0, x1, x2, x3, x4]) hd hlk hm hmv hR hn ho rfl hwd hSp (fun r g hp => by obtain ⟨rfl, rfl⟩ := hp; exact kk)

theorem r_virt5 {x0 x1 x2 x3 x4 : AV} (hd : (tb M)[k]? = some (pc, .invokevirtual x, 3, np, tg)) (hlk : Cond.methodLink M.1.cls x M'.1 ∈ lw_gd) (hm : mdok M' n) (hmv : mvok M') (hR : rmok M M') (hn : 5 = n) (ho : ((ko t).bind fun c => (vwCl[c]?).map fun q => q.1) = some M'.1.cls) (hwd : aw_ st ≤ 8) (hSp : SpR M' [vr t i, x0, x1, x2, x3, x4] h v h') (kk : AW M P np lv (v :: st) h') : AW M P pc lv (x4 :: x3 :: x2 :: x1 :: x0 :: vr t i :: st) h := a_virt (as := [x0, x1, x2, x3, x4]) hd hlk hm hmv hR hn ho rfl hwd hSp (fun r g hp => by obtain ⟨rfl, rfl⟩ := hp; exact kk)

theorem ui_virt5 {x0 x1 x2 x3 x4 : AV} (hd : (tb M)[k]? = some (pc, .invokevirtual x, 3, np, tg)) (hlk : Cond.methodLink M.1.cls x M'.1 ∈ lw_gd) (hm : mdok M' n) (hmv : mvok M') (hR : rmok M M') (hn : 5 = n) (ho : ((ko t).bind fun c => (vwCl[c]?).map fun q => q.1) = some M'.1.cls) (hwd : aw_ st ≤ 8) (hSp : Sp M' [vr t i, x0, x1, x2, x3, x4] h P') (hty : ∀ r g, P' r g → ∃ a, r = some (vi a)) (kk : ∀ (a : Int) (g : HH), P' (some (vi a)) g → AW M P np lv (vi a :: st) g) : AW M P pc lv (x4 :: x3 :: x2 :: x1 :: x0 :: vr t i :: st) h := a_virt (as := [x0, x1, x2, x3, x4]) hd hlk hm hmv hR hn ho rfl hwd hSp (fun r g hp => by obtain ⟨a, rfl⟩ := hty r g hp; exact kk a g hp)

theorem uv_virt5 {x0 x1 x2 x3 x4 : AV} (hd : (tb M)[k]? = some (pc, .invokevirtual x, 3, np, tg)) (hlk : Cond.methodLink M.1.cls x M'.1 ∈ lw_gd) (hm : mdok M' n) (hmv : mvok M') (hR : rmok M M') (hn : 5 = n) (ho : ((ko t).bind fun c => (vwCl[c]?).map fun q => q.1) = some M'.1.cls) (hwd : aw_ st ≤ 8) (hSp : Sp M' [vr t i, x0, x1, x2, x3, x4] h P') (hty : ∀ r g, P' r g → r = none) (kk : ∀ (g : HH), P' (none) g → AW M P np lv (st) g) : AW M P pc lv (x4 :: x3 :: x2 :: x1 :: x0 :: vr t i :: st) h := a_virt (as := [x0, x1, x2, x3, x4]) hd hlk hm hmv hR hn ho rfl hwd hSp (fun r g hp => by obtain rfl := hty r g hp; exact kk g hp)

theorem i_virt6 {x0 x1 x2 x3 x4 x5 : AV} (hd : (tb M)[k]? = some (pc, .invokevirtual x, 3, np, tg)) (hlk : Cond.methodLink M.1.cls x M'.1 ∈ lw_gd) (hm : mdok M' n) (hmv : mvok M') (hR : rmok M M') (hn : 6 = n) (ho : ((ko t).bind fun c => (vwCl[c]?).map fun q => q.1) = some M'.1.cls) (hwd : aw_ st ≤ 8) (hSp : SpI M' [vr t i, x0, x1, x2, x3, x4, x5] h a h') (kk : AW M P np lv (vi a :: st) h') : AW M P pc lv (x5 :: x4 :: x3 :: x2 :: x1 :: x0 :: vr t i :: st) h := a_virt (as := [x0, x1, x2, x3, x4, x5]) hd hlk hm hmv hR hn ho rfl hwd hSp (fun r g hp => by obtain ⟨rfl, rfl⟩ := hp; exact kk)

theorem v_virt6 {x0 x1 x2 x3 x4 x5 : AV} (hd : (tb M)[k]? = some (pc, .invokevirtual x, 3, np, tg)) (hlk : Cond.methodLink M.1.cls x M'.1 ∈ lw_gd) (hm : mdok M' n) (hmv : mvok M') (hR : rmok M M') (hn : 6 = n) (ho : ((ko t).bind fun c => (vwCl[c]?).map fun q => q.1) = some M'.1.cls) (hwd : aw_ st ≤ 8) (hSp : SpV M' [vr t i, x0, x1, x2, x3, x4, x5] h h') (kk : AW M P np lv (st) h') : AW M P pc lv (x5 :: x4 :: x3 :: x2 :: x1 :: x0 :: vr t i :: st) h := a_virt (as := [x0, x1, x2, x3, x4, x5]) hd hlk hm hmv hR hn ho rfl hwd hSp (fun r g hp => by obtain ⟨rfl, rfl⟩ := hp; exact kk)

theorem r_virt6 {x0 x1 x2 x3 x4 x5 : AV} (hd : (tb M)[k]? = some (pc, .invokevirtual x, 3, np, tg)) (hlk : Cond.methodLink M.1.cls x M'.1 ∈ lw_gd) (hm : mdok M' n) (hmv : mvok M') (hR : rmok M M') (hn : 6 = n) (ho : ((ko t).bind fun c => (vwCl[c]?).map fun q => q.1) = some M'.1.cls) (hwd : aw_ st ≤ 8) (hSp : SpR M' [vr t i, x0, x1, x2, x3, x4, x5] h v h') (kk : AW M P np lv (v :: st) h') : AW M P pc lv (x5 :: x4 :: x3 :: x2 :: x1 :: x0 :: vr t i :: st) h := a_virt (as := [x0, x1, x2, x3, x4, x5]) hd hlk hm hmv hR hn ho rfl hwd hSp (fun r g hp => by obtain ⟨rfl, rfl⟩ := hp; exact kk)

theorem ui_virt6 {x0 x1 x2 x3 x4 x5 : AV} (hd : (tb M)[k]? = some (pc, .invokevirtual x, 3, np, tg)) (hlk : Cond.methodLink M.1.cls x M'.1 ∈ lw_gd) (hm : mdok M' n) (hmv : mvok M') (hR : rmok M M') (hn : 6 = n) (ho : ((ko t).bind fun c => (vwCl[c]?).map fun q => q.1) = some M'.1.cls) (hwd : aw_ st ≤ 8) (hSp : Sp M' [vr t i, x0, x1, x2, x3, x4, x5] h P') (hty : ∀ r g, P' r g → ∃ a, r = some (vi a)) (kk : ∀ (a : Int) (g : HH), P' (some (vi a)) g → AW M P np lv (vi a :: st) g) : AW M P pc lv (x5 :: x4 :: x3 :: x2 :: x1 :: x0 :: vr t i :: st) h := a_virt (as := [x0, x1, x2, x3, x4, x5]) hd hlk hm hmv hR hn ho rfl hwd hSp (fun r g hp => by obtain ⟨a, rfl⟩ := hty r g hp; exact kk a g hp)

theorem uv_virt6 {x0 x1 x2 x3 x4 x5 : AV} (hd : (tb M)[k]? = some (pc, .invokevirtual x, 3, np, tg)) (hlk : Cond.methodLink M.1.cls x M'.1 ∈ lw_gd) (hm : mdok M' n) (hmv : mvok M') (hR : rmok M M') (hn : 6 = n) (ho : ((ko t).bind fun c => (vwCl[c]?).map fun q => q.1) = some M'.1.cls) (hwd : aw_ st ≤ 8) (hSp : Sp M' [vr t i, x0, x1, x2, x3, x4, x5] h P') (hty : ∀ r g, P' r g → r = none) (kk : ∀ (g : HH), P' (none) g → AW M P np lv (st) g) : AW M P pc lv (x5 :: x4 :: x3 :: x2 :: x1 :: x0 :: vr t i :: st) h := a_virt (as := [x0, x1, x2, x3, x4, x5]) hd hlk hm hmv hR hn ho rfl hwd hSp (fun r g hp => by obtain rfl := hty r g hp; exact kk g hp)

theorem i_stat1 {x0 : AV} (hd : (tb M)[k]? = some (pc, .invokestatic x, 3, np, tg)) (hlk : Cond.methodLink M.1.cls x M'.1 ∈ lw_gd) (hm : mdok M' n) (hmv : Cond.static M'.1 ∈ lw_gd) (hR : rmok M M') (hn : 1 = n) (hwd : aw_ st ≤ 8) (hSp : SpI M' [x0] h a h') (kk : AW M P np lv (vi a :: st) h') : AW M P pc lv (x0 :: st) h := a_stat (as := [x0]) hd hlk hm hmv hR hn rfl hwd hSp (fun r g hp => by obtain ⟨rfl, rfl⟩ := hp; exact kk)

theorem v_stat1 {x0 : AV} (hd : (tb M)[k]? = some (pc, .invokestatic x, 3, np, tg)) (hlk : Cond.methodLink M.1.cls x M'.1 ∈ lw_gd) (hm : mdok M' n) (hmv : Cond.static M'.1 ∈ lw_gd) (hR : rmok M M') (hn : 1 = n) (hwd : aw_ st ≤ 8) (hSp : SpV M' [x0] h h') (kk : AW M P np lv (st) h') : AW M P pc lv (x0 :: st) h := a_stat (as := [x0]) hd hlk hm hmv hR hn rfl hwd hSp (fun r g hp => by obtain ⟨rfl, rfl⟩ := hp; exact kk)

theorem r_stat1 {x0 : AV} (hd : (tb M)[k]? = some (pc, .invokestatic x, 3, np, tg)) (hlk : Cond.methodLink M.1.cls x M'.1 ∈ lw_gd) (hm : mdok M' n) (hmv : Cond.static M'.1 ∈ lw_gd) (hR : rmok M M') (hn : 1 = n) (hwd : aw_ st ≤ 8) (hSp : SpR M' [x0] h v h') (kk : AW M P np lv (v :: st) h') : AW M P pc lv (x0 :: st) h := a_stat (as := [x0]) hd hlk hm hmv hR hn rfl hwd hSp (fun r g hp => by obtain ⟨rfl, rfl⟩ := hp; exact kk)

theorem ui_stat1 {x0 : AV} (hd : (tb M)[k]? = some (pc, .invokestatic x, 3, np, tg)) (hlk : Cond.methodLink M.1.cls x M'.1 ∈ lw_gd) (hm : mdok M' n) (hmv : Cond.static M'.1 ∈ lw_gd) (hR : rmok M M') (hn : 1 = n) (hwd : aw_ st ≤ 8) (hSp : Sp M' [x0] h P') (hty : ∀ r g, P' r g → ∃ a, r = some (vi a)) (kk : ∀ (a : Int) (g : HH), P' (some (vi a)) g → AW M P np lv (vi a :: st) g) : AW M P pc lv (x0 :: st) h := a_stat (as := [x0]) hd hlk hm hmv hR hn rfl hwd hSp (fun r g hp => by obtain ⟨a, rfl⟩ := hty r g hp; exact kk a g hp)

theorem uv_stat1 {x0 : AV} (hd : (tb M)[k]? = some (pc, .invokestatic x, 3, np, tg)) (hlk : Cond.methodLink M.1.cls x M'.1 ∈ lw_gd) (hm : mdok M' n) (hmv : Cond.static M'.1 ∈ lw_gd) (hR : rmok M M') (hn : 1 = n) (hwd : aw_ st ≤ 8) (hSp : Sp M' [x0] h P') (hty : ∀ r g, P' r g → r = none) (kk : ∀ (g : HH), P' (none) g → AW M P np lv (st) g) : AW M P pc lv (x0 :: st) h := a_stat (as := [x0]) hd hlk hm hmv hR hn rfl hwd hSp (fun r g hp => by obtain rfl := hty r g hp; exact kk g hp)

theorem i_stat2 {x0 x1 : AV} (hd : (tb M)[k]? = some (pc, .invokestatic x, 3, np, tg)) (hlk : Cond.methodLink M.1.cls x M'.1 ∈ lw_gd) (hm : mdok M' n) (hmv : Cond.static M'.1 ∈ lw_gd) (hR : rmok M M') (hn : 2 = n) (hwd : aw_ st ≤ 8) (hSp : SpI M' [x0, x1] h a h') (kk : AW M P np lv (vi a :: st) h') : AW M P pc lv (x1 :: x0 :: st) h := a_stat (as := [x0, x1]) hd hlk hm hmv hR hn rfl hwd hSp (fun r g hp => by obtain ⟨rfl, rfl⟩ := hp; exact kk)

theorem v_stat2 {x0 x1 : AV} (hd : (tb M)[k]? = some (pc, .invokestatic x, 3, np, tg)) (hlk : Cond.methodLink M.1.cls x M'.1 ∈ lw_gd) (hm : mdok M' n) (hmv : Cond.static M'.1 ∈ lw_gd) (hR : rmok M M') (hn : 2 = n) (hwd : aw_ st ≤ 8) (hSp : SpV M' [x0, x1] h h') (kk : AW M P np lv (st) h') : AW M P pc lv (x1 :: x0 :: st) h := a_stat (as := [x0, x1]) hd hlk hm hmv hR hn rfl hwd hSp (fun r g hp => by obtain ⟨rfl, rfl⟩ := hp; exact kk)

theorem r_stat2 {x0 x1 : AV} (hd : (tb M)[k]? = some (pc, .invokestatic x, 3, np, tg)) (hlk : Cond.methodLink M.1.cls x M'.1 ∈ lw_gd) (hm : mdok M' n) (hmv : Cond.static M'.1 ∈ lw_gd) (hR : rmok M M') (hn : 2 = n) (hwd : aw_ st ≤ 8) (hSp : SpR M' [x0, x1] h v h') (kk : AW M P np lv (v :: st) h') : AW M P pc lv (x1 :: x0 :: st) h := a_stat (as := [x0, x1]) hd hlk hm hmv hR hn rfl hwd hSp (fun r g hp => by obtain ⟨rfl, rfl⟩ := hp; exact kk)

theorem ui_stat2 {x0 x1 : AV} (hd : (tb M)[k]? = some (pc, .invokestatic x, 3, np, tg)) (hlk : Cond.methodLink M.1.cls x M'.1 ∈ lw_gd) (hm : mdok M' n) (hmv : Cond.static M'.1 ∈ lw_gd) (hR : rmok M M') (hn : 2 = n) (hwd : aw_ st ≤ 8) (hSp : Sp M' [x0, x1] h P') (hty : ∀ r g, P' r g → ∃ a, r = some (vi a)) (kk : ∀ (a : Int) (g : HH), P' (some (vi a)) g → AW M P np lv (vi a :: st) g) : AW M P pc lv (x1 :: x0 :: st) h := a_stat (as := [x0, x1]) hd hlk hm hmv hR hn rfl hwd hSp (fun r g hp => by obtain ⟨a, rfl⟩ := hty r g hp; exact kk a g hp)

theorem uv_stat2 {x0 x1 : AV} (hd : (tb M)[k]? = some (pc, .invokestatic x, 3, np, tg)) (hlk : Cond.methodLink M.1.cls x M'.1 ∈ lw_gd) (hm : mdok M' n) (hmv : Cond.static M'.1 ∈ lw_gd) (hR : rmok M M') (hn : 2 = n) (hwd : aw_ st ≤ 8) (hSp : Sp M' [x0, x1] h P') (hty : ∀ r g, P' r g → r = none) (kk : ∀ (g : HH), P' (none) g → AW M P np lv (st) g) : AW M P pc lv (x1 :: x0 :: st) h := a_stat (as := [x0, x1]) hd hlk hm hmv hR hn rfl hwd hSp (fun r g hp => by obtain rfl := hty r g hp; exact kk g hp)

theorem i_stat3 {x0 x1 x2 : AV} (hd : (tb M)[k]? = some (pc, .invokestatic x, 3, np, tg)) (hlk : Cond.methodLink M.1.cls x M'.1 ∈ lw_gd) (hm : mdok M' n) (hmv : Cond.static M'.1 ∈ lw_gd) (hR : rmok M M') (hn : 3 = n) (hwd : aw_ st ≤ 8) (hSp : SpI M' [x0, x1, x2] h a h') (kk : AW M P np lv (vi a :: st) h') : AW M P pc lv (x2 :: x1 :: x0 :: st) h := a_stat (as := [x0, x1, x2]) hd hlk hm hmv hR hn rfl hwd hSp (fun r g hp => by obtain ⟨rfl, rfl⟩ := hp; exact kk)

theorem v_stat3 {x0 x1 x2 : AV} (hd : (tb M)[k]? = some (pc, .invokestatic x, 3, np, tg)) (hlk : Cond.methodLink M.1.cls x M'.1 ∈ lw_gd) (hm : mdok M' n) (hmv : Cond.static M'.1 ∈ lw_gd) (hR : rmok M M') (hn : 3 = n) (hwd : aw_ st ≤ 8) (hSp : SpV M' [x0, x1, x2] h h') (kk : AW M P np lv (st) h') : AW M P pc lv (x2 :: x1 :: x0 :: st) h := a_stat (as := [x0, x1, x2]) hd hlk hm hmv hR hn rfl hwd hSp (fun r g hp => by obtain ⟨rfl, rfl⟩ := hp; exact kk)

theorem r_stat3 {x0 x1 x2 : AV} (hd : (tb M)[k]? = some (pc, .invokestatic x, 3, np, tg)) (hlk : Cond.methodLink M.1.cls x M'.1 ∈ lw_gd) (hm : mdok M' n) (hmv : Cond.static M'.1 ∈ lw_gd) (hR : rmok M M') (hn : 3 = n) (hwd : aw_ st ≤ 8) (hSp : SpR M' [x0, x1, x2] h v h') (kk : AW M P np lv (v :: st) h') : AW M P pc lv (x2 :: x1 :: x0 :: st) h := a_stat (as := [x0, x1, x2]) hd hlk hm hmv hR hn rfl hwd hSp (fun r g hp => by obtain ⟨rfl, rfl⟩ := hp; exact kk)

theorem ui_stat3 {x0 x1 x2 : AV} (hd : (tb M)[k]? = some (pc, .invokestatic x, 3, np, tg)) (hlk : Cond.methodLink M.1.cls x M'.1 ∈ lw_gd) (hm : mdok M' n) (hmv : Cond.static M'.1 ∈ lw_gd) (hR : rmok M M') (hn : 3 = n) (hwd : aw_ st ≤ 8) (hSp : Sp M' [x0, x1, x2] h P') (hty : ∀ r g, P' r g → ∃ a, r = some (vi a)) (kk : ∀ (a : Int) (g : HH), P' (some (vi a)) g → AW M P np lv (vi a :: st) g) : AW M P pc lv (x2 :: x1 :: x0 :: st) h := a_stat (as := [x0, x1, x2]) hd hlk hm hmv hR hn rfl hwd hSp (fun r g hp => by obtain ⟨a, rfl⟩ := hty r g hp; exact kk a g hp)

theorem uv_stat3 {x0 x1 x2 : AV} (hd : (tb M)[k]? = some (pc, .invokestatic x, 3, np, tg)) (hlk : Cond.methodLink M.1.cls x M'.1 ∈ lw_gd) (hm : mdok M' n) (hmv : Cond.static M'.1 ∈ lw_gd) (hR : rmok M M') (hn : 3 = n) (hwd : aw_ st ≤ 8) (hSp : Sp M' [x0, x1, x2] h P') (hty : ∀ r g, P' r g → r = none) (kk : ∀ (g : HH), P' (none) g → AW M P np lv (st) g) : AW M P pc lv (x2 :: x1 :: x0 :: st) h := a_stat (as := [x0, x1, x2]) hd hlk hm hmv hR hn rfl hwd hSp (fun r g hp => by obtain rfl := hty r g hp; exact kk g hp)

theorem i_stat4 {x0 x1 x2 x3 : AV} (hd : (tb M)[k]? = some (pc, .invokestatic x, 3, np, tg)) (hlk : Cond.methodLink M.1.cls x M'.1 ∈ lw_gd) (hm : mdok M' n) (hmv : Cond.static M'.1 ∈ lw_gd) (hR : rmok M M') (hn : 4 = n) (hwd : aw_ st ≤ 8) (hSp : SpI M' [x0, x1, x2, x3] h a h') (kk : AW M P np lv (vi a :: st) h') : AW M P pc lv (x3 :: x2 :: x1 :: x0 :: st) h := a_stat (as := [x0, x1, x2, x3]) hd hlk hm hmv hR hn rfl hwd hSp (fun r g hp => by obtain ⟨rfl, rfl⟩ := hp; exact kk)

theorem v_stat4 {x0 x1 x2 x3 : AV} (hd : (tb M)[k]? = some (pc, .invokestatic x, 3, np, tg)) (hlk : Cond.methodLink M.1.cls x M'.1 ∈ lw_gd) (hm : mdok M' n) (hmv : Cond.static M'.1 ∈ lw_gd) (hR : rmok M M') (hn : 4 = n) (hwd : aw_ st ≤ 8) (hSp : SpV M' [x0, x1, x2, x3] h h') (kk : AW M P np lv (st) h') : AW M P pc lv (x3 :: x2 :: x1 :: x0 :: st) h := a_stat (as := [x0, x1, x2, x3]) hd hlk hm hmv hR hn rfl hwd hSp (fun r g hp => by obtain ⟨rfl, rfl⟩ := hp; exact kk)

theorem r_stat4 {x0 x1 x2 x3 : AV} (hd : (tb M)[k]? = some (pc, .invokestatic x, 3, np, tg)) (hlk : Cond.methodLink M.1.cls x M'.1 ∈ lw_gd) (hm : mdok M' n) (hmv : Cond.static M'.1 ∈ lw_gd) (hR : rmok M M') (hn : 4 = n) (hwd : aw_ st ≤ 8) (hSp : SpR M' [x0, x1, x2, x3] h v h') (kk : AW M P np lv (v :: st) h') : AW M P pc lv (x3 :: x2 :: x1 :: x0 :: st) h := a_stat (as := [x0, x1, x2, x3]) hd hlk hm hmv hR hn rfl hwd hSp (fun r g hp => by obtain ⟨rfl, rfl⟩ := hp; exact kk)

theorem ui_stat4 {x0 x1 x2 x3 : AV} (hd : (tb M)[k]? = some (pc, .invokestatic x, 3, np, tg)) (hlk : Cond.methodLink M.1.cls x M'.1 ∈ lw_gd) (hm : mdok M' n) (hmv : Cond.static M'.1 ∈ lw_gd) (hR : rmok M M') (hn : 4 = n) (hwd : aw_ st ≤ 8) (hSp : Sp M' [x0, x1, x2, x3] h P') (hty : ∀ r g, P' r g → ∃ a, r = some (vi a)) (kk : ∀ (a : Int) (g : HH), P' (some (vi a)) g → AW M P np lv (vi a :: st) g) : AW M P pc lv (x3 :: x2 :: x1 :: x0 :: st) h := a_stat (as := [x0, x1, x2, x3]) hd hlk hm hmv hR hn rfl hwd hSp (fun r g hp => by obtain ⟨a, rfl⟩ := hty r g hp; exact kk a g hp)

theorem uv_stat4 {x0 x1 x2 x3 : AV} (hd : (tb M)[k]? = some (pc, .invokestatic x, 3, np, tg)) (hlk : Cond.methodLink M.1.cls x M'.1 ∈ lw_gd) (hm : mdok M' n) (hmv : Cond.static M'.1 ∈ lw_gd) (hR : rmok M M') (hn : 4 = n) (hwd : aw_ st ≤ 8) (hSp : Sp M' [x0, x1, x2, x3] h P') (hty : ∀ r g, P' r g → r = none) (kk : ∀ (g : HH), P' (none) g → AW M P np lv (st) g) : AW M P pc lv (x3 :: x2 :: x1 :: x0 :: st) h := a_stat (as := [x0, x1, x2, x3]) hd hlk hm hmv hR hn rfl hwd hSp (fun r g hp => by obtain rfl := hty r g hp; exact kk g hp)

theorem i_stat5 {x0 x1 x2 x3 x4 : AV} (hd : (tb M)[k]? = some (pc, .invokestatic x, 3, np, tg)) (hlk : Cond.methodLink M.1.cls x M'.1 ∈ lw_gd) (hm : mdok M' n) (hmv : Cond.static M'.1 ∈ lw_gd) (hR : rmok M M') (hn : 5 = n) (hwd : aw_ st ≤ 8) (hSp : SpI M' [x0, x1, x2, x3, x4] h a h') (kk : AW M P np lv (vi a :: st) h') : AW M P pc lv (x4 :: x3 :: x2 :: x1 :: x0 :: st) h := a_stat (as := [x0, x1, x2, x3, x4]) hd hlk hm hmv hR hn rfl hwd hSp (fun r g hp => by obtain ⟨rfl, rfl⟩ := hp; exact kk)

theorem v_stat5 {x0 x1 x2 x3 x4 : AV} (hd : (tb M)[k]? = some (pc, .invokestatic x, 3, np, tg)) (hlk : Cond.methodLink M.1.cls x M'.1 ∈ lw_gd) (hm : mdok M' n) (hmv : Cond.static M'.1 ∈ lw_gd) (hR : rmok M M') (hn : 5 = n) (hwd : aw_ st ≤ 8) (hSp : SpV M' [x0, x1, x2, x3, x4] h h') (kk : AW M P np lv (st) h') : AW M P pc lv (x4 :: x3 :: x2 :: x1 :: x0 :: st) h := a_stat (as := [x0, x1, x2, x3, x4]) hd hlk hm hmv hR hn rfl hwd hSp (fun r g hp => by obtain ⟨rfl, rfl⟩ := hp; exact kk)

theorem r_stat5 {x0 x1 x2 x3 x4 : AV} (hd : (tb M)[k]? = some (pc, .invokestatic x, 3, np, tg)) (hlk : Cond.methodLink M.1.cls x M'.1 ∈ lw_gd) (hm : mdok M' n) (hmv : Cond.static M'.1 ∈ lw_gd) (hR : rmok M M') (hn : 5 = n) (hwd : aw_ st ≤ 8) (hSp : SpR M' [x0, x1, x2, x3, x4] h v h') (kk : AW M P np lv (v :: st) h') : AW M P pc lv (x4 :: x3 :: x2 :: x1 :: x0 :: st) h := a_stat (as := [x0, x1, x2, x3, x4]) hd hlk hm hmv hR hn rfl hwd hSp (fun r g hp => by obtain ⟨rfl, rfl⟩ := hp; exact kk)

theorem ui_stat5 {x0 x1 x2 x3 x4 : AV} (hd : (tb M)[k]? = some (pc, .invokestatic x, 3, np, tg)) (hlk : Cond.methodLink M.1.cls x M'.1 ∈ lw_gd) (hm : mdok M' n) (hmv : Cond.static M'.1 ∈ lw_gd) (hR : rmok M M') (hn : 5 = n) (hwd : aw_ st ≤ 8) (hSp : Sp M' [x0, x1, x2, x3, x4] h P') (hty : ∀ r g, P' r g → ∃ a, r = some (vi a)) (kk : ∀ (a : Int) (g : HH), P' (some (vi a)) g → AW M P np lv (vi a :: st) g) : AW M P pc lv (x4 :: x3 :: x2 :: x1 :: x0 :: st) h := a_stat (as := [x0, x1, x2, x3, x4]) hd hlk hm hmv hR hn rfl hwd hSp (fun r g hp => by obtain ⟨a, rfl⟩ := hty r g hp; exact kk a g hp)

theorem uv_stat5 {x0 x1 x2 x3 x4 : AV} (hd : (tb M)[k]? = some (pc, .invokestatic x, 3, np, tg)) (hlk : Cond.methodLink M.1.cls x M'.1 ∈ lw_gd) (hm : mdok M' n) (hmv : Cond.static M'.1 ∈ lw_gd) (hR : rmok M M') (hn : 5 = n) (hwd : aw_ st ≤ 8) (hSp : Sp M' [x0, x1, x2, x3, x4] h P') (hty : ∀ r g, P' r g → r = none) (kk : ∀ (g : HH), P' (none) g → AW M P np lv (st) g) : AW M P pc lv (x4 :: x3 :: x2 :: x1 :: x0 :: st) h := a_stat (as := [x0, x1, x2, x3, x4]) hd hlk hm hmv hR hn rfl hwd hSp (fun r g hp => by obtain rfl := hty r g hp; exact kk g hp)

theorem i_stat6 {x0 x1 x2 x3 x4 x5 : AV} (hd : (tb M)[k]? = some (pc, .invokestatic x, 3, np, tg)) (hlk : Cond.methodLink M.1.cls x M'.1 ∈ lw_gd) (hm : mdok M' n) (hmv : Cond.static M'.1 ∈ lw_gd) (hR : rmok M M') (hn : 6 = n) (hwd : aw_ st ≤ 8) (hSp : SpI M' [x0, x1, x2, x3, x4, x5] h a h') (kk : AW M P np lv (vi a :: st) h') : AW M P pc lv (x5 :: x4 :: x3 :: x2 :: x1 :: x0 :: st) h := a_stat (as := [x0, x1, x2, x3, x4, x5]) hd hlk hm hmv hR hn rfl hwd hSp (fun r g hp => by obtain ⟨rfl, rfl⟩ := hp; exact kk)

theorem v_stat6 {x0 x1 x2 x3 x4 x5 : AV} (hd : (tb M)[k]? = some (pc, .invokestatic x, 3, np, tg)) (hlk : Cond.methodLink M.1.cls x M'.1 ∈ lw_gd) (hm : mdok M' n) (hmv : Cond.static M'.1 ∈ lw_gd) (hR : rmok M M') (hn : 6 = n) (hwd : aw_ st ≤ 8) (hSp : SpV M' [x0, x1, x2, x3, x4, x5] h h') (kk : AW M P np lv (st) h') : AW M P pc lv (x5 :: x4 :: x3 :: x2 :: x1 :: x0 :: st) h := a_stat (as := [x0, x1, x2, x3, x4, x5]) hd hlk hm hmv hR hn rfl hwd hSp (fun r g hp => by obtain ⟨rfl, rfl⟩ := hp; exact kk)

theorem r_stat6 {x0 x1 x2 x3 x4 x5 : AV} (hd : (tb M)[k]? = some (pc, .invokestatic x, 3, np, tg)) (hlk : Cond.methodLink M.1.cls x M'.1 ∈ lw_gd) (hm : mdok M' n) (hmv : Cond.static M'.1 ∈ lw_gd) (hR : rmok M M') (hn : 6 = n) (hwd : aw_ st ≤ 8) (hSp : SpR M' [x0, x1, x2, x3, x4, x5] h v h') (kk : AW M P np lv (v :: st) h') : AW M P pc lv (x5 :: x4 :: x3 :: x2 :: x1 :: x0 :: st) h := a_stat (as := [x0, x1, x2, x3, x4, x5]) hd hlk hm hmv hR hn rfl hwd hSp (fun r g hp => by obtain ⟨rfl, rfl⟩ := hp; exact kk)

theorem ui_stat6 {x0 x1 x2 x3 x4 x5 : AV} (hd : (tb M)[k]? = some (pc, .invokestatic x, 3, np, tg)) (hlk : Cond.methodLink M.1.cls x M'.1 ∈ lw_gd) (hm : mdok M' n) (hmv : Cond.static M'.1 ∈ lw_gd) (hR : rmok M M') (hn : 6 = n) (hwd : aw_ st ≤ 8) (hSp : Sp M' [x0, x1, x2, x3, x4, x5] h P') (hty : ∀ r g, P' r g → ∃ a, r = some (vi a)) (kk : ∀ (a : Int) (g : HH), P' (some (vi a)) g → AW M P np lv (vi a :: st) g) : AW M P pc lv (x5 :: x4 :: x3 :: x2 :: x1 :: x0 :: st) h := a_stat (as := [x0, x1, x2, x3, x4, x5]) hd hlk hm hmv hR hn rfl hwd hSp (fun r g hp => by obtain ⟨a, rfl⟩ := hty r g hp; exact kk a g hp)

theorem uv_stat6 {x0 x1 x2 x3 x4 x5 : AV} (hd : (tb M)[k]? = some (pc, .invokestatic x, 3, np, tg)) (hlk : Cond.methodLink M.1.cls x M'.1 ∈ lw_gd) (hm : mdok M' n) (hmv : Cond.static M'.1 ∈ lw_gd) (hR : rmok M M') (hn : 6 = n) (hwd : aw_ st ≤ 8) (hSp : Sp M' [x0, x1, x2, x3, x4, x5] h P') (hty : ∀ r g, P' r g → r = none) (kk : ∀ (g : HH), P' (none) g → AW M P np lv (st) g) : AW M P pc lv (x5 :: x4 :: x3 :: x2 :: x1 :: x0 :: st) h := a_stat (as := [x0, x1, x2, x3, x4, x5]) hd hlk hm hmv hR hn rfl hwd hSp (fun r g hp => by obtain rfl := hty r g hp; exact kk g hp)

theorem i_statN1 {x0 : AV} (hd : (tb M)[k]? = some (pc, .invokestatic x, 3, np, tg)) (hlk : Cond.methodLinkNest M.1.cls x M'.1 "PretzelProof" ∈ nw_all) (hm : mdok M' n) (hmv : Cond.static M'.1 ∈ lw_gd) (hR : rmok M M') (hn : 1 = n) (hwd : aw_ st ≤ 8) (hSp : SpI M' [x0] h a h') (kk : AW M P np lv (vi a :: st) h') : AW M P pc lv (x0 :: st) h := a_statN (as := [x0]) hd hlk hm hmv hR hn rfl hwd hSp (fun r g hp => by obtain ⟨rfl, rfl⟩ := hp; exact kk)

theorem v_statN1 {x0 : AV} (hd : (tb M)[k]? = some (pc, .invokestatic x, 3, np, tg)) (hlk : Cond.methodLinkNest M.1.cls x M'.1 "PretzelProof" ∈ nw_all) (hm : mdok M' n) (hmv : Cond.static M'.1 ∈ lw_gd) (hR : rmok M M') (hn : 1 = n) (hwd : aw_ st ≤ 8) (hSp : SpV M' [x0] h h') (kk : AW M P np lv (st) h') : AW M P pc lv (x0 :: st) h := a_statN (as := [x0]) hd hlk hm hmv hR hn rfl hwd hSp (fun r g hp => by obtain ⟨rfl, rfl⟩ := hp; exact kk)

theorem r_statN1 {x0 : AV} (hd : (tb M)[k]? = some (pc, .invokestatic x, 3, np, tg)) (hlk : Cond.methodLinkNest M.1.cls x M'.1 "PretzelProof" ∈ nw_all) (hm : mdok M' n) (hmv : Cond.static M'.1 ∈ lw_gd) (hR : rmok M M') (hn : 1 = n) (hwd : aw_ st ≤ 8) (hSp : SpR M' [x0] h v h') (kk : AW M P np lv (v :: st) h') : AW M P pc lv (x0 :: st) h := a_statN (as := [x0]) hd hlk hm hmv hR hn rfl hwd hSp (fun r g hp => by obtain ⟨rfl, rfl⟩ := hp; exact kk)

theorem ui_statN1 {x0 : AV} (hd : (tb M)[k]? = some (pc, .invokestatic x, 3, np, tg)) (hlk : Cond.methodLinkNest M.1.cls x M'.1 "PretzelProof" ∈ nw_all) (hm : mdok M' n) (hmv : Cond.static M'.1 ∈ lw_gd) (hR : rmok M M') (hn : 1 = n) (hwd : aw_ st ≤ 8) (hSp : Sp M' [x0] h P') (hty : ∀ r g, P' r g → ∃ a, r = some (vi a)) (kk : ∀ (a : Int) (g : HH), P' (some (vi a)) g → AW M P np lv (vi a :: st) g) : AW M P pc lv (x0 :: st) h := a_statN (as := [x0]) hd hlk hm hmv hR hn rfl hwd hSp (fun r g hp => by obtain ⟨a, rfl⟩ := hty r g hp; exact kk a g hp)

theorem uv_statN1 {x0 : AV} (hd : (tb M)[k]? = some (pc, .invokestatic x, 3, np, tg)) (hlk : Cond.methodLinkNest M.1.cls x M'.1 "PretzelProof" ∈ nw_all) (hm : mdok M' n) (hmv : Cond.static M'.1 ∈ lw_gd) (hR : rmok M M') (hn : 1 = n) (hwd : aw_ st ≤ 8) (hSp : Sp M' [x0] h P') (hty : ∀ r g, P' r g → r = none) (kk : ∀ (g : HH), P' (none) g → AW M P np lv (st) g) : AW M P pc lv (x0 :: st) h := a_statN (as := [x0]) hd hlk hm hmv hR hn rfl hwd hSp (fun r g hp => by obtain rfl := hty r g hp; exact kk g hp)

theorem i_statN2 {x0 x1 : AV} (hd : (tb M)[k]? = some (pc, .invokestatic x, 3, np, tg)) (hlk : Cond.methodLinkNest M.1.cls x M'.1 "PretzelProof" ∈ nw_all) (hm : mdok M' n) (hmv : Cond.static M'.1 ∈ lw_gd) (hR : rmok M M') (hn : 2 = n) (hwd : aw_ st ≤ 8) (hSp : SpI M' [x0, x1] h a h') (kk : AW M P np lv (vi a :: st) h') : AW M P pc lv (x1 :: x0 :: st) h := a_statN (as := [x0, x1]) hd hlk hm hmv hR hn rfl hwd hSp (fun r g hp => by obtain ⟨rfl, rfl⟩ := hp; exact kk)

theorem v_statN2 {x0 x1 : AV} (hd : (tb M)[k]? = some (pc, .invokestatic x, 3, np, tg)) (hlk : Cond.methodLinkNest M.1.cls x M'.1 "PretzelProof" ∈ nw_all) (hm : mdok M' n) (hmv : Cond.static M'.1 ∈ lw_gd) (hR : rmok M M') (hn : 2 = n) (hwd : aw_ st ≤ 8) (hSp : SpV M' [x0, x1] h h') (kk : AW M P np lv (st) h') : AW M P pc lv (x1 :: x0 :: st) h := a_statN (as := [x0, x1]) hd hlk hm hmv hR hn rfl hwd hSp (fun r g hp => by obtain ⟨rfl, rfl⟩ := hp; exact kk)

theorem r_statN2 {x0 x1 : AV} (hd : (tb M)[k]? = some (pc, .invokestatic x, 3, np, tg)) (hlk : Cond.methodLinkNest M.1.cls x M'.1 "PretzelProof" ∈ nw_all) (hm : mdok M' n) (hmv : Cond.static M'.1 ∈ lw_gd) (hR : rmok M M') (hn : 2 = n) (hwd : aw_ st ≤ 8) (hSp : SpR M' [x0, x1] h v h') (kk : AW M P np lv (v :: st) h') : AW M P pc lv (x1 :: x0 :: st) h := a_statN (as := [x0, x1]) hd hlk hm hmv hR hn rfl hwd hSp (fun r g hp => by obtain ⟨rfl, rfl⟩ := hp; exact kk)

theorem ui_statN2 {x0 x1 : AV} (hd : (tb M)[k]? = some (pc, .invokestatic x, 3, np, tg)) (hlk : Cond.methodLinkNest M.1.cls x M'.1 "PretzelProof" ∈ nw_all) (hm : mdok M' n) (hmv : Cond.static M'.1 ∈ lw_gd) (hR : rmok M M') (hn : 2 = n) (hwd : aw_ st ≤ 8) (hSp : Sp M' [x0, x1] h P') (hty : ∀ r g, P' r g → ∃ a, r = some (vi a)) (kk : ∀ (a : Int) (g : HH), P' (some (vi a)) g → AW M P np lv (vi a :: st) g) : AW M P pc lv (x1 :: x0 :: st) h := a_statN (as := [x0, x1]) hd hlk hm hmv hR hn rfl hwd hSp (fun r g hp => by obtain ⟨a, rfl⟩ := hty r g hp; exact kk a g hp)

theorem uv_statN2 {x0 x1 : AV} (hd : (tb M)[k]? = some (pc, .invokestatic x, 3, np, tg)) (hlk : Cond.methodLinkNest M.1.cls x M'.1 "PretzelProof" ∈ nw_all) (hm : mdok M' n) (hmv : Cond.static M'.1 ∈ lw_gd) (hR : rmok M M') (hn : 2 = n) (hwd : aw_ st ≤ 8) (hSp : Sp M' [x0, x1] h P') (hty : ∀ r g, P' r g → r = none) (kk : ∀ (g : HH), P' (none) g → AW M P np lv (st) g) : AW M P pc lv (x1 :: x0 :: st) h := a_statN (as := [x0, x1]) hd hlk hm hmv hR hn rfl hwd hSp (fun r g hp => by obtain rfl := hty r g hp; exact kk g hp)

theorem i_statN3 {x0 x1 x2 : AV} (hd : (tb M)[k]? = some (pc, .invokestatic x, 3, np, tg)) (hlk : Cond.methodLinkNest M.1.cls x M'.1 "PretzelProof" ∈ nw_all) (hm : mdok M' n) (hmv : Cond.static M'.1 ∈ lw_gd) (hR : rmok M M') (hn : 3 = n) (hwd : aw_ st ≤ 8) (hSp : SpI M' [x0, x1, x2] h a h') (kk : AW M P np lv (vi a :: st) h') : AW M P pc lv (x2 :: x1 :: x0 :: st) h := a_statN (as := [x0, x1, x2]) hd hlk hm hmv hR hn rfl hwd hSp (fun r g hp => by obtain ⟨rfl, rfl⟩ := hp; exact kk)

theorem v_statN3 {x0 x1 x2 : AV} (hd : (tb M)[k]? = some (pc, .invokestatic x, 3, np, tg)) (hlk : Cond.methodLinkNest M.1.cls x M'.1 "PretzelProof" ∈ nw_all) (hm : mdok M' n) (hmv : Cond.static M'.1 ∈ lw_gd) (hR : rmok M M') (hn : 3 = n) (hwd : aw_ st ≤ 8) (hSp : SpV M' [x0, x1, x2] h h') (kk : AW M P np lv (st) h') : AW M P pc lv (x2 :: x1 :: x0 :: st) h := a_statN (as := [x0, x1, x2]) hd hlk hm hmv hR hn rfl hwd hSp (fun r g hp => by obtain ⟨rfl, rfl⟩ := hp; exact kk)

theorem r_statN3 {x0 x1 x2 : AV} (hd : (tb M)[k]? = some (pc, .invokestatic x, 3, np, tg)) (hlk : Cond.methodLinkNest M.1.cls x M'.1 "PretzelProof" ∈ nw_all) (hm : mdok M' n) (hmv : Cond.static M'.1 ∈ lw_gd) (hR : rmok M M') (hn : 3 = n) (hwd : aw_ st ≤ 8) (hSp : SpR M' [x0, x1, x2] h v h') (kk : AW M P np lv (v :: st) h') : AW M P pc lv (x2 :: x1 :: x0 :: st) h := a_statN (as := [x0, x1, x2]) hd hlk hm hmv hR hn rfl hwd hSp (fun r g hp => by obtain ⟨rfl, rfl⟩ := hp; exact kk)

theorem ui_statN3 {x0 x1 x2 : AV} (hd : (tb M)[k]? = some (pc, .invokestatic x, 3, np, tg)) (hlk : Cond.methodLinkNest M.1.cls x M'.1 "PretzelProof" ∈ nw_all) (hm : mdok M' n) (hmv : Cond.static M'.1 ∈ lw_gd) (hR : rmok M M') (hn : 3 = n) (hwd : aw_ st ≤ 8) (hSp : Sp M' [x0, x1, x2] h P') (hty : ∀ r g, P' r g → ∃ a, r = some (vi a)) (kk : ∀ (a : Int) (g : HH), P' (some (vi a)) g → AW M P np lv (vi a :: st) g) : AW M P pc lv (x2 :: x1 :: x0 :: st) h := a_statN (as := [x0, x1, x2]) hd hlk hm hmv hR hn rfl hwd hSp (fun r g hp => by obtain ⟨a, rfl⟩ := hty r g hp; exact kk a g hp)

theorem uv_statN3 {x0 x1 x2 : AV} (hd : (tb M)[k]? = some (pc, .invokestatic x, 3, np, tg)) (hlk : Cond.methodLinkNest M.1.cls x M'.1 "PretzelProof" ∈ nw_all) (hm : mdok M' n) (hmv : Cond.static M'.1 ∈ lw_gd) (hR : rmok M M') (hn : 3 = n) (hwd : aw_ st ≤ 8) (hSp : Sp M' [x0, x1, x2] h P') (hty : ∀ r g, P' r g → r = none) (kk : ∀ (g : HH), P' (none) g → AW M P np lv (st) g) : AW M P pc lv (x2 :: x1 :: x0 :: st) h := a_statN (as := [x0, x1, x2]) hd hlk hm hmv hR hn rfl hwd hSp (fun r g hp => by obtain rfl := hty r g hp; exact kk g hp)

theorem i_statN4 {x0 x1 x2 x3 : AV} (hd : (tb M)[k]? = some (pc, .invokestatic x, 3, np, tg)) (hlk : Cond.methodLinkNest M.1.cls x M'.1 "PretzelProof" ∈ nw_all) (hm : mdok M' n) (hmv : Cond.static M'.1 ∈ lw_gd) (hR : rmok M M') (hn : 4 = n) (hwd : aw_ st ≤ 8) (hSp : SpI M' [x0, x1, x2, x3] h a h') (kk : AW M P np lv (vi a :: st) h') : AW M P pc lv (x3 :: x2 :: x1 :: x0 :: st) h := a_statN (as := [x0, x1, x2, x3]) hd hlk hm hmv hR hn rfl hwd hSp (fun r g hp => by obtain ⟨rfl, rfl⟩ := hp; exact kk)

theorem v_statN4 {x0 x1 x2 x3 : AV} (hd : (tb M)[k]? = some (pc, .invokestatic x, 3, np, tg)) (hlk : Cond.methodLinkNest M.1.cls x M'.1 "PretzelProof" ∈ nw_all) (hm : mdok M' n) (hmv : Cond.static M'.1 ∈ lw_gd) (hR : rmok M M') (hn : 4 = n) (hwd : aw_ st ≤ 8) (hSp : SpV M' [x0, x1, x2, x3] h h') (kk : AW M P np lv (st) h') : AW M P pc lv (x3 :: x2 :: x1 :: x0 :: st) h := a_statN (as := [x0, x1, x2, x3]) hd hlk hm hmv hR hn rfl hwd hSp (fun r g hp => by obtain ⟨rfl, rfl⟩ := hp; exact kk)

theorem r_statN4 {x0 x1 x2 x3 : AV} (hd : (tb M)[k]? = some (pc, .invokestatic x, 3, np, tg)) (hlk : Cond.methodLinkNest M.1.cls x M'.1 "PretzelProof" ∈ nw_all) (hm : mdok M' n) (hmv : Cond.static M'.1 ∈ lw_gd) (hR : rmok M M') (hn : 4 = n) (hwd : aw_ st ≤ 8) (hSp : SpR M' [x0, x1, x2, x3] h v h') (kk : AW M P np lv (v :: st) h') : AW M P pc lv (x3 :: x2 :: x1 :: x0 :: st) h := a_statN (as := [x0, x1, x2, x3]) hd hlk hm hmv hR hn rfl hwd hSp (fun r g hp => by obtain ⟨rfl, rfl⟩ := hp; exact kk)

theorem ui_statN4 {x0 x1 x2 x3 : AV} (hd : (tb M)[k]? = some (pc, .invokestatic x, 3, np, tg)) (hlk : Cond.methodLinkNest M.1.cls x M'.1 "PretzelProof" ∈ nw_all) (hm : mdok M' n) (hmv : Cond.static M'.1 ∈ lw_gd) (hR : rmok M M') (hn : 4 = n) (hwd : aw_ st ≤ 8) (hSp : Sp M' [x0, x1, x2, x3] h P') (hty : ∀ r g, P' r g → ∃ a, r = some (vi a)) (kk : ∀ (a : Int) (g : HH), P' (some (vi a)) g → AW M P np lv (vi a :: st) g) : AW M P pc lv (x3 :: x2 :: x1 :: x0 :: st) h := a_statN (as := [x0, x1, x2, x3]) hd hlk hm hmv hR hn rfl hwd hSp (fun r g hp => by obtain ⟨a, rfl⟩ := hty r g hp; exact kk a g hp)

theorem uv_statN4 {x0 x1 x2 x3 : AV} (hd : (tb M)[k]? = some (pc, .invokestatic x, 3, np, tg)) (hlk : Cond.methodLinkNest M.1.cls x M'.1 "PretzelProof" ∈ nw_all) (hm : mdok M' n) (hmv : Cond.static M'.1 ∈ lw_gd) (hR : rmok M M') (hn : 4 = n) (hwd : aw_ st ≤ 8) (hSp : Sp M' [x0, x1, x2, x3] h P') (hty : ∀ r g, P' r g → r = none) (kk : ∀ (g : HH), P' (none) g → AW M P np lv (st) g) : AW M P pc lv (x3 :: x2 :: x1 :: x0 :: st) h := a_statN (as := [x0, x1, x2, x3]) hd hlk hm hmv hR hn rfl hwd hSp (fun r g hp => by obtain rfl := hty r g hp; exact kk g hp)

theorem i_statN5 {x0 x1 x2 x3 x4 : AV} (hd : (tb M)[k]? = some (pc, .invokestatic x, 3, np, tg)) (hlk : Cond.methodLinkNest M.1.cls x M'.1 "PretzelProof" ∈ nw_all) (hm : mdok M' n) (hmv : Cond.static M'.1 ∈ lw_gd) (hR : rmok M M') (hn : 5 = n) (hwd : aw_ st ≤ 8) (hSp : SpI M' [x0, x1, x2, x3, x4] h a h') (kk : AW M P np lv (vi a :: st) h') : AW M P pc lv (x4 :: x3 :: x2 :: x1 :: x0 :: st) h := a_statN (as := [x0, x1, x2, x3, x4]) hd hlk hm hmv hR hn rfl hwd hSp (fun r g hp => by obtain ⟨rfl, rfl⟩ := hp; exact kk)

theorem v_statN5 {x0 x1 x2 x3 x4 : AV} (hd : (tb M)[k]? = some (pc, .invokestatic x, 3, np, tg)) (hlk : Cond.methodLinkNest M.1.cls x M'.1 "PretzelProof" ∈ nw_all) (hm : mdok M' n) (hmv : Cond.static M'.1 ∈ lw_gd) (hR : rmok M M') (hn : 5 = n) (hwd : aw_ st ≤ 8) (hSp : SpV M' [x0, x1, x2, x3, x4] h h') (kk : AW M P np lv (st) h') : AW M P pc lv (x4 :: x3 :: x2 :: x1 :: x0 :: st) h := a_statN (as := [x0, x1, x2, x3, x4]) hd hlk hm hmv hR hn rfl hwd hSp (fun r g hp => by obtain ⟨rfl, rfl⟩ := hp; exact kk)

theorem r_statN5 {x0 x1 x2 x3 x4 : AV} (hd : (tb M)[k]? = some (pc, .invokestatic x, 3, np, tg)) (hlk : Cond.methodLinkNest M.1.cls x M'.1 "PretzelProof" ∈ nw_all) (hm : mdok M' n) (hmv : Cond.static M'.1 ∈ lw_gd) (hR : rmok M M') (hn : 5 = n) (hwd : aw_ st ≤ 8) (hSp : SpR M' [x0, x1, x2, x3, x4] h v h') (kk : AW M P np lv (v :: st) h') : AW M P pc lv (x4 :: x3 :: x2 :: x1 :: x0 :: st) h := a_statN (as := [x0, x1, x2, x3, x4]) hd hlk hm hmv hR hn rfl hwd hSp (fun r g hp => by obtain ⟨rfl, rfl⟩ := hp; exact kk)

theorem ui_statN5 {x0 x1 x2 x3 x4 : AV} (hd : (tb M)[k]? = some (pc, .invokestatic x, 3, np, tg)) (hlk : Cond.methodLinkNest M.1.cls x M'.1 "PretzelProof" ∈ nw_all) (hm : mdok M' n) (hmv : Cond.static M'.1 ∈ lw_gd) (hR : rmok M M') (hn : 5 = n) (hwd : aw_ st ≤ 8) (hSp : Sp M' [x0, x1, x2, x3, x4] h P') (hty : ∀ r g, P' r g → ∃ a, r = some (vi a)) (kk : ∀ (a : Int) (g : HH), P' (some (vi a)) g → AW M P np lv (vi a :: st) g) : AW M P pc lv (x4 :: x3 :: x2 :: x1 :: x0 :: st) h := a_statN (as := [x0, x1, x2, x3, x4]) hd hlk hm hmv hR hn rfl hwd hSp (fun r g hp => by obtain ⟨a, rfl⟩ := hty r g hp; exact kk a g hp)

theorem uv_statN5 {x0 x1 x2 x3 x4 : AV} (hd : (tb M)[k]? = some (pc, .invokestatic x, 3, np, tg)) (hlk : Cond.methodLinkNest M.1.cls x M'.1 "PretzelProof" ∈ nw_all) (hm : mdok M' n) (hmv : Cond.static M'.1 ∈ lw_gd) (hR : rmok M M') (hn : 5 = n) (hwd : aw_ st ≤ 8) (hSp : Sp M' [x0, x1, x2, x3, x4] h P') (hty : ∀ r g, P' r g → r = none) (kk : ∀ (g : HH), P' (none) g → AW M P np lv (st) g) : AW M P pc lv (x4 :: x3 :: x2 :: x1 :: x0 :: st) h := a_statN (as := [x0, x1, x2, x3, x4]) hd hlk hm hmv hR hn rfl hwd hSp (fun r g hp => by obtain rfl := hty r g hp; exact kk g hp)

theorem i_statN6 {x0 x1 x2 x3 x4 x5 : AV} (hd : (tb M)[k]? = some (pc, .invokestatic x, 3, np, tg)) (hlk : Cond.methodLinkNest M.1.cls x M'.1 "PretzelProof" ∈ nw_all) (hm : mdok M' n) (hmv : Cond.static M'.1 ∈ lw_gd) (hR : rmok M M') (hn : 6 = n) (hwd : aw_ st ≤ 8) (hSp : SpI M' [x0, x1, x2, x3, x4, x5] h a h') (kk : AW M P np lv (vi a :: st) h') : AW M P pc lv (x5 :: x4 :: x3 :: x2 :: x1 :: x0 :: st) h := a_statN (as := [x0, x1, x2, x3, x4, x5]) hd hlk hm hmv hR hn rfl hwd hSp (fun r g hp => by obtain ⟨rfl, rfl⟩ := hp; exact kk)

theorem v_statN6 {x0 x1 x2 x3 x4 x5 : AV} (hd : (tb M)[k]? = some (pc, .invokestatic x, 3, np, tg)) (hlk : Cond.methodLinkNest M.1.cls x M'.1 "PretzelProof" ∈ nw_all) (hm : mdok M' n) (hmv : Cond.static M'.1 ∈ lw_gd) (hR : rmok M M') (hn : 6 = n) (hwd : aw_ st ≤ 8) (hSp : SpV M' [x0, x1, x2, x3, x4, x5] h h') (kk : AW M P np lv (st) h') : AW M P pc lv (x5 :: x4 :: x3 :: x2 :: x1 :: x0 :: st) h := a_statN (as := [x0, x1, x2, x3, x4, x5]) hd hlk hm hmv hR hn rfl hwd hSp (fun r g hp => by obtain ⟨rfl, rfl⟩ := hp; exact kk)

theorem r_statN6 {x0 x1 x2 x3 x4 x5 : AV} (hd : (tb M)[k]? = some (pc, .invokestatic x, 3, np, tg)) (hlk : Cond.methodLinkNest M.1.cls x M'.1 "PretzelProof" ∈ nw_all) (hm : mdok M' n) (hmv : Cond.static M'.1 ∈ lw_gd) (hR : rmok M M') (hn : 6 = n) (hwd : aw_ st ≤ 8) (hSp : SpR M' [x0, x1, x2, x3, x4, x5] h v h') (kk : AW M P np lv (v :: st) h') : AW M P pc lv (x5 :: x4 :: x3 :: x2 :: x1 :: x0 :: st) h := a_statN (as := [x0, x1, x2, x3, x4, x5]) hd hlk hm hmv hR hn rfl hwd hSp (fun r g hp => by obtain ⟨rfl, rfl⟩ := hp; exact kk)

theorem ui_statN6 {x0 x1 x2 x3 x4 x5 : AV} (hd : (tb M)[k]? = some (pc, .invokestatic x, 3, np, tg)) (hlk : Cond.methodLinkNest M.1.cls x M'.1 "PretzelProof" ∈ nw_all) (hm : mdok M' n) (hmv : Cond.static M'.1 ∈ lw_gd) (hR : rmok M M') (hn : 6 = n) (hwd : aw_ st ≤ 8) (hSp : Sp M' [x0, x1, x2, x3, x4, x5] h P') (hty : ∀ r g, P' r g → ∃ a, r = some (vi a)) (kk : ∀ (a : Int) (g : HH), P' (some (vi a)) g → AW M P np lv (vi a :: st) g) : AW M P pc lv (x5 :: x4 :: x3 :: x2 :: x1 :: x0 :: st) h := a_statN (as := [x0, x1, x2, x3, x4, x5]) hd hlk hm hmv hR hn rfl hwd hSp (fun r g hp => by obtain ⟨a, rfl⟩ := hty r g hp; exact kk a g hp)

theorem uv_statN6 {x0 x1 x2 x3 x4 x5 : AV} (hd : (tb M)[k]? = some (pc, .invokestatic x, 3, np, tg)) (hlk : Cond.methodLinkNest M.1.cls x M'.1 "PretzelProof" ∈ nw_all) (hm : mdok M' n) (hmv : Cond.static M'.1 ∈ lw_gd) (hR : rmok M M') (hn : 6 = n) (hwd : aw_ st ≤ 8) (hSp : Sp M' [x0, x1, x2, x3, x4, x5] h P') (hty : ∀ r g, P' r g → r = none) (kk : ∀ (g : HH), P' (none) g → AW M P np lv (st) g) : AW M P pc lv (x5 :: x4 :: x3 :: x2 :: x1 :: x0 :: st) h := a_statN (as := [x0, x1, x2, x3, x4, x5]) hd hlk hm hmv hR hn rfl hwd hSp (fun r g hp => by obtain rfl := hty r g hp; exact kk g hp)

end AWV
theorem Sp.post {M : MD} {av : List AV} {h : HH} {P P' : Option AV → HH → Prop} (hS : Sp M av h P) (hw : ∀ r h', P r h' → P' r h') : Sp M av h P' := hS.weak hw
end
section
/-! bits of small numbers (first rows out of the kit's BITS and COUNTS) -/
def bt (x : Int32) (i : Nat) : Bool := x.toBitVec.getLsbD i
theorem b_ext {x y : Int32} (h : ∀ i, i < 32 → bt x i = bt y i) : x = y := Int32.toBitVec_inj.mp (BitVec.eq_of_getLsbD_eq (fun i hi => h i hi))
theorem b_and (x y : Int32) (i : Nat) : bt (x &&& y) i = (bt x i && bt y i) := by unfold bt; rw [Int32.toBitVec_and, BitVec.getLsbD_and]
theorem b_xor (x y : Int32) (i : Nat) : bt (x ^^^ y) i = (bt x i ^^ bt y i) := by unfold bt; rw [Int32.toBitVec_xor, BitVec.getLsbD_xor]
theorem b_m1 : ∀ i, i < 32 → bt (-1) i = true := by decide +kernel
theorem s_l : ∀ n, n < 32 → ((nI n &&& 31).toBitVec.smod 32).toNat = n := by decide +kernel
theorem nx_and (a b : Nat) : nI a &&& nI b = nI (a &&& b) := by
  apply Int32.toBitVec_inj.1
  show BitVec.ofNat 32 a &&& BitVec.ofNat 32 b = BitVec.ofNat 32 (a &&& b)
  apply BitVec.eq_of_getLsbD_eq
  intro i hi
  simp [hi]
theorem nx_xor (a b : Nat) : nI a ^^^ nI b = nI (a ^^^ b) := by
  apply Int32.toBitVec_inj.1
  show BitVec.ofNat 32 a ^^^ BitVec.ofNat 32 b = BitVec.ofNat 32 (a ^^^ b)
  apply BitVec.eq_of_getLsbD_eq
  intro i hi
  simp [hi]
theorem nx_or (a b : Nat) : nI a ||| nI b = nI (a ||| b) := by
  apply Int32.toBitVec_inj.1
  show BitVec.ofNat 32 a ||| BitVec.ofNat 32 b = BitVec.ofNat 32 (a ||| b)
  apply BitVec.eq_of_getLsbD_eq
  intro i hi
  simp [hi]
theorem ofI_nat (n : Nat) : Int32.ofInt (n : Int) = nI n := rfl
theorem iand_nat {a b : Nat} (ha : a < 2 ^ 31) : iand a b = ((a &&& b : Nat) : Int) := by
  have : a &&& b < 2 ^ 31 := Nat.lt_of_le_of_lt Nat.and_le_left ha
  rw [iand, ofI_nat, ofI_nat, nx_and, nI_toInt this]
theorem ior_nat {a b : Nat} (ha : a < 2 ^ 31) (hb : b < 2 ^ 31) : ior a b = ((a ||| b : Nat) : Int) := by
  rw [ior, ofI_nat, ofI_nat, nx_or, nI_toInt (Nat.or_lt_two_pow ha hb)]
theorem ixor_nat {a b : Nat} (ha : a < 2 ^ 31) (hb : b < 2 ^ 31) : ixor a b = ((a ^^^ b : Nat) : Int) := by
  rw [ixor, ofI_nat, ofI_nat, nx_xor, nI_toInt (Nat.xor_lt_two_pow ha hb)]
theorem ishr_nat {n k : Nat} (h : n < 2 ^ 31) (hk : k < 32) : ishr n k = ((n >>> k : Nat) : Int) := by
  have h2 : n / 2 ^ k < 2 ^ 31 := Nat.lt_of_le_of_lt (Nat.div_le_self _ _) h
  rw [ishr, ofI_nat, ofI_nat, pk_shrN h _ k (s_l k hk), nI_toInt h2, Nat.shiftRight_eq_div_pow]
theorem ishl_nat {n k : Nat} (h : n * 2 ^ k < 2 ^ 31) (hk : k < 32) : ishl n k = ((n <<< k : Nat) : Int) := by
  rw [ishl, ofI_nat, ofI_nat, pk_shlN _ k (s_l k hk) (by omega), nI_toInt h, Nat.shiftLeft_eq]
theorem shl1 {k : Nat} (hk : k < 31) : ishl 1 k = ((2 ^ k : Nat) : Int) := by
  have h : 2 ^ k < 2 ^ 31 := Nat.pow_lt_pow_right (by omega) hk
  have := ishl_nat (n := 1) (k := k) (by omega) (by omega)
  rw [Nat.one_shiftLeft] at this
  exact this
/-- a without b -/
def ndiff (a b : Nat) : Nat := a ^^^ (a &&& b)
theorem ndiff_bit (a b i : Nat) : (ndiff a b).testBit i = (a.testBit i && !b.testBit i) := by
  unfold ndiff
  rw [Nat.testBit_xor, Nat.testBit_and]
  cases a.testBit i <;> cases b.testBit i <;> rfl
theorem ndiff_le (a b : Nat) : ndiff a b ≤ a := by
  apply Nat.le_of_testBit
  intro i hi
  rw [ndiff_bit] at hi
  simp only [Bool.and_eq_true] at hi
  exact hi.1
theorem iandn_nat {a b : Nat} (ha : a < 2 ^ 31) (hb : b < 2 ^ 31) : iand a (ixor b (-1)) = ((ndiff a b : Nat) : Int) := by
  have h1 : ndiff a b < 2 ^ 31 := Nat.lt_of_le_of_lt (ndiff_le a b) ha
  rw [iand, cv_ixor, ofI_nat, ofI_nat, show Int32.ofInt (-1) = -1 from rfl]
  have : nI a &&& (nI b ^^^ -1) = nI (ndiff a b) := by
    rw [ndiff, ← nx_xor, ← nx_and]
    apply b_ext
    intro i hi
    rw [b_and, b_xor, b_xor, b_and, b_m1 i hi]
    cases bt (nI a) i <;> cases bt (nI b) i <;> rfl
  rw [this, nI_toInt h1]
theorem bit_i (S m : Nat) : (S >>> m) &&& 1 = if S.testBit m then 1 else 0 := by
  rw [Nat.and_one_is_mod, Nat.shiftRight_eq_div_pow, Nat.testBit_eq_decide_div_mod_eq]
  have : S / 2 ^ m % 2 < 2 := Nat.mod_lt _ (by omega)
  split <;> simp_all
/-- is m in S: as an int -/
def tbi (S m : Nat) : Int := if S.testBit m then 1 else 0
theorem tbi_01 (S m : Nat) : tbi S m = 0 ∨ tbi S m = 1 := by unfold tbi; split <;> simp
theorem sab {S m : Nat} (h : S < 2 ^ 31) (hm : m < 32) : iand (ishr S m) 1 = tbi S m := by
  rw [ishr_nat h hm]
  have h2 : S >>> m < 2 ^ 31 := by rw [Nat.shiftRight_eq_div_pow]; exact Nat.lt_of_le_of_lt (Nat.div_le_self _ _) h
  have := iand_nat (a := S >>> m) (b := 1) h2
  rw [bit_i] at this
  rw [show (1 : Int) = ((1 : Nat) : Int) from rfl, this, tbi]
  split <;> rfl
end
section
/-! PretzelProof's own small static methods -/
theorem x_isIn (S m : Nat) (h : HH) (hS : S < 2 ^ 31) (hm : m < 32) : SpI mX10_isIn [vi S, vi m] h (tbi S m) h := by
  refine Sp.of rfl kX10_isIn (Nat.le_of_ble_eq_true rfl) ?_
  have e := sab hS hm
  have e01 := tbi_01 S m
  refine u_iloadn (k := 0) rfl rfl ?_
  refine u_iloadn (k := 1) rfl rfl ?_
  refine a_ishr (k := 2) rfl ?_
  refine a_iconst (k := 3) rfl ?_
  refine a_iand (k := 4) rfl ?_
  refine a_iconst (k := 5) rfl ?_
  rw [e]
  refine a_icmp_ne (k := 6) rfl (fun c_6 => ?_) (fun c_6 => ?_)
  · refine a_iconst (k := 9) rfl ?_
    refine a_zreturn (k := 10) rfl rfl (by omega) ?_
    exact ⟨by congr 2; omega, rfl⟩
  · refine a_iconst (k := 7) rfl ?_
    refine a_goto (k := 8) rfl ?_
    refine a_zreturn (k := 10) rfl rfl (by omega) ?_
    exact ⟨by congr 2; omega, rfl⟩
theorem x_crossingOf (p : Nat) (h : HH) (hp : p < 2 ^ 31) : SpI mX10_crossingOf [vi p] h ((p / 2 % 8 : Nat) : Int) h := by
  refine Sp.of rfl kX10_crossingOf (Nat.le_of_ble_eq_true rfl) ?_
  have e : iand (ishr p 1) 7 = ((p / 2 % 8 : Nat) : Int) := by
    have h1 : ishr (p : Int) 1 = ((p >>> 1 : Nat) : Int) := ishr_nat (k := 1) hp (by omega)
    have h2 : p >>> 1 < 2 ^ 31 := by rw [Nat.shiftRight_eq_div_pow]; omega
    rw [h1]
    have := iand_nat (a := p >>> 1) (b := 7) h2
    rw [show ((7 : Nat) : Int) = 7 from rfl] at this
    rw [this, show (7 : Nat) = 2 ^ 3 - 1 from rfl, Nat.and_two_pow_sub_one_eq_mod, Nat.shiftRight_eq_div_pow]
  refine u_iloadn (k := 0) rfl rfl ?_
  refine a_iconst (k := 1) rfl ?_
  refine a_ishr (k := 2) rfl ?_
  refine a_bipush (k := 3) rfl ?_
  refine a_iand (k := 4) rfl ?_
  refine a_ireturn (k := 5) rfl rfl ?_
  exact ⟨by rw [e], rfl⟩
theorem x_leftOver (a b : Nat) (h : HH) (hb : 0 < b) : SpI mX10_leftOver [vi a, vi b] h ((a % b : Nat) : Int) h := by
  refine Sp.of rfl kX10_leftOver (Nat.le_of_ble_eq_true rfl) ?_
  refine u_iloadn (k := 0) rfl rfl ?_
  refine a_if_le (k := 1) rfl (fun c_1 => ?_) (fun c_1 => ?_)
  · omega
  · refine u_iloadn (k := 2) rfl rfl ?_
    refine u_iloadn (k := 3) rfl rfl ?_
    refine u_irem (k := 4) rfl (by omega) (by omega) ?_
    refine a_goto (k := 5) rfl ?_
    refine a_ireturn (k := 7) rfl rfl ?_
    exact ⟨by rw [Int.natCast_emod], rfl⟩
theorem x_length (j : Nat) (c : Nat) (h : HH) (hc : h 5 j 2 = c) (h8 : c ≤ 8) : SpI mX6_length [vr 5 j] h ((2 * c : Nat) : Int) h := by
  refine Sp.of rfl kX6_length (Nat.le_of_ble_eq_true rfl) ?_
  refine a_iconst (k := 0) rfl ?_
  refine u_aloadn (k := 1) rfl rfl ?_
  refine a_geti (k := 2) rfl fRX6_19 rfl rfl ?_
  refine u_imul (k := 3) rfl (by omega) ?_
  refine a_ireturn (k := 4) rfl rfl ?_
  exact ⟨by rw [hc]; rfl, rfl⟩
end
section
/-! what stays: cells T and places K may change -/
def Fr (T : List (Nat × Nat)) (K : List (Nat × Nat × Nat)) (h g : HH) : Prop := ∀ t i k, (t, i) ∉ T → (t, i, k) ∉ K → g t i k = h t i k
theorem Fr.rf {T : List (Nat × Nat)} {K : List (Nat × Nat × Nat)} {h : HH} : Fr T K h h := fun _ _ _ _ _ => rfl
theorem put_ne {h : HH} {t i k : Nat} {v : Int} {t' i' k' : Nat} (hn : ¬ (t' = t ∧ i' = i ∧ k' = k)) : put h t i k v t' i' k' = h t' i' k' := if_neg hn
theorem put_eq {h : HH} {t i k : Nat} {v : Int} : put h t i k v t i k = v := if_pos ⟨rfl, rfl, rfl⟩
theorem Fr.p1 {T : List (Nat × Nat)} {K : List (Nat × Nat × Nat)} {h g : HH} {t i k : Nat} {v : Int} (hF : Fr T K h g) (hm : (t, i) ∈ T) : Fr T K h (put g t i k v) := fun t' i' k' h1 h2 => by
  rw [put_ne (fun q => h1 (by rw [q.1, q.2.1]; exact hm))]
  exact hF t' i' k' h1 h2
theorem Fr.p2 {T : List (Nat × Nat)} {K : List (Nat × Nat × Nat)} {h g : HH} {t i k : Nat} {v : Int} (hF : Fr T K h g) (hm : (t, i, k) ∈ K) : Fr T K h (put g t i k v) := fun t' i' k' h1 h2 => by
  rw [put_ne (fun q => h2 (by rw [q.1, q.2.1, q.2.2]; exact hm))]
  exact hF t' i' k' h1 h2
theorem Fr.tr {T T' : List (Nat × Nat)} {K K' : List (Nat × Nat × Nat)} {h g g' : HH} (hF : Fr T K h g) (hG : Fr T' K' g g') (hT : ∀ q ∈ T', q ∈ T) (hK : ∀ q ∈ K', q ∈ K ∨ (q.1, q.2.1) ∈ T) : Fr T K h g' := fun t i k h1 h2 => by
  rw [hG t i k (fun q => h1 (hT _ q)) (fun q => (hK _ q).elim h2 h1)]
  exact hF t i k h1 h2
theorem Fr.mono {T T' : List (Nat × Nat)} {K K' : List (Nat × Nat × Nat)} {h g : HH} (hG : Fr T' K' h g) (hT : ∀ q ∈ T', q ∈ T) (hK : ∀ q ∈ K', q ∈ K ∨ (q.1, q.2.1) ∈ T) : Fr T K h g := Fr.rf.tr hG hT hK
/-! numbers for names, as they come -/
/-- is pass n the first of its crossing -/
def nw (f : Nat → Nat) (n : Nat) : Bool := (List.range n).all fun r => f r / 2 != f n / 2
def mny (f : Nat → Nat) : Nat → Nat
  | 0 => 0
  | n + 1 => mny f n + (if nw f n then 1 else 0)
/-- the number that crossing x has, n passes along -/
def num (f : Nat → Nat) (x : Nat) : Nat → Option Nat
  | 0 => none
  | n + 1 => match num f x n with
    | some v => some v
    | none => if f n / 2 = x then some (mny f n) else none
def cr (f : Nat → Nat) (q : Nat) : Nat := (num f (f q / 2) (q + 1)).getD 0
def rn (f : Nat → Nat) (q : Nat) : Nat := 2 * cr f q + f q % 2
/-- the salted ones, numbered anew -/
def rsl (f : Nat → Nat) (s : Nat) : Nat → Nat
  | 0 => 0
  | n + 1 => rsl f s n ||| (if s.testBit (f n / 2) then 2 ^ cr f n else 0)
theorem nw_iff (f : Nat → Nat) (n : Nat) : nw f n = true ↔ ∀ r, r < n → f r / 2 ≠ f n / 2 := by
  unfold nw
  rw [List.all_eq_true]
  constructor
  · intro h r hr
    have := h r (List.mem_range.mpr hr)
    simpa using this
  · intro h r hr
    have := h r (List.mem_range.mp hr)
    simpa using this
theorem num_none {f : Nat → Nat} {x : Nat} : ∀ {n : Nat}, num f x n = none ↔ ∀ r, r < n → f r / 2 ≠ x
  | 0 => ⟨fun _ r hr => absurd hr (Nat.not_lt_zero r), fun _ => rfl⟩
  | n + 1 => by
    unfold num
    cases hc : num f x n with
    | some v =>
      simp only [reduceCtorEq, false_iff]
      intro h
      have : num f x n = none := num_none.mpr (fun r hr => h r (by omega))
      rw [hc] at this
      cases this
    | none =>
      have h0 := (num_none (f := f) (x := x) (n := n)).mp hc
      dsimp only
      split
      · rename_i he
        simp only [reduceCtorEq, false_iff]
        intro h
        exact h n (by omega) he
      · rename_i he
        simp only [true_iff]
        intro r hr
        rcases Nat.lt_or_ge r n with h | h
        · exact h0 r h
        · have : r = n := by omega
          subst this
          exact he
theorem nw_num (f : Nat → Nat) (n : Nat) : nw f n = true ↔ num f (f n / 2) n = none := by rw [nw_iff, num_none]
theorem num_old {f : Nat → Nat} {x n v : Nat} (h : num f x n = some v) : num f x (n + 1) = some v := by simp [num, h]
theorem num_new {f : Nat → Nat} {n : Nat} (h : num f (f n / 2) n = none) : num f (f n / 2) (n + 1) = some (mny f n) := by simp [num, h]
theorem num_oth {f : Nat → Nat} {x n : Nat} (hx : f n / 2 ≠ x) : num f x (n + 1) = num f x n := by
  unfold num
  cases hc : num f x n with
  | some v => simp [← hc]; cases n <;> simp_all [num]
  | none => simp [hx]; cases n <;> simp_all [num]
theorem mny_le (f : Nat → Nat) : ∀ n, mny f n ≤ n
  | 0 => Nat.le_refl 0
  | n + 1 => by
    have := mny_le f n
    unfold mny
    split <;> omega
theorem cr_old {f : Nat → Nat} {n v : Nat} (h : num f (f n / 2) n = some v) : cr f n = v := by simp [cr, num_old h]
theorem cr_new {f : Nat → Nat} {n : Nat} (h : num f (f n / 2) n = none) : cr f n = mny f n := by simp [cr, num_new h]
theorem mny_old {f : Nat → Nat} {n v : Nat} (h : num f (f n / 2) n = some v) : mny f (n + 1) = mny f n := by
  have : nw f n = false := by
    cases hn : nw f n with
    | false => rfl
    | true => rw [(nw_num f n).mp hn] at h; cases h
  simp [mny, this]
theorem mny_new {f : Nat → Nat} {n : Nat} (h : num f (f n / 2) n = none) : mny f (n + 1) = mny f n + 1 := by
  simp [mny, (nw_num f n).mpr h]
theorem num_lt {f : Nat → Nat} {x : Nat} : ∀ {n v : Nat}, num f x n = some v → v < mny f n
  | 0, v, h => by cases h
  | n + 1, v, h => by
    cases hc : num f x n with
    | some w =>
      rw [num_old hc] at h
      cases h
      have := num_lt hc
      unfold mny
      omega
    | none =>
      by_cases he : f n / 2 = x
      · subst he
        rw [num_new hc] at h
        cases h
        rw [mny_new hc]
        omega
      · rw [num_oth he, hc] at h
        cases h
end
section
theorem put_apply (h : HH) (t i k : Nat) (v : Int) (t' i' k' : Nat) : put h t i k v t' i' k' = if t' = t ∧ i' = i ∧ k' = k then v else h t' i' k' := rfl
theorem Sp.ofF {M : MD} {av : List AV} {h : HH} {P : Option AV → HH → Prop} (hy : plainFor M.1 = true) (hok : okc M.2.1 (tb M) = true) (hn : aw_ av ≤ M.2.2.1) (kk : AW M P 0 (la 0 av) [] h) : Sp M av h P := by
  intro hr hw l G sz
  refine va_MetF (cc := M.2.1) (maxL := M.2.2.1) (ret := M.2.2.2.1) hy rfl ?_
  intro p e s m args below meth c s₁ B hml hv
  obtain ⟨rfl, hsz, hK, hP, hD0⟩ := hv
  subst hsz
  have hts := atoms_spec (ws := wq M) B.pre
  have hown : s.vm.findClass M.1.cls = some m.cls := findClass_of_methodNamed B.named
  have hl := lv_entry (av.map (cv G.2.2)) (n := M.2.2.1) (by rw [aw_len]; exact hn)
  rw [lg_entry_eq]
  generalize (lg_sl (av.map (cv G.2.2)) ++ List.replicate (M.2.2.1 - (lg_sl (av.map (cv G.2.2))).length) Slot.unset).toArray = ls at hl ⊢
  rw [la_cv] at hl
  exact kk l p e s m _ below meth c G (va_A (ws_ G h) s.heap.size) ⟨B.exec, B.bytes, B.returns, hml, hown, hts, B.notSynchronized, hK, hok, fun q hq => Or.inr hq⟩ (la_rg av 0 hr) (fun v hv => by cases hv) hw s.heap [] ls hP hD0.self va_S.rf hl
theorem x_begin (q : Nat) (h : HH) : SpV mX4_begin [vr 1 q] h (put (put h 1 q 1 0) 1 q 2 0) := by
  refine Sp.of rfl kX4_begin (Nat.le_of_ble_eq_true rfl) ?_
  refine u_aloadn (k := 0) rfl rfl ?_
  refine a_iconst (k := 1) rfl ?_
  refine a_puti (k := 2) rfl pRX4_15 rfl rfl ?_
  refine u_aloadn (k := 3) rfl rfl ?_
  refine a_iconst (k := 4) rfl ?_
  refine a_puti (k := 5) rfl pRX4_19 rfl rfl ?_
  refine a_return (k := 6) rfl rfl ?_
  exact ⟨rfl, rfl⟩
theorem x_knows (q K x : Nat) (h : HH) (hK : h 1 q 1 = (K : Int)) (hk : K < 2 ^ 31) (hx : x < 32) : SpI mX4_knows [vr 1 q, vi x] h (tbi K x) h := by
  refine Sp.of rfl kX4_knows (Nat.le_of_ble_eq_true rfl) ?_
  have e01 := tbi_01 K x
  refine u_aloadn (k := 0) rfl rfl ?_
  refine a_geti (k := 1) rfl fRX4_15 rfl rfl ?_
  rw [hK]
  refine u_iloadn (k := 2) rfl rfl ?_
  refine i_statN2 (M' := mX10_isIn) (k := 3) rfl lRX4_22 oX10_isIn vX10_isIn ⟨Nat.le_of_ble_eq_true rfl, Nat.le_of_ble_eq_true rfl⟩ rfl (Nat.le_of_ble_eq_true rfl) (x_isIn K x h hk hx) ?_
  refine a_zreturn (k := 4) rfl rfl (by omega) ?_
  exact ⟨rfl, rfl⟩
theorem x_numOld (q K x : Nat) (h : HH) (hK : h 1 q 1 = (K : Int)) (hk : K < 2 ^ 31) (hx : x < 26) (hb : K.testBit x = true) : SpI mX4_numberOf [vr 1 q, vi x] h (h 2 q x) h := by
  refine Sp.of rfl kX4_numberOf (Nat.le_of_ble_eq_true rfl) ?_
  have e1 : tbi K x = 1 := by simp [tbi, hb]
  refine u_iloadn (k := 0) rfl rfl ?_
  refine a_if_lt (k := 1) rfl (fun c_1 => ?_) (fun c_1 => ?_)
  · omega
  · refine u_iloadn (k := 2) rfl rfl ?_
    refine a_bipush (k := 3) rfl ?_
    refine a_icmp_lt (k := 4) rfl (fun c_7 => ?_) (fun c_7 => ?_)
    · refine u_aloadn (k := 7) rfl rfl ?_
      refine u_iloadn (k := 8) rfl rfl ?_
      refine i_virt1 (M' := mX4_knows) (k := 9) rfl lRX4_26 oX4_knows vX4_knows ⟨Nat.le_of_ble_eq_true rfl, Nat.le_of_ble_eq_true rfl⟩ rfl rfl (Nat.le_of_ble_eq_true rfl) (x_knows q K x h hK hk (by omega)) ?_
      refine a_if_ne (k := 10) rfl (fun c_17 => ?_) (fun c_17 => ?_)
      · refine u_aloadn (k := 31) rfl rfl ?_
        refine a_getr (k := 32) rfl fRX4_9 rfl rfl rfl ?_
        refine u_iloadn (k := 33) rfl rfl ?_
        refine u_iald (k := 34) rfl rfl rfl (by omega) ?_
        refine a_ireturn (k := 35) rfl rfl ?_
        exact ⟨rfl, rfl⟩
      · omega
    · omega
theorem x_numNew (q K x n : Nat) (h : HH) (hK : h 1 q 1 = (K : Int)) (hk : K < 2 ^ 31) (hx : x < 26) (hb : K.testBit x = false) (hn : h 1 q 2 = (n : Int)) (hn2 : n < 1000) : SpI mX4_numberOf [vr 1 q, vi x] h n (put (put (put h 1 q 1 ((K ||| 2 ^ x : Nat) : Int)) 2 q x n) 1 q 2 ((n + 1 : Nat) : Int)) := by
  refine Sp.of rfl kX4_numberOf (Nat.le_of_ble_eq_true rfl) ?_
  have e1 : tbi K x = 0 := by simp [tbi, hb]
  have e2 : ior (h 1 q 1) (ishl 1 x) = ((K ||| 2 ^ x : Nat) : Int) := by
    rw [hK, shl1 (by omega), ior_nat hk (Nat.pow_lt_pow_right (by omega) (by omega))]
  refine u_iloadn (k := 0) rfl rfl ?_
  refine a_if_lt (k := 1) rfl (fun c_1 => ?_) (fun c_1 => ?_)
  · omega
  · refine u_iloadn (k := 2) rfl rfl ?_
    refine a_bipush (k := 3) rfl ?_
    refine a_icmp_lt (k := 4) rfl (fun c_7 => ?_) (fun c_7 => ?_)
    · refine u_aloadn (k := 7) rfl rfl ?_
      refine u_iloadn (k := 8) rfl rfl ?_
      refine i_virt1 (M' := mX4_knows) (k := 9) rfl lRX4_26 oX4_knows vX4_knows ⟨Nat.le_of_ble_eq_true rfl, Nat.le_of_ble_eq_true rfl⟩ rfl rfl (Nat.le_of_ble_eq_true rfl) (x_knows q K x h hK hk (by omega)) ?_
      refine a_if_ne (k := 10) rfl (fun c_17 => ?_) (fun c_17 => ?_)
      · omega
      · refine u_aloadn (k := 11) rfl rfl ?_
        refine a_dup (k := 12) rfl rfl ?_
        refine a_geti (k := 13) rfl fRX4_15 rfl rfl ?_
        refine a_iconst (k := 14) rfl ?_
        refine u_iloadn (k := 15) rfl rfl ?_
        refine a_ishl (k := 16) rfl ?_
        refine a_ior (k := 17) rfl ?_
        rw [e2]
        refine a_puti (k := 18) rfl pRX4_15 rfl rfl ?_
        refine u_aloadn (k := 19) rfl rfl ?_
        refine a_getr (k := 20) rfl fRX4_9 rfl rfl rfl ?_
        refine u_iloadn (k := 21) rfl rfl ?_
        refine u_aloadn (k := 22) rfl rfl ?_
        refine a_geti (k := 23) rfl fRX4_19 rfl rfl ?_
        simp only [put_apply, Nat.reduceEqDiff, reduceIte, false_and, and_false, true_and, and_true, and_self, if_false, if_true, not_false_eq_true, not_true_eq_false, ne_eq]
        rw [hn]
        refine u_iast (k := 24) rfl rfl rfl (by omega) ?_
        refine u_aloadn (k := 25) rfl rfl ?_
        refine a_dup (k := 26) rfl rfl ?_
        refine a_geti (k := 27) rfl fRX4_19 rfl rfl ?_
        simp only [put_apply, Nat.reduceEqDiff, reduceIte, false_and, and_false, true_and, and_true, and_self, if_false, if_true, not_false_eq_true, not_true_eq_false, ne_eq]
        rw [hn]
        refine a_iconst (k := 28) rfl ?_
        refine u_iadd (k := 29) rfl (by omega) ?_
        refine a_puti (k := 30) rfl pRX4_19 rfl rfl ?_
        refine u_aloadn (k := 31) rfl rfl ?_
        refine a_getr (k := 32) rfl fRX4_9 rfl rfl rfl ?_
        refine u_iloadn (k := 33) rfl rfl ?_
        refine u_iald (k := 34) rfl rfl rfl (by omega) ?_
        simp only [put_apply, Nat.reduceEqDiff, reduceIte, false_and, and_false, true_and, and_true, and_self, if_false, if_true, not_false_eq_true, not_true_eq_false, ne_eq]
        refine a_ireturn (k := 35) rfl rfl ?_
        exact ⟨rfl, rfl⟩
    · omega
theorem x_every (j c : Nat) (h : HH) (hc : h 5 j 2 = (c : Int)) (h8 : c ≤ 8) : SpI mX6_everyCrossing [vr 5 j] h ((2 ^ c - 1 : Nat) : Int) h := by
  refine Sp.of rfl kX6_everyCrossing (Nat.le_of_ble_eq_true rfl) ?_
  have hp : 0 < 2 ^ c := Nat.pow_pos (by omega)
  have hq : 2 ^ c ≤ 2 ^ 8 := Nat.pow_le_pow_right (by omega) h8
  refine a_iconst (k := 0) rfl ?_
  refine u_aloadn (k := 1) rfl rfl ?_
  refine a_geti (k := 2) rfl fRX6_19 rfl rfl ?_
  refine a_ishl (k := 3) rfl ?_
  rw [hc, shl1 (by omega)]
  refine a_iconst (k := 4) rfl ?_
  refine u_isub (k := 5) rfl (by omega) ?_
  refine a_ireturn (k := 6) rfl rfl ?_
  exact ⟨by congr 2; omega, rfl⟩
theorem x_has (j c : Nat) (d : Int) (h : HH) (hc : h 5 j 2 = (c : Int)) : SpI mX6_has [vr 5 j, vi d] h (if 0 ≤ d ∧ d < c then 1 else 0) h := by
  refine Sp.of rfl kX6_has (Nat.le_of_ble_eq_true rfl) ?_
  refine u_iloadn (k := 0) rfl rfl ?_
  refine a_if_lt (k := 1) rfl (fun c_1 => ?_) (fun c_1 => ?_)
  · refine a_iconst (k := 8) rfl ?_
    refine a_zreturn (k := 9) rfl rfl (by omega) ?_
    exact ⟨by congr 2; split <;> omega, rfl⟩
  · refine u_iloadn (k := 2) rfl rfl ?_
    refine u_aloadn (k := 3) rfl rfl ?_
    refine a_geti (k := 4) rfl fRX6_19 rfl rfl ?_
    refine a_icmp_ge (k := 5) rfl (fun c_9 => ?_) (fun c_9 => ?_)
    · refine a_iconst (k := 8) rfl ?_
      refine a_zreturn (k := 9) rfl rfl (by omega) ?_
      exact ⟨by congr 2; split <;> omega, rfl⟩
    · refine a_iconst (k := 6) rfl ?_
      refine a_goto (k := 7) rfl ?_
      refine a_zreturn (k := 9) rfl rfl (by omega) ?_
      exact ⟨by congr 2; split <;> omega, rfl⟩
theorem x_passAt (j c : Nat) (d : Int) (h : HH) (hc : h 5 j 2 = (c : Int)) (h8 : c ≤ 8) : SpI mX6_passAt [vr 5 j, vi d] h (if 0 ≤ d ∧ d < 2 * c then h 6 j d.toNat else -1) h := by
  refine Sp.of rfl kX6_passAt (Nat.le_of_ble_eq_true rfl) ?_
  refine u_iloadn (k := 0) rfl rfl ?_
  refine a_if_lt (k := 1) rfl (fun c_1 => ?_) (fun c_1 => ?_)
  · refine a_iconst (k := 11) rfl ?_
    refine a_ireturn (k := 12) rfl rfl ?_
    exact ⟨by congr 2; split <;> omega, rfl⟩
  · refine u_iloadn (k := 2) rfl rfl ?_
    refine u_aloadn (k := 3) rfl rfl ?_
    refine i_virt0 (M' := mX6_length) (k := 4) rfl lRX6_23 oX6_length vX6_length ⟨Nat.le_of_ble_eq_true rfl, Nat.le_of_ble_eq_true rfl⟩ rfl rfl (Nat.le_of_ble_eq_true rfl) (x_length j c h hc h8) ?_
    refine a_icmp_ge (k := 5) rfl (fun c_9 => ?_) (fun c_9 => ?_)
    · refine a_iconst (k := 11) rfl ?_
      refine a_ireturn (k := 12) rfl rfl ?_
      exact ⟨by congr 2; split <;> omega, rfl⟩
    · refine u_aloadn (k := 6) rfl rfl ?_
      refine a_getr (k := 7) rfl fRX6_15 rfl rfl rfl ?_
      refine u_iloadn (k := 8) rfl rfl ?_
      refine a_iald (k := 9) rfl rfl rfl (by omega) (by omega) ?_
      refine a_goto (k := 10) rfl ?_
      refine a_ireturn (k := 12) rfl rfl ?_
      exact ⟨by congr 2; split <;> omega, rfl⟩
theorem x_makePlain (j : Nat) (h : HH) : SpV mX6_makePlain [vr 5 j] h (put (put h 5 j 2 0) 5 j 3 0) := by
  refine Sp.of rfl kX6_makePlain (Nat.le_of_ble_eq_true rfl) ?_
  refine u_aloadn (k := 0) rfl rfl ?_
  refine a_iconst (k := 1) rfl ?_
  refine a_puti (k := 2) rfl pRX6_19 rfl rfl ?_
  refine u_aloadn (k := 3) rfl rfl ?_
  refine a_iconst (k := 4) rfl ?_
  refine a_puti (k := 5) rfl pRX6_27 rfl rfl ?_
  refine a_return (k := 6) rfl rfl ?_
  exact ⟨rfl, rfl⟩
theorem x_min (a b : Int) (h : HH) : SpI mJ9_min_7cf53 [vi a, vi b] h (if a ≤ b then a else b) h := by
  refine Sp.ofF (by decide +kernel) kJ9_min_7cf53 (Nat.le_of_ble_eq_true rfl) ?_
  refine u_iloadn (k := 0) rfl rfl ?_
  refine u_iloadn (k := 1) rfl rfl ?_
  refine a_icmp_gt (k := 2) rfl (fun c_2 => ?_) (fun c_2 => ?_)
  · refine u_iloadn (k := 5) rfl rfl ?_
    refine a_ireturn (k := 6) rfl rfl ?_
    exact ⟨by congr 2; split <;> omega, rfl⟩
  · refine u_iloadn (k := 3) rfl rfl ?_
    refine a_goto (k := 4) rfl ?_
    refine a_ireturn (k := 6) rfl rfl ?_
    exact ⟨by congr 2; split <;> omega, rfl⟩
theorem x_max (a b : Int) (h : HH) : SpI mJ9_max_7cf53 [vi a, vi b] h (if b ≤ a then a else b) h := by
  refine Sp.ofF (by decide +kernel) kJ9_max_7cf53 (Nat.le_of_ble_eq_true rfl) ?_
  refine u_iloadn (k := 0) rfl rfl ?_
  refine u_iloadn (k := 1) rfl rfl ?_
  refine a_icmp_lt (k := 2) rfl (fun c_2 => ?_) (fun c_2 => ?_)
  · refine u_iloadn (k := 5) rfl rfl ?_
    refine a_ireturn (k := 6) rfl rfl ?_
    exact ⟨by congr 2; split <;> omega, rfl⟩
  · refine u_iloadn (k := 3) rfl rfl ?_
    refine a_goto (k := 4) rfl ?_
    refine a_ireturn (k := 6) rfl rfl ?_
    exact ⟨by congr 2; split <;> omega, rfl⟩
theorem x_takenBy (a b : Nat) (h : HH) (ha : a < 8) (hb : b < 8) : SpI mX10_takenBy [vi ((10 * a + b : Nat) : Int)] h ((2 ^ a ||| 2 ^ b : Nat) : Int) h := by
  refine Sp.of rfl kX10_takenBy (Nat.le_of_ble_eq_true rfl) ?_
  have e1 : ((10 * a + b : Nat) : Int) / 10 = (a : Int) := by omega
  have e2 : ((10 * a + b : Nat) : Int) % 10 = (b : Int) := by omega
  refine u_iloadn (k := 0) rfl rfl ?_
  refine a_if_ge (k := 1) rfl (fun c_1 => ?_) (fun c_1 => ?_)
  · refine a_iconst (k := 4) rfl ?_
    refine u_iloadn (k := 5) rfl rfl ?_
    refine a_bipush (k := 6) rfl ?_
    refine u_idiv (k := 7) rfl (by omega) (by omega) ?_
    refine a_ishl (k := 8) rfl ?_
    refine a_iconst (k := 9) rfl ?_
    refine u_iloadn (k := 10) rfl rfl ?_
    refine a_bipush (k := 11) rfl ?_
    refine u_irem (k := 12) rfl (by omega) (by omega) ?_
    refine a_ishl (k := 13) rfl ?_
    rw [e1, e2, shl1 (by omega), shl1 (by omega)]
    refine a_ior (k := 14) rfl ?_
    rw [ior_nat (Nat.pow_lt_pow_right (by omega) (by omega)) (Nat.pow_lt_pow_right (by omega) (by omega))]
    refine a_ireturn (k := 15) rfl rfl ?_
    exact ⟨rfl, rfl⟩
  · omega
end
section
theorem cr_lt {f : Nat → Nat} (n : Nat) : cr f n < n + 1 := by
  have h1 := mny_le f n
  cases h : num f (f n / 2) n with
  | none => rw [cr_new h]; omega
  | some v =>
    rw [cr_old h]
    have := num_lt h
    omega
theorem rsl_lt (f : Nat → Nat) (s : Nat) : ∀ n, n ≤ 16 → rsl f s n < 2 ^ 16
  | 0, _ => by unfold rsl; omega
  | n + 1, hn => by
    unfold rsl
    have h1 := rsl_lt f s n (by omega)
    have h2 := cr_lt (f := f) n
    apply Nat.or_lt_two_pow h1
    split
    · exact Nat.pow_lt_pow_right (by omega) (by omega)
    · omega
theorem shl_tbi {S m k : Nat} (hk : k < 31) : ishl (tbi S m) k = ((if S.testBit m then 2 ^ k else 0 : Nat) : Int) := by
  unfold tbi
  split
  · exact shl1 hk
  · have := ishl_nat (n := 0) (k := k) (by omega) (by omega)
    rw [Nat.zero_shiftLeft] at this
    exact this
theorem iand1 {a : Nat} (ha : a < 2 ^ 31) : iand a 1 = ((a % 2 : Nat) : Int) := by
  have := iand_nat (a := a) (b := 1) ha
  rw [Nat.and_one_is_mod] at this
  exact this
/-- the numbering q stands n passes along f -/
def NM (q : Nat) (f : Nat → Nat) (n : Nat) (g : HH) : Prop := ∃ K : Nat, g 1 q 1 = (K : Int) ∧ K < 2 ^ 26 ∧ (∀ x, K.testBit x = (num f x n).isSome) ∧ g 1 q 2 = (mny f n : Int) ∧ ∀ x v, num f x n = some v → g 2 q x = (v : Int)
theorem NM.keep {q : Nat} {f : Nat → Nat} {n : Nat} {g g' : HH} (h : NM q f n g) (h1 : ∀ k, g' 1 q k = g 1 q k) (h2 : ∀ k, g' 2 q k = g 2 q k) : NM q f n g' := by
  obtain ⟨K, a, b, c, d, e⟩ := h
  exact ⟨K, by rw [h1]; exact a, b, c, by rw [h1]; exact d, fun x v hv => by rw [h2]; exact e x v hv⟩
theorem NM.zero {q : Nat} {f : Nat → Nat} {g : HH} (h1 : g 1 q 1 = 0) (h2 : g 1 q 2 = 0) : NM q f 0 g := ⟨0, h1, by omega, fun x => by simp [num], h2, fun x v hv => by cases hv⟩
theorem NM.cong {q : Nat} {f f' : Nat → Nat} {n : Nat} {g : HH} (h : NM q f n g) (h1 : ∀ x, num f x n = num f' x n) (h2 : mny f n = mny f' n) : NM q f' n g := by
  obtain ⟨K, a, b, c, d, e⟩ := h
  exact ⟨K, a, b, fun x => by rw [c, h1], by rw [d, h2], fun x v hv => e x v (by rw [h1]; exact hv)⟩
theorem x_numberOf (q : Nat) (f : Nat → Nat) (n : Nat) (g : HH) (hN : NM q f n g) (hx : f n / 2 < 26) (hn : n < 900) : Sp mX4_numberOf [vr 1 q, vi ((f n / 2 : Nat) : Int)] g (fun r g' => r = some (vi (cr f n)) ∧ NM q f (n + 1) g' ∧ Fr [(1, q), (2, q)] [] g g') := by
  obtain ⟨K, hK, hK2, hb, hg, hnum⟩ := hN
  have hml := mny_le f n
  cases hc : num f (f n / 2) n with
  | some v =>
    have hbt : K.testBit (f n / 2) = true := by rw [hb, hc]; rfl
    refine Sp.weak (x_numOld q K (f n / 2) g hK (by omega) hx hbt) ?_
    rintro r g' ⟨rfl, rfl⟩
    refine ⟨by rw [hnum _ _ hc, cr_old hc], ⟨K, hK, hK2, fun x => ?_, by rw [hg, mny_old hc], fun x w hw => ?_⟩, Fr.rf⟩
    · by_cases he : f n / 2 = x
      · subst he
        rw [hbt, num_old hc]; rfl
      · rw [hb, num_oth he]
    · by_cases he : f n / 2 = x
      · subst he
        rw [num_old hc] at hw
        cases hw
        exact hnum _ _ hc
      · rw [num_oth he] at hw
        exact hnum _ _ hw
  | none =>
    have hbt : K.testBit (f n / 2) = false := by rw [hb, hc]; rfl
    refine Sp.weak (x_numNew q K (f n / 2) (mny f n) g hK (by omega) hx hbt hg (by omega)) ?_
    rintro r g' ⟨rfl, rfl⟩
    refine ⟨by rw [cr_new hc], ⟨K ||| 2 ^ (f n / 2), by simp only [put_apply, Nat.reduceEqDiff, reduceIte, false_and, and_false, true_and, and_true, and_self, if_false, if_true, not_false_eq_true, not_true_eq_false, ne_eq], Nat.or_lt_two_pow hK2 (Nat.pow_lt_pow_right (by omega) hx), fun x => ?_, by rw [put_eq, mny_new hc], fun x w hw => ?_⟩, ?_⟩
    · rw [Nat.testBit_or, Nat.testBit_two_pow, hb]
      by_cases he : f n / 2 = x
      · subst he
        rw [num_new hc]; simp
      · rw [num_oth he]; simp [he]
    · by_cases he : f n / 2 = x
      · subst he
        rw [num_new hc] at hw
        cases hw
        simp only [put_apply, Nat.reduceEqDiff, reduceIte, false_and, and_false, true_and, and_true, and_self, if_false, if_true, not_false_eq_true, not_true_eq_false, ne_eq]
      · rw [num_oth he] at hw
        rw [put_ne (by simp), put_ne (by simp [Ne.symm he]), put_ne (by simp)]
        exact hnum _ _ hw
    · exact ((Fr.rf.p1 (by simp)).p1 (by simp)).p1 (by simp)
theorem x_numberAnew (j c s : Nat) (f : Nat → Nat) (h : HH) (hc : h 5 j 2 = (c : Int)) (h8 : c ≤ 8) (hs : h 5 j 3 = (s : Int)) (hs2 : s < 256) (hf : ∀ i, i < 2 * c → h 6 j i = (f i : Int)) (hf2 : ∀ i, i < 2 * c → f i < 16) :
    Sp mX6_numberAnew [vr 5 j] h (fun r g => r = none ∧ g 5 j 2 = (c : Int) ∧ g 5 j 3 = (rsl f s (2 * c) : Int) ∧ (∀ i, i < 2 * c → g 6 j i = (rn f i : Int)) ∧ Fr [(1, 0), (2, 0), (6, j)] [(5, j, 3)] h g) := by
  refine Sp.of rfl kX6_numberAnew (Nat.le_of_ble_eq_true rfl) ?_
  have L : ∀ (m n : Nat) (g : HH), n + m = 2 * c → NM 0 f n g → (∀ i, i < n → g 6 j i = (rn f i : Int)) → (∀ i, n ≤ i → i < 2 * c → g 6 j i = (f i : Int)) → Fr [(1, 0), (2, 0), (6, j)] [] h g →
      AW mX6_numberAnew (fun r g => r = none ∧ g 5 j 2 = (c : Int) ∧ g 5 j 3 = (rsl f s (2 * c) : Int) ∧ (∀ i, i < 2 * c → g 6 j i = (rn f i : Int)) ∧ Fr [(1, 0), (2, 0), (6, j)] [(5, j, 3)] h g) 11 [(0, vr 5 j), (1, vi (rsl f s n)), (2, vi n)] [] g := by
    intro m
    induction m with
    | zero =>
      intro n g hn hN hp hq hF
      have hn : n = 2 * c := by omega
      subst hn
      have hc' : g 5 j 2 = (c : Int) := by rw [hF 5 j 2 (by simp) (by simp)]; exact hc
      refine u_iloadn (k := 7) rfl rfl ?_
      refine u_aloadn (k := 8) rfl rfl ?_
      refine i_virt0 (M' := mX6_length) (k := 9) rfl lRX6_23 oX6_length vX6_length ⟨Nat.le_of_ble_eq_true rfl, Nat.le_of_ble_eq_true rfl⟩ rfl rfl (Nat.le_of_ble_eq_true rfl) (x_length j c g hc' h8) ?_
      refine a_icmp_ge (k := 10) rfl (fun c_16 => ?_) (fun c_16 => ?_)
      · refine u_aloadn (k := 49) rfl rfl ?_
        refine u_iloadn (k := 50) rfl rfl ?_
        refine a_puti (k := 51) rfl pRX6_27 rfl rfl ?_
        refine a_return (k := 52) rfl rfl ?_
        exact ⟨rfl, by simp only [put_apply, Nat.reduceEqDiff, reduceIte, false_and, and_false, true_and, and_true, and_self, if_false, if_true, not_false_eq_true, not_true_eq_false, ne_eq]; exact hc', by rw [put_eq], fun i hi => by simp only [put_apply, Nat.reduceEqDiff, reduceIte, false_and, and_false, true_and, and_true, and_self, if_false, if_true, not_false_eq_true, not_true_eq_false, ne_eq]; exact hp i hi, (hF.mono (by simp) (by simp)).p2 (by simp)⟩
      · omega
    | succ m ih =>
      intro n g hn hN hp hq hF
      have hc' : g 5 j 2 = (c : Int) := by rw [hF 5 j 2 (by simp) (by simp)]; exact hc
      have hs' : g 5 j 3 = (s : Int) := by rw [hF 5 j 3 (by simp) (by simp)]; exact hs
      have hfn := hf2 n (by omega)
      have e8 : f n / 2 % 8 = f n / 2 := by omega
      have hrs := rsl_lt f s n (by omega)
      have hcr := cr_lt (f := f) n
      refine u_iloadn (k := 7) rfl rfl ?_
      refine u_aloadn (k := 8) rfl rfl ?_
      refine i_virt0 (M' := mX6_length) (k := 9) rfl lRX6_23 oX6_length vX6_length ⟨Nat.le_of_ble_eq_true rfl, Nat.le_of_ble_eq_true rfl⟩ rfl rfl (Nat.le_of_ble_eq_true rfl) (x_length j c g hc' h8) ?_
      refine a_icmp_ge (k := 10) rfl (fun c_16 => ?_) (fun c_16 => ?_)
      · omega
      · refine u_aloadn (k := 11) rfl rfl ?_
        refine a_getr (k := 12) rfl fRX6_15 rfl rfl rfl ?_
        refine u_iloadn (k := 13) rfl rfl ?_
        refine u_iald (k := 14) rfl rfl rfl (by omega) ?_
        rw [hq n (by omega) (by omega)]
        refine i_statN1 (M' := mX10_crossingOf) (k := 15) rfl lRX6_50 oX10_crossingOf vX10_crossingOf ⟨Nat.le_of_ble_eq_true rfl, Nat.le_of_ble_eq_true rfl⟩ rfl (Nat.le_of_ble_eq_true rfl) (x_crossingOf (f n) g (by omega)) ?_
        refine a_istoren (k := 16) (lv' := [(3, _), (0, _), (1, _), (2, _)]) rfl (Nat.le_of_ble_eq_true rfl) rfl ?_
        refine u_aloadn (k := 17) rfl rfl ?_
        refine a_getr (k := 18) rfl fRX6_9 rfl rfl rfl ?_
        refine u_iloadn (k := 19) rfl rfl ?_
        rw [e8]
        refine ui_virt1 (M' := mX4_numberOf) (k := 20) rfl lRX6_54 oX4_numberOf vX4_numberOf ⟨Nat.le_of_ble_eq_true rfl, Nat.le_of_ble_eq_true rfl⟩ rfl rfl (Nat.le_of_ble_eq_true rfl) (x_numberOf 0 f n g hN (by omega) (by omega)) (by intro r g hp; exact ⟨_, hp.1⟩) (fun r g1 hg1 => ?_)
        obtain ⟨e1, hN1, hF1⟩ := hg1; cases e1
        refine a_istore (k := 21) (lv' := [(4, _), (3, _), (0, _), (1, _), (2, _)]) rfl (Nat.le_of_ble_eq_true rfl) rfl ?_
        refine u_iloadn (k := 22) rfl rfl ?_
        refine u_aloadn (k := 23) rfl rfl ?_
        refine a_geti (k := 24) rfl fRX6_27 rfl rfl ?_
        refine u_iloadn (k := 25) rfl rfl ?_
        refine a_ishr (k := 26) rfl ?_
        refine a_iconst (k := 27) rfl ?_
        refine a_iand (k := 28) rfl ?_
        rw [hF1 5 j 3 (by simp) (by simp), hs', sab (by omega) (by omega)]
        refine u_iload (k := 29) rfl rfl ?_
        refine a_ishl (k := 30) rfl ?_
        rw [shl_tbi (by omega)]
        refine a_ior (k := 31) rfl ?_
        rw [ior_nat (by omega) (by split; exact Nat.pow_lt_pow_right (by omega) (by omega); omega)]
        refine a_istoren (k := 32) (lv' := [(1, _), (4, _), (3, _), (0, _), (2, _)]) rfl (Nat.le_of_ble_eq_true rfl) rfl ?_
        refine u_aloadn (k := 33) rfl rfl ?_
        refine a_getr (k := 34) rfl fRX6_15 rfl rfl rfl ?_
        refine u_iloadn (k := 35) rfl rfl ?_
        refine a_iconst (k := 36) rfl ?_
        refine u_iload (k := 37) rfl rfl ?_
        refine u_imul (k := 38) rfl (by omega) ?_
        refine u_aloadn (k := 39) rfl rfl ?_
        refine a_getr (k := 40) rfl fRX6_15 rfl rfl rfl ?_
        refine u_iloadn (k := 41) rfl rfl ?_
        refine u_iald (k := 42) rfl rfl rfl (by omega) ?_
        rw [hF1 6 j n (by simp) (by simp), hq n (by omega) (by omega)]
        refine a_iconst (k := 43) rfl ?_
        refine a_iand (k := 44) rfl ?_
        rw [iand1 (by omega)]
        refine u_iadd (k := 45) rfl (by omega) ?_
        refine u_iast (k := 46) rfl rfl rfl (by omega) ?_
        refine u_iinc (k := 47) (lv' := [(2, _), (1, _), (4, _), (3, _), (0, _)]) rfl rfl (Nat.le_of_ble_eq_true rfl) (by omega) rfl ?_
        refine a_goto (k := 48) rfl ?_
        refine a_sub [4, 1, 0] rfl ?_
        refine ih (n + 1) _ (by omega) (hN1.keep (fun k => by simp only [put_apply, Nat.reduceEqDiff, reduceIte, false_and, and_false, true_and, and_true, and_self, if_false, if_true, not_false_eq_true, not_true_eq_false, ne_eq]) (fun k => by simp only [put_apply, Nat.reduceEqDiff, reduceIte, false_and, and_false, true_and, and_true, and_self, if_false, if_true, not_false_eq_true, not_true_eq_false, ne_eq])) (fun i hi => ?_) (fun i h1 h2 => ?_) ((hF.tr hF1 (by simp) (by simp)).p1 (by simp))
        · by_cases he : i = n
          · subst he; rw [put_eq, rn]; push_cast; rfl
          · rw [put_ne (by simp [he]), hF1 6 j i (by simp) (by simp)]; exact hp i (by omega)
        · rw [put_ne (by simp; omega), hF1 6 j i (by simp) (by simp)]; exact hq i (by omega) h2
  refine a_iconst (k := 0) rfl ?_
  refine a_istoren (k := 1) (lv' := [(1, _), (0, _)]) rfl (Nat.le_of_ble_eq_true rfl) rfl ?_
  refine u_aloadn (k := 2) rfl rfl ?_
  refine a_getr (k := 3) rfl fRX6_9 rfl rfl rfl ?_
  refine v_virt0 (M' := mX4_begin) (k := 4) rfl lRX6_45 oX4_begin vX4_begin ⟨Nat.le_of_ble_eq_true rfl, Nat.le_of_ble_eq_true rfl⟩ rfl rfl (Nat.le_of_ble_eq_true rfl) (x_begin 0 h) ?_
  refine a_iconst (k := 5) rfl ?_
  refine a_istoren (k := 6) (lv' := [(2, _), (1, _), (0, _)]) rfl (Nat.le_of_ble_eq_true rfl) rfl ?_
  refine a_sub [2, 1, 0] rfl ?_
  exact L (2 * c) 0 _ (by omega) (NM.zero (by simp only [put_apply, Nat.reduceEqDiff, reduceIte, false_and, and_false, true_and, and_true, and_self, if_false, if_true, not_false_eq_true, not_true_eq_false, ne_eq]) (by simp only [put_apply, Nat.reduceEqDiff, reduceIte, false_and, and_false, true_and, and_true, and_self, if_false, if_true, not_false_eq_true, not_true_eq_false, ne_eq])) (fun i hi => absurd hi (Nat.not_lt_zero i)) (fun i _ hi => by simp only [put_apply, Nat.reduceEqDiff, reduceIte, false_and, and_false, true_and, and_true, and_self, if_false, if_true, not_false_eq_true, not_true_eq_false, ne_eq]; exact hf i hi) ((Fr.rf.p1 (by simp)).p1 (by simp))
end
section
/-! System.arraycopy over rows of ints -/
def cpy (h : HH) (t1 i1 t2 i2 sp dp n : Nat) : HH := fun t i k => if t = t2 ∧ i = i2 ∧ dp ≤ k ∧ k < dp + n then h t1 i1 (sp + (k - dp)) else h t i k
theorem cpy_wf {h : HH} {t1 i1 t2 i2 sp dp n : Nat} (hh : HW h) : HW (cpy h t1 i1 t2 i2 sp dp n) := by
  intro t i k
  unfold cpy
  split
  · exact hh _ _ _
  · exact hh _ _ _
theorem cpy_oc (h : HH) (t1 i1 t2 i2 sp dp n : Nat) (t' i' : Nat) (hne : ¬ (t' = t2 ∧ i' = i2)) : cpy h t1 i1 t2 i2 sp dp n t' i' = h t' i' := by
  funext k
  unfold cpy
  rw [if_neg (fun q => hne ⟨q.1, q.2.1⟩)]
theorem nt_l6 : Cond.methodLink RX6 30 arraycopyName ∈ lw_gd := by decide +kernel
theorem nt_l7 : Cond.methodLink RX7 44 arraycopyName ∈ lw_gd := by decide +kernel
theorem nt_n : Cond.native arraycopyName ∈ lw_gd := by decide +kernel
theorem nt_s : Cond.static arraycopyName ∈ lw_gd := by decide +kernel
theorem nt_i : Cond.initialized "java/lang/System" ∈ lw_gd := by decide +kernel
theorem a_copy {M : MD} {P : Option AV → HH → Prop} {lv : LV} {h : HH} {k pc np tg x t1 i1 t2 i2 n1 n2 sp dp n : Nat} (hd : (tb M)[k]? = some (pc, .invokestatic x, 3, np, tg)) (hlk : Cond.methodLink M.1.cls x arraycopyName ∈ lw_gd) (ho1 : ko t1 = none) (hk1 : ka t1 = some (0, n1)) (ho2 : ko t2 = none) (hk2 : ka t2 = some (0, n2)) (h1 : sp + n ≤ n1) (h2 : dp + n ≤ n2) (h3 : n1 < 65536) (h4 : n2 < 65536) (hR : 1 ≤ (rq M).frames ∧ nativeFrameWords "java/lang/System" "arraycopy" 5 + 11 ≤ (rq M).locals) (kk : AW M P np lv [] (cpy h t1 i1 t2 i2 sp dp n)) : AW M P pc lv [vi n, vi dp, vr t2 i2, vi sp, vr t1 i1] h := by
  intro l p e s m args below meth c G A C hl hs hw H locs ls hP hD hS hv
  obtain ⟨d1, rfl, d3, d4⟩ := ok_at C.2.2.2.2.2.2.2.2.1 hd
  obtain ⟨rn_, hs⟩ := rg_c hs
  obtain ⟨rd_, hs⟩ := rg_c hs
  obtain ⟨r2, hs⟩ := rg_c hs
  obtain ⟨rs_, hs⟩ := rg_c hs
  obtain ⟨r1, hs⟩ := rg_c hs
  have r1 : vt t1 i1 := r1
  have r2 : vt t2 i2 := r2
  have rn_ : I3 (n : Int) := rn_
  have rd_ : I3 (dp : Int) := rd_
  have rs_ : I3 (sp : Int) := rs_
  obtain ⟨ka1, q1, q2⟩ := ws_at (G := G) (h := h) r1
  obtain ⟨kb1, q3, q4⟩ := ws_at (G := G) (h := h) r2
  rw [ce_i ho1 hk1 (Nat.zero_le 1)] at q2
  rw [ce_i ho2 hk2 (Nat.zero_le 1)] at q4
  have hts : ∀ w ∈ lw_gd, w.before args s = true := fun w hw => C.2.2.2.2.2.1 w (List.mem_cons_of_mem _ hw)
  have n0 : ∀ z : Nat, I3 (z : Int) → ¬ Int32.ofInt (z : Int) < 0 := fun z hz q => by
    have := (c3_lt hz c0_3).mp q
    omega
  have cl : ∀ z : Nat, I3 (z : Int) → (Int32.ofInt (z : Int)).toNatClampNeg = z := fun z hz => by rw [clamp3 hz]; rfl
  refine va_copyi (n := Int32.ofInt n) (sp := Int32.ofInt sp) (dp := Int32.ofInt dp) C.1 C.2.1 (by rw [C.2.2.2.1]; exact hv.1.symm) C.2.2.2.2.1 (hts _ hlk) (hts _ nt_n) (hts _ nt_s) (hts _ nt_i) C.2.2.2.2.2.2.2.1.1 hP hD hS ka1 kb1 0 0 q2 q4 rfl rfl rfl (n0 sp rs_) (n0 dp rd_) (n0 n rn_) (by rw [cl sp rs_, cl n rn_]; exact h1) (by rw [cl dp rd_, cl n rn_]; exact h2) (fun i _ => rfl) hR.1 (by simpa using hR.2) d1 (fun H1 locs1 hP1 hD1 hS1 => ?_)
  have hce : ce G t2 i2 (cpy h t1 i1 t2 i2 sp dp n t2 i2) = .inl (G.2.1 0, n2, .inl (va_cpy (fun k => Int32.ofInt (h t1 i1 k)) (fun k => Int32.ofInt (h t2 i2 k)) sp dp n)) := by
    rw [ce_i ho2 hk2 (Nat.zero_le 1)]
    congr 4
    funext q
    unfold cpy va_cpy
    by_cases hq : dp ≤ q ∧ q < dp + n
    · rw [if_pos ⟨rfl, rfl, hq⟩, if_pos hq]
    · rw [if_neg (fun z => hq z.2.2), if_neg hq]
  rw [cl sp rs_, cl n rn_, cl dp rd_, ← hce, ws_set hD q3 (cpy_oc h t1 i1 t2 i2 sp dp n)] at hP1 hD1
  exact kk l p e s m args below meth c G A C hl (fun v hv9 => by cases hv9) (cpy_wf hw) H1 locs1 ls hP1 hD1 hS1 hv
theorem x_copyFrom (j j' : Nat) (h : HH) (hne : j ≠ j') : Sp mX6_copyFrom [vr 5 j, vr 5 j'] h (fun r g => r = none ∧ g 5 j 2 = h 5 j' 2 ∧ g 5 j 3 = h 5 j' 3 ∧ (∀ i, i < 16 → g 6 j i = h 6 j' i) ∧ Fr [(5, j), (6, j)] [] h g) := by
  refine Sp.of rfl kX6_copyFrom (Nat.le_of_ble_eq_true rfl) ?_
  have e1 : cpy h 6 j' 6 j 0 0 16 5 j' = h 5 j' := cpy_oc h _ _ _ _ _ _ _ _ _ (by simp)
  refine u_aloadn (k := 0) rfl rfl ?_
  refine a_getr (k := 1) rfl fRX6_15 rfl rfl rfl ?_
  refine a_iconst (k := 2) rfl ?_
  refine u_aloadn (k := 3) rfl rfl ?_
  refine a_getr (k := 4) rfl fRX6_15 rfl rfl rfl ?_
  refine a_iconst (k := 5) rfl ?_
  refine a_bipush (k := 6) rfl ?_
  refine a_copy (k := 7) (sp := 0) (dp := 0) (n := 16) rfl nt_l6 rfl rfl rfl rfl (by decide) (by decide) (by decide) (by decide) ⟨by decide +kernel, by decide +kernel⟩ ?_
  refine u_aloadn (k := 8) rfl rfl ?_
  refine u_aloadn (k := 9) rfl rfl ?_
  refine a_geti (k := 10) rfl fRX6_19 rfl rfl ?_
  rw [e1]
  refine a_puti (k := 11) rfl pRX6_19 rfl rfl ?_
  refine u_aloadn (k := 12) rfl rfl ?_
  refine u_aloadn (k := 13) rfl rfl ?_
  refine a_geti (k := 14) rfl fRX6_27 rfl rfl ?_
  rw [put_ne (by simp), e1]
  refine a_puti (k := 15) rfl pRX6_27 rfl rfl ?_
  refine a_return (k := 16) rfl rfl ?_
  refine ⟨rfl, by simp only [put_apply, Nat.reduceEqDiff, reduceIte, false_and, and_false, true_and, and_true, and_self, if_false, if_true, not_false_eq_true, not_true_eq_false, ne_eq], by simp only [put_apply, Nat.reduceEqDiff, reduceIte, false_and, and_false, true_and, and_true, and_self, if_false, if_true, not_false_eq_true, not_true_eq_false, ne_eq], fun i hi => ?_, fun t i k h1 h2 => ?_⟩
  · simp only [put_apply, Nat.reduceEqDiff, reduceIte, false_and, and_false, true_and, and_true, and_self, if_false, if_true, not_false_eq_true, not_true_eq_false, ne_eq]; unfold cpy; rw [if_pos ⟨rfl, rfl, by omega, by omega⟩]; simp
  · simp only [List.mem_cons, Prod.mk.injEq, List.not_mem_nil, or_false, not_or] at h1
    rw [put_ne (fun q => h1.1 ⟨q.1, q.2.1⟩), put_ne (fun q => h1.1 ⟨q.1, q.2.1⟩), cpy_oc _ _ _ _ _ _ _ _ _ _ h1.2]
end
section
/-- the passes that stay when the crossings of S go -/
def kp (f : Nat → Nat) (S : Nat) : Nat → List Nat
  | 0 => []
  | n + 1 => if S.testBit (f n / 2) then kp f S n else kp f S n ++ [f n]
def fn (l : List Nat) (q : Nat) : Nat := l.getD q 0
theorem kp_len (f : Nat → Nat) (S : Nat) : ∀ n, (kp f S n).length ≤ n
  | 0 => Nat.le_refl 0
  | n + 1 => by
    have := kp_len f S n
    unfold kp
    split
    · omega
    · rw [List.length_append]; simp; omega
theorem fn_app1 {l : List Nat} {a q : Nat} (h : q < l.length) : fn (l ++ [a]) q = fn l q := by
  simp [fn, List.getD, List.getElem?_append_left h]
theorem fn_app2 {l : List Nat} {a : Nat} : fn (l ++ [a]) l.length = a := by
  simp [fn, List.getD]
theorem kp_lt {f : Nat → Nat} {S b : Nat} : ∀ {n : Nat}, (∀ i, i < n → f i < b) → ∀ q, q < (kp f S n).length → fn (kp f S n) q < b
  | 0, _, q, hq => absurd hq (Nat.not_lt_zero q)
  | n + 1, h, q, hq => by
    unfold kp at hq ⊢
    split at hq
    · rename_i hc
      rw [if_pos hc]
      exact kp_lt (fun i hi => h i (by omega)) q hq
    · rename_i hc
      rw [if_neg hc]
      rw [List.length_append] at hq
      simp at hq
      rcases Nat.lt_or_ge q (kp f S n).length with h1 | h1
      · rw [fn_app1 h1]
        exact kp_lt (fun i hi => h i (by omega)) q h1
      · have : q = (kp f S n).length := by omega
        subst this
        rw [fn_app2]
        exact h n (by omega)
/-- what Rope holds behind numberAnew: c crossings, the raw thread f, salt s -/
def RN (j c : Nat) (f : Nat → Nat) (s : Nat) (g : HH) : Prop := g 5 j 2 = (c : Int) ∧ g 5 j 3 = (rsl f s (2 * c) : Int) ∧ ∀ i, i < 2 * c → g 6 j i = (rn f i : Int)
theorem x_takeAway (j c s S : Nat) (f : Nat → Nat) (h : HH) (hc : h 5 j 2 = (c : Int)) (h8 : c ≤ 8) (hs : h 5 j 3 = (s : Int)) (hs2 : s < 256) (hf : ∀ i, i < 2 * c → h 6 j i = (f i : Int)) (hf2 : ∀ i, i < 2 * c → f i < 16) (hS : S < 2 ^ 31) :
    Sp mX6_takeAway [vr 5 j, vi S] h (fun r g => r = none ∧ RN j ((kp f S (2 * c)).length / 2) (fn (kp f S (2 * c))) s g ∧ Fr [(1, 0), (2, 0), (6, j), (5, j)] [] h g) := by
  refine Sp.of rfl kX6_takeAway (Nat.le_of_ble_eq_true rfl) ?_
  have L : ∀ (m n : Nat) (g : HH), n + m = 2 * c → (∀ i, i < (kp f S n).length → g 6 j i = (fn (kp f S n) i : Int)) → (∀ i, n ≤ i → i < 2 * c → g 6 j i = (f i : Int)) → Fr [(6, j)] [] h g →
      AW mX6_takeAway (fun r g => r = none ∧ RN j ((kp f S (2 * c)).length / 2) (fn (kp f S (2 * c))) s g ∧ Fr [(1, 0), (2, 0), (6, j), (5, j)] [] h g) 4 [(0, vr 5 j), (1, vi S), (2, vi ((kp f S n).length : Int)), (3, vi n)] [] g := by
    intro m
    induction m with
    | zero =>
      intro n g hn hp hq hF
      have hn : n = 2 * c := by omega
      subst hn
      have hc' : g 5 j 2 = (c : Int) := by rw [hF 5 j 2 (by simp) (by simp)]; exact hc
      have hs' : g 5 j 3 = (s : Int) := by rw [hF 5 j 3 (by simp) (by simp)]; exact hs
      have hl := kp_len f S (2 * c)
      refine u_iloadn (k := 4) rfl rfl ?_
      refine u_aloadn (k := 5) rfl rfl ?_
      refine i_virt0 (M' := mX6_length) (k := 6) rfl lRX6_23 oX6_length vX6_length ⟨Nat.le_of_ble_eq_true rfl, Nat.le_of_ble_eq_true rfl⟩ rfl rfl (Nat.le_of_ble_eq_true rfl) (x_length j c g hc' h8) ?_
      refine a_icmp_ge (k := 7) rfl (fun c_9 => ?_) (fun c_9 => ?_)
      · refine u_aloadn (k := 27) rfl rfl ?_
        refine u_iloadn (k := 28) rfl rfl ?_
        refine a_iconst (k := 29) rfl ?_
        refine u_idiv (k := 30) rfl (by omega) (by omega) ?_
        refine a_puti (k := 31) rfl pRX6_19 rfl rfl ?_
        refine u_aloadn (k := 32) rfl rfl ?_
        refine uv_virt0 (M' := mX6_numberAnew) (k := 33) rfl lRX6_61 oX6_numberAnew vX6_numberAnew ⟨Nat.le_of_ble_eq_true rfl, Nat.le_of_ble_eq_true rfl⟩ rfl rfl (Nat.le_of_ble_eq_true rfl) (x_numberAnew j ((kp f S (2 * c)).length / 2) s (fn (kp f S (2 * c))) _ (by rw [put_eq]; omega) (by omega) (by simp only [put_apply, Nat.reduceEqDiff, reduceIte, false_and, and_false, true_and, and_true, and_self, if_false, if_true, not_false_eq_true, not_true_eq_false, ne_eq]; exact hs') hs2 (fun i hi => by simp only [put_apply, Nat.reduceEqDiff, reduceIte, false_and, and_false, true_and, and_true, and_self, if_false, if_true, not_false_eq_true, not_true_eq_false, ne_eq]; exact hp i (by omega)) (fun i hi => kp_lt hf2 i (by omega))) (by intro r g hp; exact hp.1) (fun g1 hg1 => ?_)
        obtain ⟨-, a1, a2, a3, a4⟩ := hg1
        refine a_return (k := 34) rfl rfl ?_
        exact ⟨rfl, ⟨a1, a2, a3⟩, ((hF.mono (by simp) (by simp)).p1 (by simp)).tr a4 (by simp) (by simp)⟩
      · omega
    | succ m ih =>
      intro n g hn hp hq hF
      have hc' : g 5 j 2 = (c : Int) := by rw [hF 5 j 2 (by simp) (by simp)]; exact hc
      have hl := kp_len f S n
      have hfn := hf2 n (by omega)
      have e8 : f n / 2 % 8 = f n / 2 := by omega
      have e0 : tbi S (f n / 2) = if S.testBit (f n / 2) then 1 else 0 := rfl
      refine u_iloadn (k := 4) rfl rfl ?_
      refine u_aloadn (k := 5) rfl rfl ?_
      refine i_virt0 (M' := mX6_length) (k := 6) rfl lRX6_23 oX6_length vX6_length ⟨Nat.le_of_ble_eq_true rfl, Nat.le_of_ble_eq_true rfl⟩ rfl rfl (Nat.le_of_ble_eq_true rfl) (x_length j c g hc' h8) ?_
      refine a_icmp_ge (k := 7) rfl (fun c_9 => ?_) (fun c_9 => ?_)
      · omega
      · refine u_iloadn (k := 8) rfl rfl ?_
        refine u_aloadn (k := 9) rfl rfl ?_
        refine a_getr (k := 10) rfl fRX6_15 rfl rfl rfl ?_
        refine u_iloadn (k := 11) rfl rfl ?_
        refine u_iald (k := 12) rfl rfl rfl (by omega) ?_
        rw [hq n (by omega) (by omega)]
        refine i_statN1 (M' := mX10_crossingOf) (k := 13) rfl lRX6_50 oX10_crossingOf vX10_crossingOf ⟨Nat.le_of_ble_eq_true rfl, Nat.le_of_ble_eq_true rfl⟩ rfl (Nat.le_of_ble_eq_true rfl) (x_crossingOf (f n) g (by omega)) ?_
        rw [e8]
        refine i_statN2 (M' := mX10_isIn) (k := 14) rfl lRX6_57 oX10_isIn vX10_isIn ⟨Nat.le_of_ble_eq_true rfl, Nat.le_of_ble_eq_true rfl⟩ rfl (Nat.le_of_ble_eq_true rfl) (x_isIn S (f n / 2) g hS (by omega)) ?_
        refine a_if_ne (k := 15) rfl (fun c_25 => ?_) (fun c_25 => ?_)
        · have hb : S.testBit (f n / 2) = true := by rw [e0] at c_25; split at c_25 <;> simp_all
          have ek : kp f S (n + 1) = kp f S n := by simp [kp, hb]
          refine u_iinc (k := 25) (lv' := [(3, _), (0, _), (1, _), (2, _)]) rfl rfl (Nat.le_of_ble_eq_true rfl) (by omega) rfl ?_
          refine a_goto (k := 26) rfl ?_
          refine a_sub [1, 2, 3, 0] rfl ?_
          first | (have := ih (n + 1) g (by omega) (by rw [ek]; exact hp) (fun i h1 h2 => hq i (by omega) h2) hF; rw [ek] at this; exact this) | (have := ih (n + 1) (put g 6 j (kp f S n).length (f n : Int)) (by omega) (fun i hi => by rw [ek] at hi ⊢; rw [List.length_append] at hi; simp at hi; by_cases he : i = (kp f S n).length; (subst he; rw [put_eq, fn_app2]); (rw [put_ne (by simp [he]), fn_app1 (by omega)]; exact hp i (by omega))) (fun i h1 h2 => by rw [put_ne (by simp; omega)]; exact hq i (by omega) h2) (hF.p1 (by simp)); rw [ek, List.length_append] at this; exact this)
        · have hb : ¬ S.testBit (f n / 2) = true := by rw [e0] at c_25; split at c_25 <;> simp_all
          have ek : kp f S (n + 1) = kp f S n ++ [f n] := by simp [kp, hb]
          refine u_aloadn (k := 16) rfl rfl ?_
          refine a_getr (k := 17) rfl fRX6_15 rfl rfl rfl ?_
          refine u_iloadn (k := 18) rfl rfl ?_
          refine u_aloadn (k := 19) rfl rfl ?_
          refine a_getr (k := 20) rfl fRX6_15 rfl rfl rfl ?_
          refine u_iloadn (k := 21) rfl rfl ?_
          refine u_iald (k := 22) rfl rfl rfl (by omega) ?_
          rw [hq n (by omega) (by omega)]
          refine u_iast (k := 23) rfl rfl rfl (by omega) ?_
          refine u_iinc (k := 24) (lv' := [(2, _), (0, _), (1, _), (3, _)]) rfl rfl (Nat.le_of_ble_eq_true rfl) (by omega) rfl ?_
          refine u_iinc (k := 25) (lv' := [(3, _), (2, _), (0, _), (1, _)]) rfl rfl (Nat.le_of_ble_eq_true rfl) (by omega) rfl ?_
          refine a_goto (k := 26) rfl ?_
          refine a_sub [2, 3, 1, 0] rfl ?_
          first | (have := ih (n + 1) g (by omega) (by rw [ek]; exact hp) (fun i h1 h2 => hq i (by omega) h2) hF; rw [ek] at this; exact this) | (have := ih (n + 1) (put g 6 j (kp f S n).length (f n : Int)) (by omega) (fun i hi => by rw [ek] at hi ⊢; rw [List.length_append] at hi; simp at hi; by_cases he : i = (kp f S n).length; (subst he; rw [put_eq, fn_app2]); (rw [put_ne (by simp [he]), fn_app1 (by omega)]; exact hp i (by omega))) (fun i h1 h2 => by rw [put_ne (by simp; omega)]; exact hq i (by omega) h2) (hF.p1 (by simp)); rw [ek, List.length_append] at this; exact this)
  refine a_iconst (k := 0) rfl ?_
  refine a_istoren (k := 1) (lv' := [(2, _), (0, _), (1, _)]) rfl (Nat.le_of_ble_eq_true rfl) rfl ?_
  refine a_iconst (k := 2) rfl ?_
  refine a_istoren (k := 3) (lv' := [(3, _), (2, _), (0, _), (1, _)]) rfl (Nat.le_of_ble_eq_true rfl) rfl ?_
  refine a_sub [2, 3, 1, 0] rfl ?_
  exact L (2 * c) 0 h (by omega) (fun i hi => absurd hi (Nat.not_lt_zero i)) (fun i _ hi => hf i hi) Fr.rf
/-- a new crossing's passes ahead of pass a -/
def insf (f : Nat → Nat) (c a o : Nat) (q : Nat) : Nat := if q < a then f q else if q = a then 2 * c + o else if q = a + 1 then 2 * c + (1 - o) else f (q - 2)
theorem x_addCurl (j c s a o : Nat) (f : Nat → Nat) (h : HH) (hc : h 5 j 2 = (c : Int)) (h8 : c < 8) (hs : h 5 j 3 = (s : Int)) (hs2 : s < 256) (hf : ∀ i, i < 2 * c → h 6 j i = (f i : Int)) (hf2 : ∀ i, i < 2 * c → f i < 16) (ha : a ≤ 2 * c) (ho : o < 2) :
    Sp mX6_addCurl [vr 5 j, vi a, vi o] h (fun r g => r = none ∧ RN j (c + 1) (insf f c a o) s g ∧ Fr [(1, 0), (2, 0), (6, j), (5, j)] [] h g) := by
  refine Sp.of rfl kX6_addCurl (Nat.le_of_ble_eq_true rfl) ?_
  have fin : ∀ (g : HH), Fr [(6, j)] [] h g → (∀ i, i < a → g 6 j i = (f i : Int)) → (∀ i, a ≤ i → i < 2 * c → g 6 j (i + 2) = (f i : Int)) → AW mX6_addCurl (fun r g => r = none ∧ RN j (c + 1) (insf f c a o) s g ∧ Fr [(1, 0), (2, 0), (6, j), (5, j)] [] h g) 54 [(0, vr 5 j), (1, vi a), (2, vi o)] [] g := by
    intro g hF hp hq
    have hc' : g 5 j 2 = (c : Int) := by rw [hF 5 j 2 (by simp) (by simp)]; exact hc
    have hs' : g 5 j 3 = (s : Int) := by rw [hF 5 j 3 (by simp) (by simp)]; exact hs
    have fin2 : ∀ (g : HH), Fr [(6, j)] [] h g → (∀ i, i < 2 * (c + 1) → g 6 j i = (insf f c a o i : Int)) → AW mX6_addCurl (fun r g => r = none ∧ RN j (c + 1) (insf f c a o) s g ∧ Fr [(1, 0), (2, 0), (6, j), (5, j)] [] h g) 100 [(0, vr 5 j)] [] g := by
      intro g hF hp
      have hc' : g 5 j 2 = (c : Int) := by rw [hF 5 j 2 (by simp) (by simp)]; exact hc
      have hs' : g 5 j 3 = (s : Int) := by rw [hF 5 j 3 (by simp) (by simp)]; exact hs
      refine u_aloadn (k := 61) rfl rfl ?_
      refine a_dup (k := 62) rfl rfl ?_
      refine a_geti (k := 63) rfl fRX6_19 rfl rfl ?_
      refine a_iconst (k := 64) rfl ?_
      refine u_iadd (k := 65) rfl (by omega) ?_
      refine a_puti (k := 66) rfl pRX6_19 rfl rfl ?_
      refine u_aloadn (k := 67) rfl rfl ?_
      refine uv_virt0 (M' := mX6_numberAnew) (k := 68) rfl lRX6_61 oX6_numberAnew vX6_numberAnew ⟨Nat.le_of_ble_eq_true rfl, Nat.le_of_ble_eq_true rfl⟩ rfl rfl (Nat.le_of_ble_eq_true rfl) (x_numberAnew j (c + 1) s (insf f c a o) _ (by rw [put_eq]; omega) (by omega) (by simp only [put_apply, Nat.reduceEqDiff, reduceIte, false_and, and_false, true_and, and_true, and_self, if_false, if_true, not_false_eq_true, not_true_eq_false, ne_eq]; exact hs') hs2 (fun i hi => by simp only [put_apply, Nat.reduceEqDiff, reduceIte, false_and, and_false, true_and, and_true, and_self, if_false, if_true, not_false_eq_true, not_true_eq_false, ne_eq]; exact hp i hi) (fun i hi => by unfold insf; split; exact hf2 _ (by omega); split; omega; split; omega; exact hf2 _ (by omega))) (by intro r g hp; exact hp.1) (fun g1 hg1 => ?_)
      obtain ⟨-, a1, a2, a3, a4⟩ := hg1
      refine a_return (k := 69) rfl rfl ?_
      exact ⟨rfl, ⟨a1, a2, a3⟩, ((hF.mono (by simp) (by simp)).p1 (by simp)).tr a4 (by simp) (by simp)⟩
    have key : ∀ (v w : Int), v = 2 * c + o → w = 2 * c + (1 - o) → AW mX6_addCurl (fun r g => r = none ∧ RN j (c + 1) (insf f c a o) s g ∧ Fr [(1, 0), (2, 0), (6, j), (5, j)] [] h g) 100 [(0, vr 5 j)] [] (put (put g 6 j a v) 6 j (a + 1) w) := by
      intro v w hv hw
      refine fin2 _ ((hF.p1 (by simp)).p1 (by simp)) (fun i hi => ?_)
      unfold insf
      by_cases h1 : i = a + 1
      · subst h1; rw [put_eq, if_neg (by omega), if_neg (by omega), if_pos rfl]; omega
      · rw [put_ne (by simp [h1])]
        by_cases h2 : i = a
        · subst h2; rw [put_eq, if_neg (by omega), if_pos rfl]; omega
        · rw [put_ne (by simp [h2])]
          by_cases h3 : i < a
          · rw [if_pos h3]; exact hp i h3
          · rw [if_neg h3, if_neg h2, if_neg h1]
            have := hq (i - 2) (by omega) (by omega)
            rw [show i - 2 + 2 = i by omega] at this
            exact this
    refine u_aloadn (k := 31) rfl rfl ?_
    refine a_getr (k := 32) rfl fRX6_15 rfl rfl rfl ?_
    refine u_iloadn (k := 33) rfl rfl ?_
    refine a_iconst (k := 34) rfl ?_
    refine u_aloadn (k := 35) rfl rfl ?_
    refine a_geti (k := 36) rfl fRX6_19 rfl rfl ?_
    refine u_imul (k := 37) rfl (by omega) ?_
    refine u_iloadn (k := 38) rfl rfl ?_
    refine a_if_eq (k := 39) rfl (fun c_66 => ?_) (fun c_66 => ?_)
    · refine a_iconst (k := 42) rfl ?_
      refine u_iadd (k := 43) rfl (by omega) ?_
      refine u_iast (k := 44) rfl rfl rfl (by omega) ?_
      refine u_aloadn (k := 45) rfl rfl ?_
      refine a_getr (k := 46) rfl fRX6_15 rfl rfl rfl ?_
      refine u_iloadn (k := 47) rfl rfl ?_
      refine a_iconst (k := 48) rfl ?_
      refine u_iadd (k := 49) rfl (by omega) ?_
      refine a_iconst (k := 50) rfl ?_
      skip
      refine u_aloadn (k := 51) rfl rfl ?_
      skip
      refine a_geti (k := 52) rfl fRX6_19 rfl rfl ?_
      rw [put_ne (by simp)]
      refine u_imul (k := 53) rfl (by omega) ?_
      refine u_iloadn (k := 54) rfl rfl ?_
      refine a_if_eq (k := 55) rfl (fun c_90 => ?_) (fun c_90 => ?_)
      · refine a_iconst (k := 58) rfl ?_
        refine u_iadd (k := 59) rfl (by omega) ?_
        refine u_iastx (a + 1) (k := 60) rfl rfl rfl (by omega) (by omega) ?_
        refine a_sub [0] rfl ?_
        exact key _ _ (by omega) (by omega)
      · refine a_iconst (k := 56) rfl ?_
        refine a_goto (k := 57) rfl ?_
        refine u_iadd (k := 59) rfl (by omega) ?_
        refine u_iastx (a + 1) (k := 60) rfl rfl rfl (by omega) (by omega) ?_
        refine a_sub [0] rfl ?_
        exact key _ _ (by omega) (by omega)
    · refine a_iconst (k := 40) rfl ?_
      refine a_goto (k := 41) rfl ?_
      refine u_iadd (k := 43) rfl (by omega) ?_
      refine u_iast (k := 44) rfl rfl rfl (by omega) ?_
      refine u_aloadn (k := 45) rfl rfl ?_
      refine a_getr (k := 46) rfl fRX6_15 rfl rfl rfl ?_
      refine u_iloadn (k := 47) rfl rfl ?_
      refine a_iconst (k := 48) rfl ?_
      refine u_iadd (k := 49) rfl (by omega) ?_
      refine a_iconst (k := 50) rfl ?_
      skip
      refine u_aloadn (k := 51) rfl rfl ?_
      skip
      refine a_geti (k := 52) rfl fRX6_19 rfl rfl ?_
      rw [put_ne (by simp)]
      refine u_imul (k := 53) rfl (by omega) ?_
      refine u_iloadn (k := 54) rfl rfl ?_
      refine a_if_eq (k := 55) rfl (fun c_90 => ?_) (fun c_90 => ?_)
      · refine a_iconst (k := 58) rfl ?_
        refine u_iadd (k := 59) rfl (by omega) ?_
        refine u_iastx (a + 1) (k := 60) rfl rfl rfl (by omega) (by omega) ?_
        refine a_sub [0] rfl ?_
        exact key _ _ (by omega) (by omega)
      · refine a_iconst (k := 56) rfl ?_
        refine a_goto (k := 57) rfl ?_
        refine u_iadd (k := 59) rfl (by omega) ?_
        refine u_iastx (a + 1) (k := 60) rfl rfl rfl (by omega) (by omega) ?_
        refine a_sub [0] rfl ?_
        exact key _ _ (by omega) (by omega)
  have L : ∀ (m : Nat) (g : HH), m ≤ 2 * c → a ≤ m → Fr [(6, j)] [] h g → (∀ i, i < m → g 6 j i = (f i : Int)) → (∀ i, m ≤ i → i < 2 * c → g 6 j (i + 2) = (f i : Int)) → AW mX6_addCurl (fun r g => r = none ∧ RN j (c + 1) (insf f c a o) s g ∧ Fr [(1, 0), (2, 0), (6, j), (5, j)] [] h g) 29 [(0, vr 5 j), (1, vi a), (2, vi o), (3, vi ((m : Int) - 1))] [] g := by
    intro m
    induction m with
    | zero =>
      intro g h1 h2 hF hp hq
      refine u_iloadn (k := 16) rfl rfl ?_
      refine u_iloadn (k := 17) rfl rfl ?_
      refine a_icmp_lt (k := 18) rfl (fun c_31 => ?_) (fun c_31 => ?_)
      · refine a_sub [0, 1, 2] rfl ?_
        exact fin g hF (fun i hi => by omega) (fun i h3 h4 => hq i (by omega) h4)
      · omega
    | succ m ih =>
      intro g h1 h2 hF hp hq
      by_cases he : a = m + 1
      · refine u_iloadn (k := 16) rfl rfl ?_
        refine u_iloadn (k := 17) rfl rfl ?_
        refine a_icmp_lt (k := 18) rfl (fun c_31 => ?_) (fun c_31 => ?_)
        · refine a_sub [0, 1, 2] rfl ?_
          exact fin g hF (fun i hi => hp i (by omega)) (fun i h3 h4 => hq i (by omega) h4)
        · omega
      · have em : ((m + 1 : Nat) : Int) - 1 = (m : Int) := by omega
        rw [em]
        refine u_iloadn (k := 16) rfl rfl ?_
        refine u_iloadn (k := 17) rfl rfl ?_
        refine a_icmp_lt (k := 18) rfl (fun c_31 => ?_) (fun c_31 => ?_)
        · omega
        · refine u_aloadn (k := 19) rfl rfl ?_
          refine a_getr (k := 20) rfl fRX6_15 rfl rfl rfl ?_
          refine u_iloadn (k := 21) rfl rfl ?_
          refine a_iconst (k := 22) rfl ?_
          refine u_iadd (k := 23) rfl (by omega) ?_
          refine u_aloadn (k := 24) rfl rfl ?_
          refine a_getr (k := 25) rfl fRX6_15 rfl rfl rfl ?_
          refine u_iloadn (k := 26) rfl rfl ?_
          refine u_iald (k := 27) rfl rfl rfl (by omega) ?_
          rw [hp m (by omega)]
          refine u_iastx (m + 2) (k := 28) rfl rfl rfl (by omega) (by omega) ?_
          refine u_iinc (k := 29) (lv' := [(3, _), (0, _), (1, _), (2, _)]) rfl rfl (Nat.le_of_ble_eq_true rfl) (by omega) rfl ?_
          refine a_goto (k := 30) rfl ?_
          refine a_sub [1, 2, 3, 0] rfl ?_
          exact ih (put g 6 j (m + 2) (f m : Int)) (by omega) (by omega) (hF.p1 (by simp)) (fun i hi => by rw [put_ne (by simp; omega)]; exact hp i (by omega)) (fun i h3 h4 => by by_cases hm : i = m; (subst hm; rw [put_eq]); (rw [put_ne (by simp; omega)]; exact hq i (by omega) h4))
  refine u_iloadn (k := 0) rfl rfl ?_
  refine a_if_lt (k := 1) rfl (fun c_1 => ?_) (fun c_1 => ?_)
  · omega
  · refine u_iloadn (k := 2) rfl rfl ?_
    refine u_aloadn (k := 3) rfl rfl ?_
    refine i_virt0 (M' := mX6_length) (k := 4) rfl lRX6_23 oX6_length vX6_length ⟨Nat.le_of_ble_eq_true rfl, Nat.le_of_ble_eq_true rfl⟩ rfl rfl (Nat.le_of_ble_eq_true rfl) (x_length j c h hc (by omega)) ?_
    refine a_icmp_gt (k := 5) rfl (fun c_9 => ?_) (fun c_9 => ?_)
    · omega
    · refine u_aloadn (k := 6) rfl rfl ?_
      refine a_geti (k := 7) rfl fRX6_19 rfl rfl ?_
      refine a_bipush (k := 8) rfl ?_
      refine a_icmp_lt (k := 9) rfl (fun c_18 => ?_) (fun c_18 => ?_)
      · refine u_aloadn (k := 11) rfl rfl ?_
        refine i_virt0 (M' := mX6_length) (k := 12) rfl lRX6_23 oX6_length vX6_length ⟨Nat.le_of_ble_eq_true rfl, Nat.le_of_ble_eq_true rfl⟩ rfl rfl (Nat.le_of_ble_eq_true rfl) (x_length j c h hc (by omega)) ?_
        refine a_iconst (k := 13) rfl ?_
        refine u_isub (k := 14) rfl (by omega) ?_
        refine a_istoren (k := 15) (lv' := [(3, _), (0, _), (1, _), (2, _)]) rfl (Nat.le_of_ble_eq_true rfl) rfl ?_
        refine a_sub [1, 2, 3, 0] rfl ?_
        exact L (2 * c) h (Nat.le_refl _) ha Fr.rf hf (fun i h3 h4 => by omega)
      · omega
end
section
def swf (f : Nat → Nat) (S : Nat) (q : Nat) : Nat := f q ^^^ (if S.testBit (f q / 2) then 1 else 0)
theorem tbi_nat (S m : Nat) : tbi S m = ((if S.testBit m then 1 else 0 : Nat) : Int) := by unfold tbi; split <;> rfl
theorem x_switchSet (j c S : Nat) (f : Nat → Nat) (h : HH) (hc : h 5 j 2 = (c : Int)) (h8 : c ≤ 8) (hf : ∀ i, i < 2 * c → h 6 j i = (f i : Int)) (hf2 : ∀ i, i < 2 * c → f i < 16) (hS : S < 2 ^ 31) :
    Sp mX6_switchSet [vr 5 j, vi S] h (fun r g => r = none ∧ (∀ i, i < 2 * c → g 6 j i = (swf f S i : Int)) ∧ Fr [(6, j)] [] h g) := by
  refine Sp.of rfl kX6_switchSet (Nat.le_of_ble_eq_true rfl) ?_
  have L : ∀ (m n : Nat) (g : HH), n + m = 2 * c → (∀ i, i < n → g 6 j i = (swf f S i : Int)) → (∀ i, n ≤ i → i < 2 * c → g 6 j i = (f i : Int)) → Fr [(6, j)] [] h g →
      AW mX6_switchSet (fun r g => r = none ∧ (∀ i, i < 2 * c → g 6 j i = (swf f S i : Int)) ∧ Fr [(6, j)] [] h g) 2 [(0, vr 5 j), (1, vi S), (2, vi n)] [] g := by
    intro m
    induction m with
    | zero =>
      intro n g hn hp hq hF
      have hn : n = 2 * c := by omega
      subst hn
      have hc' : g 5 j 2 = (c : Int) := by rw [hF 5 j 2 (by simp) (by simp)]; exact hc
      refine u_iloadn (k := 2) rfl rfl ?_
      refine u_aloadn (k := 3) rfl rfl ?_
      refine i_virt0 (M' := mX6_length) (k := 4) rfl lRX6_23 oX6_length vX6_length ⟨Nat.le_of_ble_eq_true rfl, Nat.le_of_ble_eq_true rfl⟩ rfl rfl (Nat.le_of_ble_eq_true rfl) (x_length j c g hc' h8) ?_
      refine a_icmp_ge (k := 5) rfl (fun c_7 => ?_) (fun c_7 => ?_)
      · refine a_return (k := 24) rfl rfl ?_
        exact ⟨rfl, hp, hF⟩
      · omega
    | succ m ih =>
      intro n g hn hp hq hF
      have hc' : g 5 j 2 = (c : Int) := by rw [hF 5 j 2 (by simp) (by simp)]; exact hc
      have hfn := hf2 n (by omega)
      have e8 : f n / 2 % 8 = f n / 2 := by omega
      refine u_iloadn (k := 2) rfl rfl ?_
      refine u_aloadn (k := 3) rfl rfl ?_
      refine i_virt0 (M' := mX6_length) (k := 4) rfl lRX6_23 oX6_length vX6_length ⟨Nat.le_of_ble_eq_true rfl, Nat.le_of_ble_eq_true rfl⟩ rfl rfl (Nat.le_of_ble_eq_true rfl) (x_length j c g hc' h8) ?_
      refine a_icmp_ge (k := 5) rfl (fun c_7 => ?_) (fun c_7 => ?_)
      · omega
      · refine u_aloadn (k := 6) rfl rfl ?_
        refine a_getr (k := 7) rfl fRX6_15 rfl rfl rfl ?_
        refine u_iloadn (k := 8) rfl rfl ?_
        refine a_dup2 (k := 9) rfl rfl rfl ?_
        refine u_iald (k := 10) rfl rfl rfl (by omega) ?_
        rw [hq n (by omega) (by omega)]
        refine u_iloadn (k := 11) rfl rfl ?_
        refine u_aloadn (k := 12) rfl rfl ?_
        refine a_getr (k := 13) rfl fRX6_15 rfl rfl rfl ?_
        refine u_iloadn (k := 14) rfl rfl ?_
        refine u_iald (k := 15) rfl rfl rfl (by omega) ?_
        rw [hq n (by omega) (by omega)]
        refine i_statN1 (M' := mX10_crossingOf) (k := 16) rfl lRX6_50 oX10_crossingOf vX10_crossingOf ⟨Nat.le_of_ble_eq_true rfl, Nat.le_of_ble_eq_true rfl⟩ rfl (Nat.le_of_ble_eq_true rfl) (x_crossingOf (f n) g (by omega)) ?_
        rw [e8]
        refine a_ishr (k := 17) rfl ?_
        refine a_iconst (k := 18) rfl ?_
        refine a_iand (k := 19) rfl ?_
        rw [sab hS (by omega), tbi_nat]
        refine a_ixor (k := 20) rfl ?_
        rw [ixor_nat (by omega) (by split <;> omega)]
        refine u_iast (k := 21) rfl rfl rfl (by omega) ?_
        refine u_iinc (k := 22) (lv' := [(2, _), (0, _), (1, _)]) rfl rfl (Nat.le_of_ble_eq_true rfl) (by omega) rfl ?_
        refine a_goto (k := 23) rfl ?_
        refine a_sub [1, 2, 0] rfl ?_
        exact ih (n + 1) _ (by omega) (fun i hi => by by_cases he : i = n; (subst he; rw [put_eq, swf]); (rw [put_ne (by simp [he])]; exact hp i (by omega))) (fun i h1 h2 => by rw [put_ne (by simp; omega)]; exact hq i (by omega) h2) (hF.p1 (by simp))
  refine a_iconst (k := 0) rfl ?_
  refine a_istoren (k := 1) (lv' := [(2, _), (0, _), (1, _)]) rfl (Nat.le_of_ble_eq_true rfl) rfl ?_
  refine a_sub [1, 2, 0] rfl ?_
  exact L (2 * c) 0 h (by omega) (fun i hi => absurd hi (Nat.not_lt_zero i)) (fun i _ hi => hf i hi) Fr.rf
def rvf (f : Nat → Nat) (n q : Nat) : Nat := f (n - 1 - q)
theorem x_otherWay (j c s : Nat) (f : Nat → Nat) (h : HH) (hc : h 5 j 2 = (c : Int)) (h8 : c ≤ 8) (hs : h 5 j 3 = (s : Int)) (hs2 : s < 256) (hf : ∀ i, i < 2 * c → h 6 j i = (f i : Int)) (hf2 : ∀ i, i < 2 * c → f i < 16) :
    Sp mX6_goTheOtherWay [vr 5 j] h (fun r g => r = none ∧ RN j c (rvf f (2 * c)) s g ∧ Fr [(1, 0), (2, 0), (6, j), (5, j)] [] h g) := by
  refine Sp.of rfl kX6_goTheOtherWay (Nat.le_of_ble_eq_true rfl) ?_
  have L : ∀ (m n : Nat) (g : HH), n + m = c → (∀ i, i < n → g 6 j i = (f (2 * c - 1 - i) : Int)) → (∀ i, n ≤ i → i < 2 * c - n → g 6 j i = (f i : Int)) → (∀ i, 2 * c - n ≤ i → i < 2 * c → g 6 j i = (f (2 * c - 1 - i) : Int)) → Fr [(6, j)] [] h g →
      AW mX6_goTheOtherWay (fun r g => r = none ∧ RN j c (rvf f (2 * c)) s g ∧ Fr [(1, 0), (2, 0), (6, j), (5, j)] [] h g) 9 [(0, vr 5 j), (1, vi ((2 * c : Nat) - 1 : Int)), (2, vi n)] [] g := by
    intro m
    induction m with
    | zero =>
      intro n g hn hp hq hr hF
      have hn : n = c := by omega
      subst hn
      have hc' : g 5 j 2 = (n : Int) := by rw [hF 5 j 2 (by simp) (by simp)]; exact hc
      have hs' : g 5 j 3 = (s : Int) := by rw [hF 5 j 3 (by simp) (by simp)]; exact hs
      refine u_iloadn (k := 7) rfl rfl ?_
      refine u_aloadn (k := 8) rfl rfl ?_
      refine a_geti (k := 9) rfl fRX6_19 rfl rfl ?_
      refine a_icmp_ge (k := 10) rfl (fun c_14 => ?_) (fun c_14 => ?_)
      · refine u_aloadn (k := 35) rfl rfl ?_
        refine uv_virt0 (M' := mX6_numberAnew) (k := 36) rfl lRX6_61 oX6_numberAnew vX6_numberAnew ⟨Nat.le_of_ble_eq_true rfl, Nat.le_of_ble_eq_true rfl⟩ rfl rfl (Nat.le_of_ble_eq_true rfl) (x_numberAnew j n s (rvf f (2 * n)) g hc' h8 hs' hs2 (fun i hi => by unfold rvf; rcases Nat.lt_or_ge i n with q | q; exact hp i q; exact hr i (by omega) hi) (fun i hi => hf2 _ (by omega))) (by intro r g hp; exact hp.1) (fun g1 hg1 => ?_)
        obtain ⟨-, a1, a2, a3, a4⟩ := hg1
        refine a_return (k := 37) rfl rfl ?_
        exact ⟨rfl, ⟨a1, a2, a3⟩, (hF.mono (by simp) (by simp)).tr a4 (by simp) (by simp)⟩
      · omega
    | succ m ih =>
      intro n g hn hp hq hr hF
      have hc' : g 5 j 2 = (c : Int) := by rw [hF 5 j 2 (by simp) (by simp)]; exact hc
      refine u_iloadn (k := 7) rfl rfl ?_
      refine u_aloadn (k := 8) rfl rfl ?_
      refine a_geti (k := 9) rfl fRX6_19 rfl rfl ?_
      refine a_icmp_ge (k := 10) rfl (fun c_14 => ?_) (fun c_14 => ?_)
      · omega
      · refine u_aloadn (k := 11) rfl rfl ?_
        refine a_getr (k := 12) rfl fRX6_15 rfl rfl rfl ?_
        refine u_iloadn (k := 13) rfl rfl ?_
        refine u_iald (k := 14) rfl rfl rfl (by omega) ?_
        rw [hq n (by omega) (by omega)]
        refine a_istoren (k := 15) (lv' := [(3, _), (0, _), (1, _), (2, _)]) rfl (Nat.le_of_ble_eq_true rfl) rfl ?_
        refine u_aloadn (k := 16) rfl rfl ?_
        refine a_getr (k := 17) rfl fRX6_15 rfl rfl rfl ?_
        refine u_iloadn (k := 18) rfl rfl ?_
        refine u_aloadn (k := 19) rfl rfl ?_
        refine a_getr (k := 20) rfl fRX6_15 rfl rfl rfl ?_
        refine u_iloadn (k := 21) rfl rfl ?_
        refine u_iloadn (k := 22) rfl rfl ?_
        refine u_isub (k := 23) rfl (by omega) ?_
        refine u_ialdx (2 * c - 1 - n) (k := 24) rfl rfl rfl (by omega) (by omega) ?_
        rw [hq (2 * c - 1 - n) (by omega) (by omega)]
        refine u_iast (k := 25) rfl rfl rfl (by omega) ?_
        refine u_aloadn (k := 26) rfl rfl ?_
        refine a_getr (k := 27) rfl fRX6_15 rfl rfl rfl ?_
        refine u_iloadn (k := 28) rfl rfl ?_
        refine u_iloadn (k := 29) rfl rfl ?_
        refine u_isub (k := 30) rfl (by omega) ?_
        refine u_iloadn (k := 31) rfl rfl ?_
        refine u_iastx (2 * c - 1 - n) (k := 32) rfl rfl rfl (by omega) (by omega) ?_
        refine u_iinc (k := 33) (lv' := [(2, _), (3, _), (0, _), (1, _)]) rfl rfl (Nat.le_of_ble_eq_true rfl) (by omega) rfl ?_
        refine a_goto (k := 34) rfl ?_
        refine a_sub [2, 3, 0] rfl ?_
        refine ih (n + 1) _ (by omega) (fun i hi => ?_) (fun i h1 h2 => ?_) (fun i h1 h2 => ?_) ((hF.p1 (by simp)).p1 (by simp))
        · rw [put_ne (by simp; omega)]
          by_cases he : i = n
          · subst he; rw [put_eq]
          · rw [put_ne (by simp [he])]; exact hp i (by omega)
        · rw [put_ne (by simp; omega), put_ne (by simp; omega)]; exact hq i (by omega) (by omega)
        · by_cases he : i = 2 * c - 1 - n
          · subst he; rw [put_eq]; congr 2; omega
          · rw [put_ne (by simp [he]), put_ne (by simp; omega)]; exact hr i (by omega) h2
  refine u_aloadn (k := 0) rfl rfl ?_
  refine i_virt0 (M' := mX6_length) (k := 1) rfl lRX6_23 oX6_length vX6_length ⟨Nat.le_of_ble_eq_true rfl, Nat.le_of_ble_eq_true rfl⟩ rfl rfl (Nat.le_of_ble_eq_true rfl) (x_length j c h hc h8) ?_
  refine a_iconst (k := 2) rfl ?_
  refine u_isub (k := 3) rfl (by omega) ?_
  refine a_istoren (k := 4) (lv' := [(1, _), (0, _)]) rfl (Nat.le_of_ble_eq_true rfl) rfl ?_
  refine a_iconst (k := 5) rfl ?_
  refine a_istoren (k := 6) (lv' := [(2, _), (1, _), (0, _)]) rfl (Nat.le_of_ble_eq_true rfl) rfl ?_
  refine a_sub [2, 1, 0] rfl ?_
  exact L c 0 h (by omega) (fun i hi => absurd hi (Nat.not_lt_zero i)) (fun i _ hi => hf i (by omega)) (fun i h1 h2 => by omega) Fr.rf
def rlf (f : Nat → Nat) (n q : Nat) : Nat := if q + 1 < n then f (q + 1) else f 0
theorem x_rollOnce (j c s : Nat) (f : Nat → Nat) (h : HH) (hc : h 5 j 2 = (c : Int)) (h8 : c ≤ 8) (hs : h 5 j 3 = (s : Int)) (hs2 : s < 256) (hf : ∀ i, i < 2 * c → h 6 j i = (f i : Int)) (hf2 : ∀ i, i < 2 * c → f i < 16) :
    Sp mX6_rollOnce [vr 5 j] h (fun r g => r = none ∧ RN j c (rlf f (2 * c)) s g ∧ Fr [(1, 0), (2, 0), (6, j), (5, j)] [] h g) := by
  refine Sp.of rfl kX6_rollOnce (Nat.le_of_ble_eq_true rfl) ?_
  have F1 : ∀ (g : HH), Fr [(6, j)] [] h g → (∀ i, i < 2 * c → g 6 j i = (rlf f (2 * c) i : Int)) → AW mX6_rollOnce (fun r g => r = none ∧ RN j c (rlf f (2 * c)) s g ∧ Fr [(1, 0), (2, 0), (6, j), (5, j)] [] h g) 56 [(0, vr 5 j)] [] g := by
    intro g hF hp
    have hc' : g 5 j 2 = (c : Int) := by rw [hF 5 j 2 (by simp) (by simp)]; exact hc
    have hs' : g 5 j 3 = (s : Int) := by rw [hF 5 j 3 (by simp) (by simp)]; exact hs
    refine u_aloadn (k := 34) rfl rfl ?_
    refine uv_virt0 (M' := mX6_numberAnew) (k := 35) rfl lRX6_61 oX6_numberAnew vX6_numberAnew ⟨Nat.le_of_ble_eq_true rfl, Nat.le_of_ble_eq_true rfl⟩ rfl rfl (Nat.le_of_ble_eq_true rfl) (x_numberAnew j c s (rlf f (2 * c)) g hc' h8 hs' hs2 hp (fun i hi => by unfold rlf; split <;> exact hf2 _ (by omega))) (by intro r g hp; exact hp.1) (fun g1 hg1 => ?_)
    obtain ⟨-, a1, a2, a3, a4⟩ := hg1
    refine a_return (k := 36) rfl rfl ?_
    exact ⟨rfl, ⟨a1, a2, a3⟩, (hF.mono (by simp) (by simp)).tr a4 (by simp) (by simp)⟩
  have L : ∀ (m n : Nat) (g : HH), n + m = 2 * c → 0 < n → (∀ i, i + 1 < n → g 6 j i = (f (i + 1) : Int)) → (∀ i, n ≤ i → i < 2 * c → g 6 j i = (f i : Int)) → Fr [(6, j)] [] h g →
      AW mX6_rollOnce (fun r g => r = none ∧ RN j c (rlf f (2 * c)) s g ∧ Fr [(1, 0), (2, 0), (6, j), (5, j)] [] h g) 9 [(0, vr 5 j), (1, vi (f 0)), (2, vi n)] [] g := by
    intro m
    induction m with
    | zero =>
      intro n g hn h0 hp hq hF
      have hn : n = 2 * c := by omega
      subst hn
      have hc' : g 5 j 2 = (c : Int) := by rw [hF 5 j 2 (by simp) (by simp)]; exact hc
      refine u_iloadn (k := 7) rfl rfl ?_
      refine u_aloadn (k := 8) rfl rfl ?_
      refine i_virt0 (M' := mX6_length) (k := 9) rfl lRX6_23 oX6_length vX6_length ⟨Nat.le_of_ble_eq_true rfl, Nat.le_of_ble_eq_true rfl⟩ rfl rfl (Nat.le_of_ble_eq_true rfl) (x_length j c g hc' h8) ?_
      refine a_icmp_ge (k := 10) rfl (fun c_14 => ?_) (fun c_14 => ?_)
      · refine u_aloadn (k := 23) rfl rfl ?_
        refine a_geti (k := 24) rfl fRX6_19 rfl rfl ?_
        refine a_if_le (k := 25) rfl (fun c_41 => ?_) (fun c_41 => ?_)
        · omega
        · refine u_aloadn (k := 26) rfl rfl ?_
          refine a_getr (k := 27) rfl fRX6_15 rfl rfl rfl ?_
          refine u_aloadn (k := 28) rfl rfl ?_
          refine i_virt0 (M' := mX6_length) (k := 29) rfl lRX6_23 oX6_length vX6_length ⟨Nat.le_of_ble_eq_true rfl, Nat.le_of_ble_eq_true rfl⟩ rfl rfl (Nat.le_of_ble_eq_true rfl) (x_length j c g hc' h8) ?_
          refine a_iconst (k := 30) rfl ?_
          refine u_isub (k := 31) rfl (by omega) ?_
          refine u_iloadn (k := 32) rfl rfl ?_
          refine u_iastx (2 * c - 1) (k := 33) rfl rfl rfl (by omega) (by omega) ?_
          refine a_sub [0] rfl ?_
          exact F1 _ (hF.p1 (by simp)) (fun i hi => by unfold rlf; by_cases he : i = 2 * c - 1; (subst he; rw [put_eq, if_neg (by omega)]); (rw [put_ne (by simp [he]), if_pos (by omega)]; exact hp i (by omega)))
      · omega
    | succ m ih =>
      intro n g hn h0 hp hq hF
      have hc' : g 5 j 2 = (c : Int) := by rw [hF 5 j 2 (by simp) (by simp)]; exact hc
      refine u_iloadn (k := 7) rfl rfl ?_
      refine u_aloadn (k := 8) rfl rfl ?_
      refine i_virt0 (M' := mX6_length) (k := 9) rfl lRX6_23 oX6_length vX6_length ⟨Nat.le_of_ble_eq_true rfl, Nat.le_of_ble_eq_true rfl⟩ rfl rfl (Nat.le_of_ble_eq_true rfl) (x_length j c g hc' h8) ?_
      refine a_icmp_ge (k := 10) rfl (fun c_14 => ?_) (fun c_14 => ?_)
      · omega
      · refine u_aloadn (k := 11) rfl rfl ?_
        refine a_getr (k := 12) rfl fRX6_15 rfl rfl rfl ?_
        refine u_iloadn (k := 13) rfl rfl ?_
        refine a_iconst (k := 14) rfl ?_
        refine u_isub (k := 15) rfl (by omega) ?_
        refine u_aloadn (k := 16) rfl rfl ?_
        refine a_getr (k := 17) rfl fRX6_15 rfl rfl rfl ?_
        refine u_iloadn (k := 18) rfl rfl ?_
        refine u_iald (k := 19) rfl rfl rfl (by omega) ?_
        rw [hq n (by omega) (by omega)]
        refine u_iastx (n - 1) (k := 20) rfl rfl rfl (by omega) (by omega) ?_
        refine u_iinc (k := 21) (lv' := [(2, _), (0, _), (1, _)]) rfl rfl (Nat.le_of_ble_eq_true rfl) (by omega) rfl ?_
        refine a_goto (k := 22) rfl ?_
        refine a_sub [1, 2, 0] rfl ?_
        exact ih (n + 1) _ (by omega) (by omega) (fun i hi => by by_cases he : i = n - 1; (subst he; rw [put_eq]; congr 2; omega); (rw [put_ne (by simp [he])]; exact hp i (by omega))) (fun i h1 h2 => by rw [put_ne (by simp; omega)]; exact hq i (by omega) h2) (hF.p1 (by simp))
  by_cases hc0 : c = 0
  · subst hc0
    refine u_aloadn (k := 0) rfl rfl ?_
    refine a_getr (k := 1) rfl fRX6_15 rfl rfl rfl ?_
    refine a_iconst (k := 2) rfl ?_
    refine u_ialdx 0 (k := 3) rfl rfl rfl (by omega) (by omega) ?_
    refine a_istoren (k := 4) (lv' := [(1, _), (0, _)]) rfl (Nat.le_of_ble_eq_true rfl) rfl ?_
    refine a_iconst (k := 5) rfl ?_
    refine a_istoren (k := 6) (lv' := [(2, _), (1, _), (0, _)]) rfl (Nat.le_of_ble_eq_true rfl) rfl ?_
    refine u_iloadn (k := 7) rfl rfl ?_
    refine u_aloadn (k := 8) rfl rfl ?_
    refine i_virt0 (M' := mX6_length) (k := 9) rfl lRX6_23 oX6_length vX6_length ⟨Nat.le_of_ble_eq_true rfl, Nat.le_of_ble_eq_true rfl⟩ rfl rfl (Nat.le_of_ble_eq_true rfl) (x_length j 0 h hc h8) ?_
    refine a_icmp_ge (k := 10) rfl (fun c_14 => ?_) (fun c_14 => ?_)
    · refine u_aloadn (k := 23) rfl rfl ?_
      refine a_geti (k := 24) rfl fRX6_19 rfl rfl ?_
      refine a_if_le (k := 25) rfl (fun c_41 => ?_) (fun c_41 => ?_)
      · refine a_sub [2] rfl ?_
        exact F1 h Fr.rf (fun i hi => by omega)
      · omega
    · omega
  · refine u_aloadn (k := 0) rfl rfl ?_
    refine a_getr (k := 1) rfl fRX6_15 rfl rfl rfl ?_
    refine a_iconst (k := 2) rfl ?_
    refine u_ialdx 0 (k := 3) rfl rfl rfl (by omega) (by omega) ?_
    rw [hf 0 (by omega)]
    refine a_istoren (k := 4) (lv' := [(1, _), (0, _)]) rfl (Nat.le_of_ble_eq_true rfl) rfl ?_
    refine a_iconst (k := 5) rfl ?_
    refine a_istoren (k := 6) (lv' := [(2, _), (1, _), (0, _)]) rfl (Nat.le_of_ble_eq_true rfl) rfl ?_
    refine a_sub [2, 1, 0] rfl ?_
    exact L (2 * c - 1) 1 h (by omega) (by omega) (fun i hi => by omega) (fun i _ hi => hf i hi) Fr.rf
def apf (f f2 : Nat → Nat) (c q : Nat) : Nat := if q < 2 * c then f q else f2 (q - 2 * c) + 2 * c
theorem x_append (j c s j2 c2 s2 : Nat) (f f2 : Nat → Nat) (h : HH) (hne : j ≠ j2) (hc : h 5 j 2 = (c : Int)) (hs : h 5 j 3 = (s : Int)) (hs2 : s < 256) (hf : ∀ i, i < 2 * c → h 6 j i = (f i : Int)) (hc2 : h 5 j2 2 = (c2 : Int)) (h82 : c + c2 ≤ 8) (hss : h 5 j2 3 = (s2 : Int)) (hss2 : s2 < 256) (hf2 : ∀ i, i < 2 * c2 → h 6 j2 i = (f2 i : Int)) (hf22 : ∀ i, i < 2 * c2 → f2 i < 16) :
    Sp mX6_append [vr 5 j, vr 5 j2] h (fun r g => r = none ∧ g 5 j 2 = ((c + c2 : Nat) : Int) ∧ g 5 j 3 = ((s ||| s2 <<< c : Nat) : Int) ∧ (∀ i, i < 2 * (c + c2) → g 6 j i = (apf f f2 c i : Int)) ∧ Fr [(6, j), (5, j)] [] h g) := by
  refine Sp.of rfl kX6_append (Nat.le_of_ble_eq_true rfl) ?_
  have hpw : 2 ^ c ≤ 2 ^ 8 := Nat.pow_le_pow_right (by omega) (by omega)
  have hsm : s2 * 2 ^ c < 2 ^ 31 := Nat.lt_of_lt_of_le (Nat.mul_lt_mul_of_lt_of_le hss2 hpw (by omega)) (by omega)
  have esl : ior (s : Int) (ishl (s2 : Int) (c : Int)) = ((s ||| s2 <<< c : Nat) : Int) := by
    rw [ishl_nat hsm (by omega), ior_nat (by omega) (by rw [Nat.shiftLeft_eq]; exact hsm)]
  have L : ∀ (m n : Nat) (g : HH), n + m = 2 * c2 → (∀ i, i < n → g 6 j (2 * c + i) = (f2 i + 2 * c : Int)) → (∀ i, i < 2 * c → g 6 j i = (f i : Int)) → Fr [(6, j)] [] h g →
      AW mX6_append (fun r g => r = none ∧ g 5 j 2 = ((c + c2 : Nat) : Int) ∧ g 5 j 3 = ((s ||| s2 <<< c : Nat) : Int) ∧ (∀ i, i < 2 * (c + c2) → g 6 j i = (apf f f2 c i : Int)) ∧ Fr [(6, j), (5, j)] [] h g) 17 [(0, vr 5 j), (1, vr 5 j2), (2, vi n)] [] g := by
    intro m
    induction m with
    | zero =>
      intro n g hn hp hq hF
      have hn : n = 2 * c2 := by omega
      subst hn
      have h1 : g 5 j 2 = (c : Int) := by rw [hF 5 j 2 (by simp) (by simp)]; exact hc
      have h2 : g 5 j2 2 = (c2 : Int) := by rw [hF 5 j2 2 (by simp) (by simp)]; exact hc2
      have h3 : g 5 j 3 = (s : Int) := by rw [hF 5 j 3 (by simp) (by simp)]; exact hs
      have h4 : g 5 j2 3 = (s2 : Int) := by rw [hF 5 j2 3 (by simp) (by simp)]; exact hss
      refine u_iloadn (k := 10) rfl rfl ?_
      refine u_aloadn (k := 11) rfl rfl ?_
      refine i_virt0 (M' := mX6_length) (k := 12) rfl lRX6_23 oX6_length vX6_length ⟨Nat.le_of_ble_eq_true rfl, Nat.le_of_ble_eq_true rfl⟩ rfl rfl (Nat.le_of_ble_eq_true rfl) (x_length j2 c2 g h2 (by omega)) ?_
      refine a_icmp_ge (k := 13) rfl (fun c_22 => ?_) (fun c_22 => ?_)
      · refine u_aloadn (k := 32) rfl rfl ?_
        refine a_dup (k := 33) rfl rfl ?_
        refine a_geti (k := 34) rfl fRX6_27 rfl rfl ?_
        refine u_aloadn (k := 35) rfl rfl ?_
        refine a_geti (k := 36) rfl fRX6_27 rfl rfl ?_
        refine u_aloadn (k := 37) rfl rfl ?_
        refine a_geti (k := 38) rfl fRX6_19 rfl rfl ?_
        refine a_ishl (k := 39) rfl ?_
        refine a_ior (k := 40) rfl ?_
        rw [h3, h4, h1, esl]
        refine a_puti (k := 41) rfl pRX6_27 rfl rfl ?_
        refine u_aloadn (k := 42) rfl rfl ?_
        refine a_dup (k := 43) rfl rfl ?_
        refine a_geti (k := 44) rfl fRX6_19 rfl rfl ?_
        refine u_aloadn (k := 45) rfl rfl ?_
        refine a_geti (k := 46) rfl fRX6_19 rfl rfl ?_
        rw [put_ne (by simp), put_ne (by simp), h1, h2]
        refine u_iadd (k := 47) rfl (by omega) ?_
        refine a_puti (k := 48) rfl pRX6_19 rfl rfl ?_
        refine a_return (k := 49) rfl rfl ?_
        refine ⟨rfl, by rw [put_eq]; rfl, by rw [put_ne (by simp), put_eq], fun i hi => ?_, ((hF.mono (by simp) (by simp)).p1 (by simp)).p1 (by simp)⟩
        rw [put_ne (by simp), put_ne (by simp)]
        unfold apf
        split
        · exact hq i (by omega)
        · have := hp (i - 2 * c) (by omega)
          rw [show 2 * c + (i - 2 * c) = i by omega] at this
          rw [this]; push_cast; rfl
      · omega
    | succ m ih =>
      intro n g hn hp hq hF
      have h1 : g 5 j 2 = (c : Int) := by rw [hF 5 j 2 (by simp) (by simp)]; exact hc
      have h2 : g 5 j2 2 = (c2 : Int) := by rw [hF 5 j2 2 (by simp) (by simp)]; exact hc2
      have h5 : g 6 j2 n = (f2 n : Int) := by rw [hF 6 j2 n (by simp; omega) (by simp)]; exact hf2 n (by omega)
      have h6 := hf22 n (by omega)
      refine u_iloadn (k := 10) rfl rfl ?_
      refine u_aloadn (k := 11) rfl rfl ?_
      refine i_virt0 (M' := mX6_length) (k := 12) rfl lRX6_23 oX6_length vX6_length ⟨Nat.le_of_ble_eq_true rfl, Nat.le_of_ble_eq_true rfl⟩ rfl rfl (Nat.le_of_ble_eq_true rfl) (x_length j2 c2 g h2 (by omega)) ?_
      refine a_icmp_ge (k := 13) rfl (fun c_22 => ?_) (fun c_22 => ?_)
      · omega
      · refine u_aloadn (k := 14) rfl rfl ?_
        refine a_getr (k := 15) rfl fRX6_15 rfl rfl rfl ?_
        refine u_aloadn (k := 16) rfl rfl ?_
        refine i_virt0 (M' := mX6_length) (k := 17) rfl lRX6_23 oX6_length vX6_length ⟨Nat.le_of_ble_eq_true rfl, Nat.le_of_ble_eq_true rfl⟩ rfl rfl (Nat.le_of_ble_eq_true rfl) (x_length j c g h1 (by omega)) ?_
        refine u_iloadn (k := 18) rfl rfl ?_
        refine u_iadd (k := 19) rfl (by omega) ?_
        refine u_aloadn (k := 20) rfl rfl ?_
        refine a_getr (k := 21) rfl fRX6_15 rfl rfl rfl ?_
        refine u_iloadn (k := 22) rfl rfl ?_
        refine u_iald (k := 23) rfl rfl rfl (by omega) ?_
        rw [h5]
        refine a_iconst (k := 24) rfl ?_
        refine u_aloadn (k := 25) rfl rfl ?_
        refine a_geti (k := 26) rfl fRX6_19 rfl rfl ?_
        rw [h1]
        refine u_imul (k := 27) rfl (by omega) ?_
        refine u_iadd (k := 28) rfl (by omega) ?_
        refine u_iastx (2 * c + n) (k := 29) rfl rfl rfl (by omega) (by omega) ?_
        refine u_iinc (k := 30) (lv' := [(2, _), (0, _), (1, _)]) rfl rfl (Nat.le_of_ble_eq_true rfl) (by omega) rfl ?_
        refine a_goto (k := 31) rfl ?_
        refine a_sub [1, 2, 0] rfl ?_
        exact ih (n + 1) _ (by omega) (fun i hi => by by_cases he : i = n; (subst he; rw [put_eq]); (rw [put_ne (by simp; omega)]; exact hp i (by omega))) (fun i hi => by rw [put_ne (by simp; omega)]; exact hq i hi) (hF.p1 (by simp))
  refine u_aloadn (k := 0) rfl rfl ?_
  refine a_geti (k := 1) rfl fRX6_19 rfl rfl ?_
  refine u_aloadn (k := 2) rfl rfl ?_
  refine a_geti (k := 3) rfl fRX6_19 rfl rfl ?_
  refine u_iadd (k := 4) rfl (by omega) ?_
  refine a_bipush (k := 5) rfl ?_
  refine a_icmp_le (k := 6) rfl (fun c_11 => ?_) (fun c_11 => ?_)
  · refine a_iconst (k := 8) rfl ?_
    refine a_istoren (k := 9) (lv' := [(2, _), (0, _), (1, _)]) rfl (Nat.le_of_ble_eq_true rfl) rfl ?_
    refine a_sub [1, 2, 0] rfl ?_
    exact L (2 * c2) 0 h (by omega) (fun i hi => absurd hi (Nat.not_lt_zero i)) hf Fr.rf
  · omega
/-- crossings that lie in d: n passes along, between (b) and the set -/
def lyb (f : Nat → Nat) (d : Nat) : Nat → Bool
  | 0 => false
  | n + 1 => if f n / 2 = d then !(lyb f d n) else lyb f d n
def lys (f : Nat → Nat) (d : Nat) : Nat → Nat
  | 0 => 0
  | n + 1 => if f n / 2 = d then lys f d n else if lyb f d n then lys f d n ^^^ 2 ^ (f n / 2) else lys f d n
theorem lys_lt {f : Nat → Nat} {d b : Nat} : ∀ {n : Nat}, (∀ i, i < n → f i < 2 * b) → lys f d n < 2 ^ b
  | 0, _ => Nat.pow_pos (by omega)
  | n + 1, h => by
    have h1 := lys_lt (d := d) (fun i hi => h i (Nat.lt_succ_of_lt hi))
    unfold lys
    split
    · exact h1
    · split
      · exact Nat.xor_lt_two_pow h1 (Nat.pow_lt_pow_right (by omega) (by have := h n (by omega); omega))
      · exact h1
def b01 (b : Bool) : Int := if b then 1 else 0
theorem x_lyingIn (j c d : Nat) (f : Nat → Nat) (h : HH) (hc : h 5 j 2 = (c : Int)) (h8 : c ≤ 8) (hf : ∀ i, i < 2 * c → h 6 j i = (f i : Int)) (hf2 : ∀ i, i < 2 * c → f i < 16) :
    SpI mX6_lyingIn [vr 5 j, vi d] h (lys f d (2 * c)) h := by
  refine Sp.of rfl kX6_lyingIn (Nat.le_of_ble_eq_true rfl) ?_
  have L : ∀ (m n : Nat), n + m = 2 * c → AW mX6_lyingIn (fun r g => r = some (vi (lys f d (2 * c))) ∧ g = h) 7 [(0, vr 5 j), (1, vi d), (2, vi (lys f d n)), (3, vi (b01 (lyb f d n))), (4, vi n)] [] h := by
    intro m
    induction m with
    | zero =>
      intro n hn
      have hn : n = 2 * c := by omega
      subst hn
      refine u_iload (k := 6) rfl rfl ?_
      refine u_aloadn (k := 7) rfl rfl ?_
      refine i_virt0 (M' := mX6_length) (k := 8) rfl lRX6_23 oX6_length vX6_length ⟨Nat.le_of_ble_eq_true rfl, Nat.le_of_ble_eq_true rfl⟩ rfl rfl (Nat.le_of_ble_eq_true rfl) (x_length j c h hc h8) ?_
      refine a_icmp_ge (k := 9) rfl (fun c_13 => ?_) (fun c_13 => ?_)
      · refine u_iloadn (k := 36) rfl rfl ?_
        refine a_ireturn (k := 37) rfl rfl ?_
        exact ⟨rfl, rfl⟩
      · omega
    | succ m ih =>
      intro n hn
      have hfn := hf2 n (by omega)
      have e8 : f n / 2 % 8 = f n / 2 := by omega
      have hl := lys_lt (f := f) (d := d) (b := 8) (n := n) (fun i hi => by have := hf2 i (by omega); omega)
      have ih := ih (n + 1) (by omega)
      refine u_iload (k := 6) rfl rfl ?_
      refine u_aloadn (k := 7) rfl rfl ?_
      refine i_virt0 (M' := mX6_length) (k := 8) rfl lRX6_23 oX6_length vX6_length ⟨Nat.le_of_ble_eq_true rfl, Nat.le_of_ble_eq_true rfl⟩ rfl rfl (Nat.le_of_ble_eq_true rfl) (x_length j c h hc h8) ?_
      refine a_icmp_ge (k := 9) rfl (fun c_13 => ?_) (fun c_13 => ?_)
      · omega
      · refine u_aloadn (k := 10) rfl rfl ?_
        refine a_getr (k := 11) rfl fRX6_15 rfl rfl rfl ?_
        refine u_iload (k := 12) rfl rfl ?_
        refine u_iald (k := 13) rfl rfl rfl (by omega) ?_
        rw [hf n (by omega)]
        refine i_statN1 (M' := mX10_crossingOf) (k := 14) rfl lRX6_50 oX10_crossingOf vX10_crossingOf ⟨Nat.le_of_ble_eq_true rfl, Nat.le_of_ble_eq_true rfl⟩ rfl (Nat.le_of_ble_eq_true rfl) (x_crossingOf (f n) h (by omega)) ?_
        rw [e8]
        refine a_istore (k := 15) (lv' := [(5, _), (0, _), (1, _), (2, _), (3, _), (4, _)]) rfl (Nat.le_of_ble_eq_true rfl) rfl ?_
        refine u_iload (k := 16) rfl rfl ?_
        refine u_iloadn (k := 17) rfl rfl ?_
        refine a_icmp_ne (k := 18) rfl (fun c_31 => ?_) (fun c_31 => ?_)
        · have hne : ¬ f n / 2 = d := by omega
          have e1 : lys f d (n + 1) = if lyb f d n then lys f d n ^^^ 2 ^ (f n / 2) else lys f d n := by simp [lys, hne]
          have e2 : lyb f d (n + 1) = lyb f d n := by simp [lyb, hne]
          rw [e1, e2] at ih
          refine u_iloadn (k := 26) rfl rfl ?_
          refine a_if_eq (k := 27) rfl (fun c_48 => ?_) (fun c_48 => ?_)
          · refine u_iinc (k := 34) (lv' := [(4, _), (5, _), (0, _), (1, _), (2, _), (3, _)]) rfl rfl (Nat.le_of_ble_eq_true rfl) (by omega) rfl ?_
            refine a_goto (k := 35) rfl ?_
            refine a_sub [2, 3, 4, 5, 0] rfl ?_
            cases hb : lyb f d n <;> simp only [hb, b01, Bool.not_true, Bool.not_false, Bool.false_eq_true, if_true, if_false, reduceIte, not_true_eq_false] at * <;> first | exact ih | omega
          · refine u_iloadn (k := 28) rfl rfl ?_
            refine a_iconst (k := 29) rfl ?_
            refine u_iload (k := 30) rfl rfl ?_
            refine a_ishl (k := 31) rfl ?_
            refine a_ixor (k := 32) rfl ?_
            rw [shl1 (by omega), ixor_nat (by omega) (Nat.pow_lt_pow_right (by omega) (by omega))]
            refine a_istoren (k := 33) (lv' := [(2, _), (5, _), (0, _), (1, _), (3, _), (4, _)]) rfl (Nat.le_of_ble_eq_true rfl) rfl ?_
            refine u_iinc (k := 34) (lv' := [(4, _), (2, _), (5, _), (0, _), (1, _), (3, _)]) rfl rfl (Nat.le_of_ble_eq_true rfl) (by omega) rfl ?_
            refine a_goto (k := 35) rfl ?_
            refine a_sub [3, 4, 1, 5, 0] rfl ?_
            cases hb : lyb f d n <;> simp only [hb, b01, Bool.not_true, Bool.not_false, Bool.false_eq_true, if_true, if_false, reduceIte, not_true_eq_false] at * <;> first | exact ih | omega
        · have heq : f n / 2 = d := by omega
          have e1 : lys f d (n + 1) = lys f d n := by simp [lys, heq]
          have e2 : lyb f d (n + 1) = !lyb f d n := by simp [lyb, heq]
          rw [e1, e2] at ih
          refine u_iloadn (k := 19) rfl rfl ?_
          refine a_if_ne (k := 20) rfl (fun c_35 => ?_) (fun c_35 => ?_)
          · refine a_iconst (k := 23) rfl ?_
            refine a_istoren (k := 24) (lv' := [(3, _), (5, _), (0, _), (1, _), (2, _), (4, _)]) rfl (Nat.le_of_ble_eq_true rfl) rfl ?_
            refine a_goto (k := 25) rfl ?_
            refine u_iinc (k := 34) (lv' := [(4, _), (3, _), (5, _), (0, _), (1, _), (2, _)]) rfl rfl (Nat.le_of_ble_eq_true rfl) (by omega) rfl ?_
            refine a_goto (k := 35) rfl ?_
            refine a_sub [3, 4, 5, 1, 0] rfl ?_
            cases hb : lyb f d n <;> simp only [hb, b01, Bool.not_true, Bool.not_false, Bool.false_eq_true, if_true, if_false, reduceIte, not_true_eq_false] at * <;> first | exact ih | omega
          · refine a_iconst (k := 21) rfl ?_
            refine a_goto (k := 22) rfl ?_
            refine a_istoren (k := 24) (lv' := [(3, _), (5, _), (0, _), (1, _), (2, _), (4, _)]) rfl (Nat.le_of_ble_eq_true rfl) rfl ?_
            refine a_goto (k := 25) rfl ?_
            refine u_iinc (k := 34) (lv' := [(4, _), (3, _), (5, _), (0, _), (1, _), (2, _)]) rfl rfl (Nat.le_of_ble_eq_true rfl) (by omega) rfl ?_
            refine a_goto (k := 35) rfl ?_
            refine a_sub [3, 4, 5, 1, 0] rfl ?_
            cases hb : lyb f d n <;> simp only [hb, b01, Bool.not_true, Bool.not_false, Bool.false_eq_true, if_true, if_false, reduceIte, not_true_eq_false] at * <;> first | exact ih | omega
  refine a_iconst (k := 0) rfl ?_
  refine a_istoren (k := 1) (lv' := [(2, _), (0, _), (1, _)]) rfl (Nat.le_of_ble_eq_true rfl) rfl ?_
  refine a_iconst (k := 2) rfl ?_
  refine a_istoren (k := 3) (lv' := [(3, _), (2, _), (0, _), (1, _)]) rfl (Nat.le_of_ble_eq_true rfl) rfl ?_
  refine a_iconst (k := 4) rfl ?_
  refine a_istore (k := 5) (lv' := [(4, _), (3, _), (2, _), (0, _), (1, _)]) rfl (Nat.le_of_ble_eq_true rfl) rfl ?_
  refine a_sub [3, 4, 2, 1, 0] rfl ?_
  exact L (2 * c) 0 (by omega)
end
section
/-! Tray, History, Book -/
theorem x_ropeOf (t k : Nat) (h : HH) (hk : (k : Int) < h 3 t 1) (h5 : k < 5) : SpR mX9_ropeOf [vr 3 t, vi k] h (vr 5 (5 * t + k)) h := by
  refine Sp.of rfl kX9_ropeOf (Nat.le_of_ble_eq_true rfl) ?_
  refine u_iloadn (k := 0) rfl rfl ?_
  refine a_if_lt (k := 1) rfl (fun c_1 => ?_) (fun c_1 => ?_)
  · omega
  · refine u_iloadn (k := 2) rfl rfl ?_
    refine u_aloadn (k := 3) rfl rfl ?_
    refine a_geti (k := 4) rfl fRX9_20 rfl rfl ?_
    refine a_icmp_ge (k := 5) rfl (fun c_9 => ?_) (fun c_9 => ?_)
    · omega
    · refine u_iloadn (k := 6) rfl rfl ?_
      refine a_iconst (k := 7) rfl ?_
      refine a_icmp_ge (k := 8) rfl (fun c_14 => ?_) (fun c_14 => ?_)
      · omega
      · refine u_aloadn (k := 9) rfl rfl ?_
        refine a_getr (k := 10) rfl fRX9_11 rfl rfl rfl ?_
        refine u_iloadn (k := 11) rfl rfl ?_
        refine u_aald (k := 12) rfl rfl rfl (by decide) (by omega) rfl ?_
        refine a_goto (k := 13) rfl ?_
        refine a_areturn (k := 15) rfl rfl (Or.inr ⟨_, _, rfl⟩) ?_
        exact ⟨rfl, rfl⟩
theorem x_ropeNo (t : Nat) (k : Int) (h : HH) (hk : k < 0 ∨ h 3 t 1 ≤ k) : SpR mX9_ropeOf [vr 3 t, vi k] h vn h := by
  refine Sp.of rfl kX9_ropeOf (Nat.le_of_ble_eq_true rfl) ?_
  refine u_iloadn (k := 0) rfl rfl ?_
  refine a_if_lt (k := 1) rfl (fun c_1 => ?_) (fun c_1 => ?_)
  · refine a_null (k := 14) rfl ?_
    refine a_areturn (k := 15) rfl rfl (Or.inl rfl) ?_
    exact ⟨rfl, rfl⟩
  · refine u_iloadn (k := 2) rfl rfl ?_
    refine u_aloadn (k := 3) rfl rfl ?_
    refine a_geti (k := 4) rfl fRX9_20 rfl rfl ?_
    refine a_icmp_ge (k := 5) rfl (fun c_9 => ?_) (fun c_9 => ?_)
    · refine a_null (k := 14) rfl ?_
      refine a_areturn (k := 15) rfl rfl (Or.inl rfl) ?_
      exact ⟨rfl, rfl⟩
    · refine u_iloadn (k := 6) rfl rfl ?_
      refine a_iconst (k := 7) rfl ?_
      refine a_icmp_ge (k := 8) rfl (fun c_14 => ?_) (fun c_14 => ?_)
      · refine a_null (k := 14) rfl ?_
        refine a_areturn (k := 15) rfl rfl (Or.inl rfl) ?_
        exact ⟨rfl, rfl⟩
      · omega
/-- tray t holds what tray t2 of h holds -/
def TC (t t2 : Nat) (h g : HH) : Prop := g 3 t 1 = h 3 t2 1 ∧ g 3 t 2 = h 3 t2 2 ∧ ∀ k, k < 5 → g 5 (5 * t + k) 2 = h 5 (5 * t2 + k) 2 ∧ g 5 (5 * t + k) 3 = h 5 (5 * t2 + k) 3 ∧ ∀ i, i < 16 → g 6 (5 * t + k) i = h 6 (5 * t2 + k) i
def tcs (t : Nat) : List (Nat × Nat) := [(3, t), (5, 5 * t), (5, 5 * t + 1), (5, 5 * t + 2), (5, 5 * t + 3), (5, 5 * t + 4), (6, 5 * t), (6, 5 * t + 1), (6, 5 * t + 2), (6, 5 * t + 3), (6, 5 * t + 4)]
theorem tcs5 {t k : Nat} (h : k < 5) : (5, 5 * t + k) ∈ tcs t := by
  unfold tcs
  rcases (show k = 0 ∨ k = 1 ∨ k = 2 ∨ k = 3 ∨ k = 4 by omega) with rfl | rfl | rfl | rfl | rfl <;> simp
theorem tcs6 {t k : Nat} (h : k < 5) : (6, 5 * t + k) ∈ tcs t := by
  unfold tcs
  rcases (show k = 0 ∨ k = 1 ∨ k = 2 ∨ k = 3 ∨ k = 4 by omega) with rfl | rfl | rfl | rfl | rfl <;> simp
theorem tcs_no {t a b : Nat} (h : ∀ k, k < 5 → b ≠ 5 * t + k) (ha : a = 3 → b ≠ t) : (a, b) ∉ tcs t := by
  unfold tcs
  have h0 := h 0 (by omega)
  have h1 := h 1 (by omega)
  have h2 := h 2 (by omega)
  have h3 := h 3 (by omega)
  have h4 := h 4 (by omega)
  simp only [List.mem_cons, Prod.mk.injEq, List.not_mem_nil, or_false, not_or]
  refine ⟨fun q => ha q.1 q.2, fun q => h0 q.2, fun q => h1 q.2, fun q => h2 q.2, fun q => h3 q.2, fun q => h4 q.2, fun q => h0 q.2, fun q => h1 q.2, fun q => h2 q.2, fun q => h3 q.2, fun q => h4 q.2⟩
theorem tcs_tag {t a b : Nat} (h3 : a ≠ 3) (h5 : a ≠ 5) (h6 : a ≠ 6) : (a, b) ∉ tcs t := by
  unfold tcs
  simp [h3, h5, h6]
theorem x_tcopy (t t2 : Nat) (h : HH) (hne : t ≠ t2) : Sp mX9_copyFrom [vr 3 t, vr 3 t2] h (fun r g => r = none ∧ TC t t2 h g ∧ Fr (tcs t) [] h g) := by
  refine Sp.of rfl kX9_copyFrom (Nat.le_of_ble_eq_true rfl) ?_
  have L : ∀ (m n : Nat) (g : HH), n + m = 5 → g 3 t 1 = h 3 t2 1 → g 3 t 2 = h 3 t2 2 → (∀ k, k < n → g 5 (5 * t + k) 2 = h 5 (5 * t2 + k) 2 ∧ g 5 (5 * t + k) 3 = h 5 (5 * t2 + k) 3 ∧ ∀ i, i < 16 → g 6 (5 * t + k) i = h 6 (5 * t2 + k) i) → Fr (tcs t) [] h g →
      AW mX9_copyFrom (fun r g => r = none ∧ TC t t2 h g ∧ Fr (tcs t) [] h g) 18 [(0, vr 3 t), (1, vr 3 t2), (2, vi n)] [] g := by
    intro m
    induction m with
    | zero =>
      intro n g hn h1 h2 hp hF
      have hn : n = 5 := by omega
      subst hn
      refine u_iloadn (k := 10) rfl rfl ?_
      refine a_iconst (k := 11) rfl ?_
      refine a_icmp_ge (k := 12) rfl (fun c_20 => ?_) (fun c_20 => ?_)
      · refine a_return (k := 24) rfl rfl ?_
        exact ⟨rfl, ⟨h1, h2, hp⟩, hF⟩
      · omega
    | succ m ih =>
      intro n g hn h1 h2 hp hF
      refine u_iloadn (k := 10) rfl rfl ?_
      refine a_iconst (k := 11) rfl ?_
      refine a_icmp_ge (k := 12) rfl (fun c_20 => ?_) (fun c_20 => ?_)
      · omega
      · refine u_aloadn (k := 13) rfl rfl ?_
        refine a_getr (k := 14) rfl fRX9_11 rfl rfl rfl ?_
        refine u_iloadn (k := 15) rfl rfl ?_
        refine u_aald (k := 16) rfl rfl rfl (by decide) (by omega) rfl ?_
        refine u_aloadn (k := 17) rfl rfl ?_
        refine a_getr (k := 18) rfl fRX9_11 rfl rfl rfl ?_
        refine u_iloadn (k := 19) rfl rfl ?_
        refine u_aald (k := 20) rfl rfl rfl (by decide) (by omega) rfl ?_
        refine uv_virt1 (M' := mX6_copyFrom) (k := 21) rfl lRX9_27 oX6_copyFrom vX6_copyFrom ⟨Nat.le_of_ble_eq_true rfl, Nat.le_of_ble_eq_true rfl⟩ rfl rfl (Nat.le_of_ble_eq_true rfl) (x_copyFrom (5 * t + n) (5 * t2 + n) g (by omega)) (by intro r g hp; exact hp.1) (fun g1 hg1 => ?_)
        obtain ⟨-, b1, b2, b3, b4⟩ := hg1
        refine u_iinc (k := 22) (lv' := [(2, _), (0, _), (1, _)]) rfl rfl (Nat.le_of_ble_eq_true rfl) (by omega) rfl ?_
        refine a_goto (k := 23) rfl ?_
        refine a_sub [1, 2, 0] rfl ?_
        refine ih (n + 1) g1 (by omega) (by rw [b4 3 t 1 (by simp) (by simp)]; exact h1) (by rw [b4 3 t 2 (by simp) (by simp)]; exact h2) (fun k hk => ?_) (hF.tr b4 (fun q hq => ?_) (by simp))
        · have z5 : ∀ x, g 5 (5 * t2 + k) x = h 5 (5 * t2 + k) x := fun x => hF 5 _ x (tcs_no (fun k2 _ => by omega) (by omega)) (by simp)
          have z6 : ∀ x, g 6 (5 * t2 + k) x = h 6 (5 * t2 + k) x := fun x => hF 6 _ x (tcs_no (fun k2 _ => by omega) (by omega)) (by simp)
          by_cases he : k = n
          · subst he; exact ⟨by rw [b1, z5], by rw [b2, z5], fun i hi => by rw [b3 i hi, z6]⟩
          · obtain ⟨y1, y2, y3⟩ := hp k (by omega)
            exact ⟨by rw [b4 5 _ 2 (by simp; omega) (by simp)]; exact y1, by rw [b4 5 _ 3 (by simp; omega) (by simp)]; exact y2, fun i hi => by rw [b4 6 _ i (by simp; omega) (by simp)]; exact y3 i hi⟩
        · rcases List.mem_cons.mp hq with rfl | hq
          · exact tcs5 (by omega)
          · rw [List.mem_singleton.mp hq]; exact tcs6 (by omega)
  refine u_aloadn (k := 0) rfl rfl ?_
  refine u_aloadn (k := 1) rfl rfl ?_
  refine a_geti (k := 2) rfl fRX9_20 rfl rfl ?_
  refine a_puti (k := 3) rfl pRX9_20 rfl rfl ?_
  refine u_aloadn (k := 4) rfl rfl ?_
  refine u_aloadn (k := 5) rfl rfl ?_
  refine a_geti (k := 6) rfl fRX9_24 rfl rfl ?_
  rw [put_ne (by simp)]
  refine a_puti (k := 7) rfl pRX9_24 rfl rfl ?_
  refine a_iconst (k := 8) rfl ?_
  refine a_istoren (k := 9) (lv' := [(2, _), (0, _), (1, _)]) rfl (Nat.le_of_ble_eq_true rfl) rfl ?_
  refine a_sub [1, 2, 0] rfl ?_
  exact L 5 0 _ (by omega) (by simp only [put_apply, Nat.reduceEqDiff, reduceIte, false_and, and_false, true_and, and_true, and_self, if_false, if_true, not_false_eq_true, not_true_eq_false, ne_eq]) (by rw [put_eq]) (fun k hk => absurd hk (Nat.not_lt_zero k)) ((Fr.rf.p1 (by simp [tcs])).p1 (by simp [tcs]))
theorem x_forget (h : HH) : SpV mX2_forgetAll [vr 10 0] h (put h 10 0 2 0) := by
  refine Sp.of rfl kX2_forgetAll (Nat.le_of_ble_eq_true rfl) ?_
  refine u_aloadn (k := 0) rfl rfl ?_
  refine a_iconst (k := 1) rfl ?_
  refine a_puti (k := 2) rfl pRX2_20 rfl rfl ?_
  refine a_return (k := 3) rfl rfl ?_
  exact ⟨rfl, rfl⟩
theorem x_remember (n c : Nat) (h : HH) (hn : h 10 0 1 = (n : Int)) (hn2 : n < 16) (hc : h 10 0 2 = (c : Int)) (hc2 : c ≤ 16) : Sp mX2_remember [vr 10 0, vr 3 1] h (fun r g => r = none ∧ TC (2 + n) 1 h g ∧ g 10 0 1 = (((n + 1) % 16 : Nat) : Int) ∧ g 10 0 2 = ((min (c + 1) 16 : Nat) : Int) ∧ Fr (tcs (2 + n)) [(10, 0, 1), (10, 0, 2)] h g) := by
  refine Sp.of rfl kX2_remember (Nat.le_of_ble_eq_true rfl) ?_
  refine u_aloadn (k := 0) rfl rfl ?_
  refine a_getr (k := 1) rfl fRX2_11 rfl rfl rfl ?_
  refine u_aloadn (k := 2) rfl rfl ?_
  refine a_geti (k := 3) rfl fRX2_24 rfl rfl ?_
  rw [hn]
  refine u_aald (k := 4) rfl rfl rfl (by decide) (by omega) rfl ?_
  refine u_aloadn (k := 5) rfl rfl ?_
  refine uv_virt1 (M' := mX9_copyFrom) (k := 6) rfl lRX2_27 oX9_copyFrom vX9_copyFrom ⟨Nat.le_of_ble_eq_true rfl, Nat.le_of_ble_eq_true rfl⟩ rfl rfl (Nat.le_of_ble_eq_true rfl) (x_tcopy (2 + n) 1 h (by omega)) (by intro r g hp; exact hp.1) (fun g1 hg1 => ?_)
  obtain ⟨-, b1, b2⟩ := hg1; have e1 : g1 10 0 1 = (n : Int) := (b2 10 0 1 (tcs_tag (by omega) (by omega) (by omega)) (by simp)).trans hn; have e2 : g1 10 0 2 = (c : Int) := (b2 10 0 2 (tcs_tag (by omega) (by omega) (by omega)) (by simp)).trans hc
  refine u_aloadn (k := 7) rfl rfl ?_
  refine u_aloadn (k := 8) rfl rfl ?_
  refine a_geti (k := 9) rfl fRX2_24 rfl rfl ?_
  refine a_iconst (k := 10) rfl ?_
  refine u_iadd (k := 11) rfl (by omega) ?_
  refine a_bipush (k := 12) rfl ?_
  refine u_irem (k := 13) rfl (by omega) (by omega) ?_
  refine a_puti (k := 14) rfl pRX2_24 rfl rfl ?_
  refine u_aloadn (k := 15) rfl rfl ?_
  refine u_aloadn (k := 16) rfl rfl ?_
  refine a_geti (k := 17) rfl fRX2_20 rfl rfl ?_
  rw [put_ne (by simp)]
  refine a_iconst (k := 18) rfl ?_
  refine u_iadd (k := 19) rfl (by omega) ?_
  refine a_bipush (k := 20) rfl ?_
  refine i_stat2 (M' := mJ9_min_7cf53) (k := 21) rfl lRX2_31 oJ9_min_7cf53 vJ9_min_7cf53 ⟨Nat.le_of_ble_eq_true rfl, Nat.le_of_ble_eq_true rfl⟩ rfl (Nat.le_of_ble_eq_true rfl) (x_min _ _ _) ?_
  refine a_puti (k := 22) rfl pRX2_20 rfl rfl ?_
  refine a_return (k := 23) rfl rfl ?_
  refine ⟨rfl, ⟨by simp only [put_apply, Nat.reduceEqDiff, reduceIte, false_and, and_false, true_and, and_true, and_self, if_false, if_true, not_false_eq_true, not_true_eq_false, ne_eq]; exact b1.1, by simp only [put_apply, Nat.reduceEqDiff, reduceIte, false_and, and_false, true_and, and_true, and_self, if_false, if_true, not_false_eq_true, not_true_eq_false, ne_eq]; exact b1.2.1, fun k hk => ⟨by simp only [put_apply, Nat.reduceEqDiff, reduceIte, false_and, and_false, true_and, and_true, and_self, if_false, if_true, not_false_eq_true, not_true_eq_false, ne_eq]; exact (b1.2.2 k hk).1, by simp only [put_apply, Nat.reduceEqDiff, reduceIte, false_and, and_false, true_and, and_true, and_self, if_false, if_true, not_false_eq_true, not_true_eq_false, ne_eq]; exact (b1.2.2 k hk).2.1, fun i hi => by simp only [put_apply, Nat.reduceEqDiff, reduceIte, false_and, and_false, true_and, and_true, and_self, if_false, if_true, not_false_eq_true, not_true_eq_false, ne_eq]; exact (b1.2.2 k hk).2.2 i hi⟩⟩, by rw [put_ne (by simp), put_eq, e1]; omega, by rw [put_eq, e2]; split <;> omega, ((b2.mono (fun q hq => hq) (by simp)).p2 (by simp)).p2 (by simp)⟩
theorem x_restore (n c : Nat) (h : HH) (hn : h 10 0 1 = (n : Int)) (hn2 : n < 16) (hc : h 10 0 2 = (c : Int)) (hc2 : c ≤ 16) (hc0 : 0 < c) : Sp mX2_restore [vr 10 0, vr 3 1] h (fun r g => r = some (vi 1) ∧ TC 1 (2 + (n + 15) % 16) h g ∧ g 10 0 1 = (((n + 15) % 16 : Nat) : Int) ∧ g 10 0 2 = ((c - 1 : Nat) : Int) ∧ Fr (tcs 1) [(10, 0, 1), (10, 0, 2)] h g) := by
  refine Sp.of rfl kX2_restore (Nat.le_of_ble_eq_true rfl) ?_
  have em : ((n : Int) + 16 - 1) % 16 = (((n + 15) % 16 : Nat) : Int) := by omega
  refine u_aloadn (k := 0) rfl rfl ?_
  refine a_geti (k := 1) rfl fRX2_20 rfl rfl ?_
  refine a_if_gt (k := 2) rfl (fun c_4 => ?_) (fun c_4 => ?_)
  · refine u_aloadn (k := 5) rfl rfl ?_
    refine u_aloadn (k := 6) rfl rfl ?_
    refine a_geti (k := 7) rfl fRX2_24 rfl rfl ?_
    rw [hn]
    refine a_bipush (k := 8) rfl ?_
    refine u_iadd (k := 9) rfl (by omega) ?_
    refine a_iconst (k := 10) rfl ?_
    refine u_isub (k := 11) rfl (by omega) ?_
    refine a_bipush (k := 12) rfl ?_
    refine u_irem (k := 13) rfl (by omega) (by omega) ?_
    rw [em]
    refine a_puti (k := 14) rfl pRX2_24 rfl rfl ?_
    refine u_aloadn (k := 15) rfl rfl ?_
    refine a_dup (k := 16) rfl rfl ?_
    refine a_geti (k := 17) rfl fRX2_20 rfl rfl ?_
    rw [put_ne (by simp), hc]
    refine a_iconst (k := 18) rfl ?_
    refine u_isub (k := 19) rfl (by omega) ?_
    refine a_puti (k := 20) rfl pRX2_20 rfl rfl ?_
    refine u_aloadn (k := 21) rfl rfl ?_
    refine u_aloadn (k := 22) rfl rfl ?_
    refine a_getr (k := 23) rfl fRX2_11 rfl rfl rfl ?_
    refine u_aloadn (k := 24) rfl rfl ?_
    refine a_geti (k := 25) rfl fRX2_24 rfl rfl ?_
    rw [put_ne (by simp), put_eq]
    refine u_aald (k := 26) rfl rfl rfl (by decide) (by omega) rfl ?_
    refine uv_virt1 (M' := mX9_copyFrom) (k := 27) rfl lRX2_27 oX9_copyFrom vX9_copyFrom ⟨Nat.le_of_ble_eq_true rfl, Nat.le_of_ble_eq_true rfl⟩ rfl rfl (Nat.le_of_ble_eq_true rfl) (x_tcopy 1 (2 + (n + 15) % 16) _ (by omega)) (by intro r g hp; exact hp.1) (fun g1 hg1 => ?_)
    obtain ⟨-, b1, b2⟩ := hg1
    refine a_iconst (k := 28) rfl ?_
    refine a_zreturn (k := 29) rfl rfl (by omega) ?_
    refine ⟨rfl, ⟨by rw [b1.1]; simp only [put_apply, Nat.reduceEqDiff, reduceIte, false_and, and_false, true_and, and_true, and_self, if_false, if_true, not_false_eq_true, not_true_eq_false, ne_eq], by rw [b1.2.1]; simp only [put_apply, Nat.reduceEqDiff, reduceIte, false_and, and_false, true_and, and_true, and_self, if_false, if_true, not_false_eq_true, not_true_eq_false, ne_eq], fun k hk => ⟨by rw [(b1.2.2 k hk).1]; simp only [put_apply, Nat.reduceEqDiff, reduceIte, false_and, and_false, true_and, and_true, and_self, if_false, if_true, not_false_eq_true, not_true_eq_false, ne_eq], by rw [(b1.2.2 k hk).2.1]; simp only [put_apply, Nat.reduceEqDiff, reduceIte, false_and, and_false, true_and, and_true, and_self, if_false, if_true, not_false_eq_true, not_true_eq_false, ne_eq], fun i hi => by rw [(b1.2.2 k hk).2.2 i hi]; simp only [put_apply, Nat.reduceEqDiff, reduceIte, false_and, and_false, true_and, and_true, and_self, if_false, if_true, not_false_eq_true, not_true_eq_false, ne_eq]⟩⟩, by rw [b2 10 0 1 (tcs_tag (by omega) (by omega) (by omega)) (by simp)]; simp only [put_apply, Nat.reduceEqDiff, reduceIte, false_and, and_false, true_and, and_true, and_self, if_false, if_true, not_false_eq_true, not_true_eq_false, ne_eq], by rw [b2 10 0 2 (tcs_tag (by omega) (by omega) (by omega)) (by simp)]; simp only [put_apply, Nat.reduceEqDiff, reduceIte, false_and, and_false, true_and, and_true, and_self, if_false, if_true, not_false_eq_true, not_true_eq_false, ne_eq]; omega, ((Fr.rf.p2 (by simp)).p2 (by simp)).tr b2 (fun q hq => hq) (by simp)⟩
  · omega
theorem x_restoreNo (h : HH) (hc : h 10 0 2 = 0) : SpI mX2_restore [vr 10 0, vr 3 1] h 0 h := by
  refine Sp.of rfl kX2_restore (Nat.le_of_ble_eq_true rfl) ?_
  refine u_aloadn (k := 0) rfl rfl ?_
  refine a_geti (k := 1) rfl fRX2_20 rfl rfl ?_
  refine a_if_gt (k := 2) rfl (fun c_4 => ?_) (fun c_4 => ?_)
  · omega
  · refine a_iconst (k := 3) rfl ?_
    refine a_zreturn (k := 4) rfl rfl (by omega) ?_
    exact ⟨rfl, rfl⟩
theorem x_addEntry (n : Nat) (k e : Int) (h : HH) (hn : h 14 0 2 = (n : Int)) (h15 : n < 15) : SpI mX0_addEntry [vr 14 0, vi k, vi e] h 1 (put (put (put h 15 0 n k) 16 0 n e) 14 0 2 ((n + 1 : Nat) : Int)) := by
  refine Sp.of rfl kX0_addEntry (Nat.le_of_ble_eq_true rfl) ?_
  refine u_aloadn (k := 0) rfl rfl ?_
  refine a_geti (k := 1) rfl fRX0_18 rfl rfl ?_
  refine a_if_lt (k := 2) rfl (fun c_4 => ?_) (fun c_4 => ?_)
  · omega
  · refine u_aloadn (k := 3) rfl rfl ?_
    refine a_geti (k := 4) rfl fRX0_18 rfl rfl ?_
    refine a_bipush (k := 5) rfl ?_
    refine a_icmp_lt (k := 6) rfl (fun c_13 => ?_) (fun c_13 => ?_)
    · refine u_aloadn (k := 9) rfl rfl ?_
      refine a_getr (k := 10) rfl fRX0_9 rfl rfl rfl ?_
      refine u_aloadn (k := 11) rfl rfl ?_
      refine a_geti (k := 12) rfl fRX0_18 rfl rfl ?_
      rw [hn]
      refine u_iloadn (k := 13) rfl rfl ?_
      refine u_iast (k := 14) rfl rfl rfl (by omega) ?_
      refine u_aloadn (k := 15) rfl rfl ?_
      refine a_getr (k := 16) rfl fRX0_15 rfl rfl rfl ?_
      refine u_aloadn (k := 17) rfl rfl ?_
      refine a_geti (k := 18) rfl fRX0_18 rfl rfl ?_
      rw [put_ne (by simp), hn]
      refine u_iloadn (k := 19) rfl rfl ?_
      refine u_iast (k := 20) rfl rfl rfl (by omega) ?_
      refine u_aloadn (k := 21) rfl rfl ?_
      refine a_dup (k := 22) rfl rfl ?_
      refine a_geti (k := 23) rfl fRX0_18 rfl rfl ?_
      rw [put_ne (by simp), put_ne (by simp), hn]
      refine a_iconst (k := 24) rfl ?_
      refine u_iadd (k := 25) rfl (by omega) ?_
      refine a_puti (k := 26) rfl pRX0_18 rfl rfl ?_
      refine a_iconst (k := 27) rfl ?_
      refine a_zreturn (k := 28) rfl rfl (by omega) ?_
      exact ⟨rfl, rfl⟩
    · omega
theorem x_addEntryNo (k e : Int) (h : HH) (hn : h 14 0 2 = 15) : SpI mX0_addEntry [vr 14 0, vi k, vi e] h 0 h := by
  refine Sp.of rfl kX0_addEntry (Nat.le_of_ble_eq_true rfl) ?_
  refine u_aloadn (k := 0) rfl rfl ?_
  refine a_geti (k := 1) rfl fRX0_18 rfl rfl ?_
  refine a_if_lt (k := 2) rfl (fun c_4 => ?_) (fun c_4 => ?_)
  · refine a_iconst (k := 7) rfl ?_
    refine a_zreturn (k := 8) rfl rfl (by omega) ?_
    exact ⟨rfl, rfl⟩
  · refine u_aloadn (k := 3) rfl rfl ?_
    refine a_geti (k := 4) rfl fRX0_18 rfl rfl ?_
    refine a_bipush (k := 5) rfl ?_
    refine a_icmp_lt (k := 6) rfl (fun c_13 => ?_) (fun c_13 => ?_)
    · omega
    · refine a_iconst (k := 7) rfl ?_
      refine a_zreturn (k := 8) rfl rfl (by omega) ?_
      exact ⟨rfl, rfl⟩
end
section
/-! MoveList -/
theorem j_fill (t n : Nat) (v : Int) (h : HH) (ho : ko t = none) (hk : ka t = some (0, n)) (hn : n < 65536) (i : Nat) : Sp mJ7_fill_53178 [vr t i, vi v] h (fun r g => r = none ∧ (∀ k, k < n → g t i k = v) ∧ Fr [(t, i)] [] h g) := by
  refine Sp.ofF (by decide +kernel) kJ7_fill_53178 (Nat.le_of_ble_eq_true rfl) ?_
  have L : ∀ (m q : Nat) (g : HH), q + m = n → (∀ k, k < q → g t i k = v) → Fr [(t, i)] [] h g → AW mJ7_fill_53178 (fun r g => r = none ∧ (∀ k, k < n → g t i k = v) ∧ Fr [(t, i)] [] h g) 5 [(0, vr t i), (1, vi v), (2, vi q), (3, vi n)] [] g := by
    intro m
    induction m with
    | zero =>
      intro q g hq hp hF
      have hq : q = n := by omega
      subst hq
      refine u_iloadn (k := 5) rfl rfl ?_
      refine u_iloadn (k := 6) rfl rfl ?_
      refine a_icmp_ge (k := 7) rfl (fun c_7 => ?_) (fun c_7 => ?_)
      · refine a_return (k := 14) rfl rfl ?_
        exact ⟨rfl, hp, hF⟩
      · omega
    | succ m ih =>
      intro q g hq hp hF
      refine u_iloadn (k := 5) rfl rfl ?_
      refine u_iloadn (k := 6) rfl rfl ?_
      refine a_icmp_ge (k := 7) rfl (fun c_7 => ?_) (fun c_7 => ?_)
      · omega
      · refine u_aloadn (k := 8) rfl rfl ?_
        refine u_iloadn (k := 9) rfl rfl ?_
        refine u_iloadn (k := 10) rfl rfl ?_
        refine u_iast (k := 11) rfl ho hk (by omega) ?_
        refine u_iinc (k := 12) (lv' := [(2, _), (0, _), (1, _), (3, _)]) rfl rfl (Nat.le_of_ble_eq_true rfl) (by omega) rfl ?_
        refine a_goto (k := 13) rfl ?_
        refine a_sub [1, 2, 0, 3] rfl ?_
        exact ih (q + 1) _ (by omega) (fun k hk => by by_cases he : k = q; (subst he; rw [put_eq]); (rw [put_ne (by simp [he])]; exact hp k (by omega))) (hF.p1 (by simp))
  refine a_iconst (k := 0) rfl ?_
  refine a_istoren (k := 1) (lv' := [(2, _), (0, _), (1, _)]) rfl (Nat.le_of_ble_eq_true rfl) rfl ?_
  refine u_aloadn (k := 2) rfl rfl ?_
  refine a_alen (k := 3) rfl ho hk (by decide) hn ?_
  refine a_istoren (k := 4) (lv' := [(3, _), (2, _), (0, _), (1, _)]) rfl (Nat.le_of_ble_eq_true rfl) rfl ?_
  refine a_sub [2, 3, 1, 0] rfl ?_
  exact L n 0 h (by omega) (fun k hk => absurd hk (Nat.not_lt_zero k)) Fr.rf
/-- the passes of f with crossings in S, switched by W -/
def tr_ (f : Nat → Nat) (S W : Nat) : Nat → List Nat
  | 0 => []
  | n + 1 => if S.testBit (f n / 2) then tr_ f S W n ++ [swf f W n] else tr_ f S W n
theorem tr_len (f : Nat → Nat) (S W : Nat) : ∀ n, (tr_ f S W n).length ≤ n
  | 0 => Nat.le_refl 0
  | n + 1 => by
    have := tr_len f S W n
    unfold tr_
    split
    · rw [List.length_append]; simp; omega
    · omega
theorem swf_lt : ∀ a, a < 16 → a ^^^ 1 < 16 ∧ (a ^^^ 1) / 2 = a / 2 := by decide
theorem swf_lt2 {f : Nat → Nat} {W q : Nat} (h : f q < 16) : swf f W q < 16 ∧ swf f W q / 2 = f q / 2 := by
  unfold swf
  split
  · exact swf_lt _ h
  · simp [h]
theorem tr_lt {f : Nat → Nat} {S W : Nat} : ∀ {n : Nat}, (∀ i, i < n → f i < 16) → ∀ q, fn (tr_ f S W n) q < 16
  | 0, _, q => by simp [fn, tr_]
  | n + 1, h, q => by
    unfold tr_
    split
    · rcases Nat.lt_trichotomy q (tr_ f S W n).length with h1 | h1 | h1
      · rw [fn_app1 h1]
        exact tr_lt (fun i hi => h i (by omega)) q
      · subst h1
        rw [fn_app2]
        exact (swf_lt2 (h n (by omega))).1
      · simp [fn, List.getD]
        rw [List.getElem?_eq_none (by simp; omega)]
        simp
    · exact tr_lt (fun i hi => h i (by omega)) q
theorem x_takeRow (j c S W : Nat) (f : Nat → Nat) (h : HH) (hc : h 5 j 2 = (c : Int)) (h8 : c ≤ 8) (hf : ∀ i, i < 2 * c → h 6 j i = (f i : Int)) (hf2 : ∀ i, i < 2 * c → f i < 16) (hS : S < 2 ^ 31) (hW : W < 2 ^ 31) :
    Sp mX3_takeRow [vr 17 0, vr 5 j, vi S, vi W] h (fun r g => r = some (vi ((tr_ f S W (2 * c)).length : Int)) ∧ (∀ i, i < (tr_ f S W (2 * c)).length → g 18 0 i = (fn (tr_ f S W (2 * c)) i : Int)) ∧ Fr [(18, 0)] [] h g) := by
  refine Sp.of rfl kX3_takeRow (Nat.le_of_ble_eq_true rfl) ?_
  have L : ∀ (m n : Nat) (g : HH), n + m = 2 * c → (∀ i, i < (tr_ f S W n).length → g 18 0 i = (fn (tr_ f S W n) i : Int)) → Fr [(18, 0)] [] h g →
      AW mX3_takeRow (fun r g => r = some (vi ((tr_ f S W (2 * c)).length : Int)) ∧ (∀ i, i < (tr_ f S W (2 * c)).length → g 18 0 i = (fn (tr_ f S W (2 * c)) i : Int)) ∧ Fr [(18, 0)] [] h g) 6 [(0, vr 17 0), (1, vr 5 j), (2, vi S), (3, vi W), (4, vi ((tr_ f S W n).length : Int)), (5, vi n)] [] g := by
    intro m
    induction m with
    | zero =>
      intro n g hn hp hF
      have hn : n = 2 * c := by omega
      subst hn
      have hc' : g 5 j 2 = (c : Int) := by rw [hF 5 j 2 (by simp) (by simp)]; exact hc
      refine u_iload (k := 4) rfl rfl ?_
      refine u_aloadn (k := 5) rfl rfl ?_
      refine i_virt0 (M' := mX6_length) (k := 6) rfl lRX3_59 oX6_length vX6_length ⟨Nat.le_of_ble_eq_true rfl, Nat.le_of_ble_eq_true rfl⟩ rfl rfl (Nat.le_of_ble_eq_true rfl) (x_length j c g hc' h8) ?_
      refine a_icmp_ge (k := 7) rfl (fun c_12 => ?_) (fun c_12 => ?_)
      · refine u_iload (k := 34) rfl rfl ?_
        refine a_ireturn (k := 35) rfl rfl ?_
        exact ⟨rfl, hp, hF⟩
      · omega
    | succ m ih =>
      intro n g hn hp hF
      have hc' : g 5 j 2 = (c : Int) := by rw [hF 5 j 2 (by simp) (by simp)]; exact hc
      have hfn' : g 6 j n = (f n : Int) := by rw [hF 6 j n (by simp) (by simp)]; exact hf n (by omega)
      have hl := tr_len f S W n
      have hfn := hf2 n (by omega)
      have e8 : f n / 2 % 8 = f n / 2 := by omega
      have e0 : tbi S (f n / 2) = if S.testBit (f n / 2) then 1 else 0 := rfl
      refine u_iload (k := 4) rfl rfl ?_
      refine u_aloadn (k := 5) rfl rfl ?_
      refine i_virt0 (M' := mX6_length) (k := 6) rfl lRX3_59 oX6_length vX6_length ⟨Nat.le_of_ble_eq_true rfl, Nat.le_of_ble_eq_true rfl⟩ rfl rfl (Nat.le_of_ble_eq_true rfl) (x_length j c g hc' h8) ?_
      refine a_icmp_ge (k := 7) rfl (fun c_12 => ?_) (fun c_12 => ?_)
      · omega
      · refine u_aloadn (k := 8) rfl rfl ?_
        refine a_getr (k := 9) rfl fRX3_62 rfl rfl rfl ?_
        refine u_iload (k := 10) rfl rfl ?_
        refine u_iald (k := 11) rfl rfl rfl (by omega) ?_
        rw [hfn']
        refine a_istore (k := 12) (lv' := [(6, _), (0, _), (1, _), (2, _), (3, _), (4, _), (5, _)]) rfl (Nat.le_of_ble_eq_true rfl) rfl ?_
        refine u_iload (k := 13) rfl rfl ?_
        refine i_statN1 (M' := mX10_crossingOf) (k := 14) rfl lRX3_65 oX10_crossingOf vX10_crossingOf ⟨Nat.le_of_ble_eq_true rfl, Nat.le_of_ble_eq_true rfl⟩ rfl (Nat.le_of_ble_eq_true rfl) (x_crossingOf (f n) g (by omega)) ?_
        rw [e8]
        refine a_istore (k := 15) (lv' := [(7, _), (6, _), (0, _), (1, _), (2, _), (3, _), (4, _), (5, _)]) rfl (Nat.le_of_ble_eq_true rfl) rfl ?_
        refine u_iloadn (k := 16) rfl rfl ?_
        refine u_iload (k := 17) rfl rfl ?_
        refine i_statN2 (M' := mX10_isIn) (k := 18) rfl lRX3_68 oX10_isIn vX10_isIn ⟨Nat.le_of_ble_eq_true rfl, Nat.le_of_ble_eq_true rfl⟩ rfl (Nat.le_of_ble_eq_true rfl) (x_isIn S (f n / 2) g hS (by omega)) ?_
        refine a_if_eq (k := 19) rfl (fun c_37 => ?_) (fun c_37 => ?_)
        · have hb : ¬ S.testBit (f n / 2) = true := by rw [e0] at c_37; split at c_37 <;> simp_all
          have ek : tr_ f S W (n + 1) = tr_ f S W n := by simp [tr_, hb]
          refine u_iinc (k := 32) (lv' := [(5, _), (7, _), (6, _), (0, _), (1, _), (2, _), (3, _), (4, _)]) rfl rfl (Nat.le_of_ble_eq_true rfl) (by omega) rfl ?_
          refine a_goto (k := 33) rfl ?_
          refine a_sub [3, 4, 5, 6, 7, 0] rfl ?_
          first | (have := ih (n + 1) g (by omega) (by rw [ek]; exact hp) hF; rw [ek] at this; exact this) | (have := ih (n + 1) (put g 18 0 (tr_ f S W n).length (swf f W n : Int)) (by omega) (fun i hi => by rw [ek] at hi ⊢; rw [List.length_append] at hi; simp at hi; by_cases he : i = (tr_ f S W n).length; (subst he; rw [put_eq, fn_app2]); (rw [put_ne (by simp [he]), fn_app1 (by omega)]; exact hp i (by omega))) (hF.p1 (by simp)); rw [ek, List.length_append] at this; exact this)
        · have hb : S.testBit (f n / 2) = true := by rw [e0] at c_37; split at c_37 <;> simp_all
          have ek : tr_ f S W (n + 1) = tr_ f S W n ++ [swf f W n] := by simp [tr_, hb]
          refine u_aloadn (k := 20) rfl rfl ?_
          refine a_getr (k := 21) rfl fRX3_9 rfl rfl rfl ?_
          refine u_iload (k := 22) rfl rfl ?_
          refine u_iload (k := 23) rfl rfl ?_
          refine u_iloadn (k := 24) rfl rfl ?_
          refine u_iload (k := 25) rfl rfl ?_
          refine a_ishr (k := 26) rfl ?_
          refine a_iconst (k := 27) rfl ?_
          refine a_iand (k := 28) rfl ?_
          rw [sab hW (by omega), tbi_nat]
          refine a_ixor (k := 29) rfl ?_
          rw [ixor_nat (by omega) (by split <;> omega)]
          refine u_iast (k := 30) rfl rfl rfl (by omega) ?_
          refine u_iinc (k := 31) (lv' := [(4, _), (7, _), (6, _), (0, _), (1, _), (2, _), (3, _), (5, _)]) rfl rfl (Nat.le_of_ble_eq_true rfl) (by omega) rfl ?_
          refine u_iinc (k := 32) (lv' := [(5, _), (4, _), (7, _), (6, _), (0, _), (1, _), (2, _), (3, _)]) rfl rfl (Nat.le_of_ble_eq_true rfl) (by omega) rfl ?_
          refine a_goto (k := 33) rfl ?_
          refine a_sub [4, 5, 6, 7, 1, 0] rfl ?_
          first | (have := ih (n + 1) g (by omega) (by rw [ek]; exact hp) hF; rw [ek] at this; exact this) | (have := ih (n + 1) (put g 18 0 (tr_ f S W n).length (swf f W n : Int)) (by omega) (fun i hi => by rw [ek] at hi ⊢; rw [List.length_append] at hi; simp at hi; by_cases he : i = (tr_ f S W n).length; (subst he; rw [put_eq, fn_app2]); (rw [put_ne (by simp [he]), fn_app1 (by omega)]; exact hp i (by omega))) (hF.p1 (by simp)); rw [ek, List.length_append] at this; exact this)
  refine a_iconst (k := 0) rfl ?_
  refine a_istore (k := 1) (lv' := [(4, _), (0, _), (1, _), (2, _), (3, _)]) rfl (Nat.le_of_ble_eq_true rfl) rfl ?_
  refine a_iconst (k := 2) rfl ?_
  refine a_istore (k := 3) (lv' := [(5, _), (4, _), (0, _), (1, _), (2, _), (3, _)]) rfl (Nat.le_of_ble_eq_true rfl) rfl ?_
  refine a_sub [2, 3, 4, 5, 1, 0] rfl ?_
  exact L (2 * c) 0 h (by omega) (fun i hi => absurd hi (Nat.not_lt_zero i)) Fr.rf
/-! neighbours in a row that goes round -/
def pa (L : List Nat) (i : Nat) : Nat := fn L i
def pb (L : List Nat) (i : Nat) : Nat := fn L (if i + 1 < L.length then i + 1 else 0)
def nk (L : List Nat) : Nat → Nat
  | 0 => 0
  | i + 1 => if pa L i / 2 = pb L i / 2 then nk L i ||| 2 ^ (pa L i / 2) else nk L i
def nq (r : Nat) (L : List Nat) : Nat → Nat → Nat
  | 0, _ => 0
  | i + 1, x => if ¬ pa L i / 2 = pb L i / 2 ∧ pa L i % 2 = r ∧ pb L i % 2 = r then (if x = pa L i / 2 then nq r L i x ||| 2 ^ (pb L i / 2) else if x = pb L i / 2 then nq r L i x ||| 2 ^ (pa L i / 2) else nq r L i x) else nq r L i x
theorem nk_lt {L : List Nat} (hL : ∀ q, fn L q < 16) : ∀ i, nk L i < 2 ^ 8
  | 0 => by unfold nk; omega
  | i + 1 => by
    have h1 := nk_lt hL i
    have h2 := hL i
    unfold nk
    split
    · exact Nat.or_lt_two_pow h1 (Nat.pow_lt_pow_right (by omega) (by unfold pa; omega))
    · exact h1
theorem nq_lt {r : Nat} {L : List Nat} (hL : ∀ q, fn L q < 16) : ∀ i x, nq r L i x < 2 ^ 8
  | 0, x => by unfold nq; omega
  | i + 1, x => by
    have h1 := nq_lt (r := r) hL i x
    have h2 := hL i
    have h3 := hL (if i + 1 < L.length then i + 1 else 0)
    unfold nq
    split
    · split
      · exact Nat.or_lt_two_pow h1 (Nat.pow_lt_pow_right (by omega) (by unfold pb; omega))
      · split
        · exact Nat.or_lt_two_pow h1 (Nat.pow_lt_pow_right (by omega) (by unfold pa; omega))
        · exact h1
    · exact h1
theorem and_1 : ∀ a, a < 16 → ∀ b, b < 16 → iand (iand (a : Nat) (b : Nat)) 1 = if a % 2 = 1 ∧ b % 2 = 1 then 1 else 0 := by decide +kernel
theorem or_1 : ∀ a, a < 16 → ∀ b, b < 16 → iand (ior (a : Nat) (b : Nat)) 1 = if a % 2 = 0 ∧ b % 2 = 0 then 0 else 1 := by decide +kernel
end
section
/-- what seeNeighbours leaves -/
def NB (L : List Nat) (n : Nat) (g : HH) : Prop := g 17 0 4 = (nk L n : Int) ∧ (∀ x, x < 8 → g 19 0 x = (nq 1 L n x : Int)) ∧ ∀ x, x < 8 → g 20 0 x = (nq 0 L n x : Int)
theorem x_seeN (L : List Nat) (h : HH) (hl : L.length ≤ 16) (hr : ∀ i, i < L.length → h 18 0 i = (fn L i : Int)) (hL : ∀ q, fn L q < 16) :
    Sp mX3_seeNeighbours [vr 17 0, vi (L.length : Int)] h (fun r g => r = none ∧ NB L L.length g ∧ Fr [(19, 0), (20, 0)] [(17, 0, 4)] h g) := by
  refine Sp.of rfl kX3_seeNeighbours (Nat.le_of_ble_eq_true rfl) ?_
  have Lp : ∀ (m n : Nat) (g : HH), n + m = L.length → NB L n g → Fr [(19, 0), (20, 0)] [(17, 0, 4)] h g → AW mX3_seeNeighbours (fun r g => r = none ∧ NB L L.length g ∧ Fr [(19, 0), (20, 0)] [(17, 0, 4)] h g) 23 [(0, vr 17 0), (1, vi (L.length : Int)), (2, vi n)] [] g := by
    intro m
    induction m with
    | zero =>
      intro n g hn hN hF
      have hn : n = L.length := by omega
      subst hn
      refine u_iloadn (k := 13) rfl rfl ?_
      refine u_iloadn (k := 14) rfl rfl ?_
      refine a_icmp_ge (k := 15) rfl (fun c_25 => ?_) (fun c_25 => ?_)
      · refine a_return (k := 109) rfl rfl ?_
        exact ⟨rfl, hN, hF⟩
      · omega
    | succ m ih =>
      intro n g hn hN hF
      obtain ⟨hk, ho, hu⟩ := hN
      have ea : g 18 0 n = (pa L n : Int) := by rw [hF 18 0 n (by simp) (by simp)]; exact hr n (by omega)
      have la16 : pa L n < 16 := hL n
      have lb16 : pb L n < 16 := hL _
      have a8 : pa L n / 2 % 8 = pa L n / 2 := by omega
      have b8 : pb L n / 2 % 8 = pb L n / 2 := by omega
      have k8 := nk_lt hL n
      have o8 := fun x => nq_lt (r := 1) hL n x
      have u8 := fun x => nq_lt (r := 0) hL n x
      have s1_ := shl1 (k := pa L n / 2) (by omega)
      have s2_ := shl1 (k := pb L n / 2) (by omega)
      have p1_ : 2 ^ (pa L n / 2) < 2 ^ 31 := Nat.pow_lt_pow_right (by omega) (by omega)
      have p2_ : 2 ^ (pb L n / 2) < 2 ^ 31 := Nat.pow_lt_pow_right (by omega) (by omega)
      have mid : g 18 0 (if n + 1 < L.length then n + 1 else 0) = (pb L n : Int) := by
        rw [hF 18 0 _ (by simp) (by simp)]
        exact hr _ (by split <;> omega)
      have body : AW mX3_seeNeighbours (fun r g => r = none ∧ NB L L.length g ∧ Fr [(19, 0), (20, 0)] [(17, 0, 4)] h g) 54 [(0, vr 17 0), (1, vi (L.length : Int)), (2, vi n), (3, vi (pa L n))] [vi (pb L n)] g := by
        refine a_istore (k := 34) (lv' := [(4, _), (0, _), (1, _), (2, _), (3, _)]) rfl (Nat.le_of_ble_eq_true rfl) rfl ?_
        refine u_iloadn (k := 35) rfl rfl ?_
        refine i_statN1 (M' := mX10_crossingOf) (k := 36) rfl lRX3_65 oX10_crossingOf vX10_crossingOf ⟨Nat.le_of_ble_eq_true rfl, Nat.le_of_ble_eq_true rfl⟩ rfl (Nat.le_of_ble_eq_true rfl) (x_crossingOf (pa L n) g (by omega)) ?_
        rw [a8]
        refine a_istore (k := 37) (lv' := [(5, _), (4, _), (0, _), (1, _), (2, _), (3, _)]) rfl (Nat.le_of_ble_eq_true rfl) rfl ?_
        refine u_iload (k := 38) rfl rfl ?_
        refine i_statN1 (M' := mX10_crossingOf) (k := 39) rfl lRX3_65 oX10_crossingOf vX10_crossingOf ⟨Nat.le_of_ble_eq_true rfl, Nat.le_of_ble_eq_true rfl⟩ rfl (Nat.le_of_ble_eq_true rfl) (x_crossingOf (pb L n) g (by omega)) ?_
        rw [b8]
        refine a_istore (k := 40) (lv' := [(6, _), (5, _), (4, _), (0, _), (1, _), (2, _), (3, _)]) rfl (Nat.le_of_ble_eq_true rfl) rfl ?_
        refine u_iload (k := 41) rfl rfl ?_
        refine u_iload (k := 42) rfl rfl ?_
        refine a_icmp_ne (k := 43) rfl (fun c_73 => ?_) (fun c_73 => ?_)
        · have hne : ¬ pa L n / 2 = pb L n / 2 := by omega
          have E1 : nk L (n + 1) = nk L n := by simp [nk, hne]
          refine u_iloadn (k := 53) rfl rfl ?_
          refine u_iload (k := 54) rfl rfl ?_
          refine a_iand (k := 55) rfl ?_
          refine a_iconst (k := 56) rfl ?_
          refine a_iand (k := 57) rfl ?_
          rw [and_1 _ la16 _ lb16]
          refine a_iconst (k := 58) rfl ?_
          refine a_icmp_ne (k := 59) rfl (fun c_99 => ?_) (fun c_99 => ?_)
          · have hodd : ¬ (pa L n % 2 = 1 ∧ pb L n % 2 = 1) := by split at c_99 ; omega; assumption
            have E2 : ∀ x, nq 1 L (n + 1) x = nq 1 L n x := fun x => by simp only [nq]; rw [if_neg (fun z => hodd z.2)]
            refine u_iloadn (k := 81) rfl rfl ?_
            refine u_iload (k := 82) rfl rfl ?_
            refine a_ior (k := 83) rfl ?_
            refine a_iconst (k := 84) rfl ?_
            refine a_iand (k := 85) rfl ?_
            rw [or_1 _ la16 _ lb16]
            refine a_if_ne (k := 86) rfl (fun c_139 => ?_) (fun c_139 => ?_)
            · have hev : ¬ (pa L n % 2 = 0 ∧ pb L n % 2 = 0) := by split at c_139 ; omega; assumption
              have E3 : ∀ x, nq 0 L (n + 1) x = nq 0 L n x := fun x => by simp only [nq]; rw [if_neg (fun z => hev z.2)]
              refine u_iinc (k := 107) (lv' := [(2, _), (6, _), (5, _), (4, _), (0, _), (1, _), (3, _)]) rfl rfl (Nat.le_of_ble_eq_true rfl) (by omega) rfl ?_
              refine a_goto (k := 108) rfl ?_
              refine a_sub [4, 5, 0] rfl ?_
              first
                | exact ih (n + 1) _ (by omega) ⟨by rw [E1, put_eq], fun x hx => by rw [E2, put_ne (by simp)]; exact ho x hx, fun x hx => by rw [E3, put_ne (by simp)]; exact hu x hx⟩ (hF.p2 (by simp))
                | exact ih (n + 1) g (by omega) ⟨by rw [E1]; exact hk, fun x hx => by rw [E2]; exact ho x hx, fun x hx => by rw [E3]; exact hu x hx⟩ hF
                | exact ih (n + 1) _ (by omega) ⟨by rw [E1, put_ne (by simp), put_ne (by simp)]; exact hk, fun x hx => by
                    rw [E2]
                    by_cases h1 : x = pb L n / 2
                    · rw [h1, put_eq, if_neg (Ne.symm hne), if_pos rfl]
                    · rw [put_ne (by simp [h1]), if_neg h1]
                      by_cases h2 : x = pa L n / 2
                      · rw [h2, put_eq, if_pos rfl]
                      · rw [put_ne (by simp [h2]), if_neg h2]; exact ho x hx, fun x hx => by rw [E3, put_ne (by simp), put_ne (by simp)]; exact hu x hx⟩ ((hF.p1 (by simp)).p1 (by simp))
                | exact ih (n + 1) _ (by omega) ⟨by rw [E1, put_ne (by simp), put_ne (by simp)]; exact hk, fun x hx => by rw [E2, put_ne (by simp), put_ne (by simp)]; exact ho x hx, fun x hx => by
                    rw [E3]
                    by_cases h1 : x = pb L n / 2
                    · rw [h1, put_eq, if_neg (Ne.symm hne), if_pos rfl]
                    · rw [put_ne (by simp [h1]), if_neg h1]
                      by_cases h2 : x = pa L n / 2
                      · rw [h2, put_eq, if_pos rfl]
                      · rw [put_ne (by simp [h2]), if_neg h2]; exact hu x hx⟩ ((hF.p1 (by simp)).p1 (by simp))
            · have hev : pa L n % 2 = 0 ∧ pb L n % 2 = 0 := by split at c_139 ; assumption; omega
              have E3 : ∀ x, nq 0 L (n + 1) x = if x = pa L n / 2 then nq 0 L n x ||| 2 ^ (pb L n / 2) else if x = pb L n / 2 then nq 0 L n x ||| 2 ^ (pa L n / 2) else nq 0 L n x := fun x => by simp only [nq]; rw [if_pos ⟨hne, hev⟩]
              refine u_aloadn (k := 87) rfl rfl ?_
              refine a_getr (k := 88) rfl fRX3_18 rfl rfl rfl ?_
              refine u_iload (k := 89) rfl rfl ?_
              refine a_dup2 (k := 90) rfl rfl rfl ?_
              refine u_iald (k := 91) rfl rfl rfl (by omega) ?_
              rw [hu _ (by omega)]
              refine a_iconst (k := 92) rfl ?_
              refine u_iload (k := 93) rfl rfl ?_
              refine a_ishl (k := 94) rfl ?_
              rw [s2_]
              refine a_ior (k := 95) rfl ?_
              rw [ior_nat (by have := u8 (pa L n / 2); omega) p2_]
              refine u_iast (k := 96) rfl rfl rfl (by omega) ?_
              refine u_aloadn (k := 97) rfl rfl ?_
              refine a_getr (k := 98) rfl fRX3_18 rfl rfl rfl ?_
              refine u_iload (k := 99) rfl rfl ?_
              refine a_dup2 (k := 100) rfl rfl rfl ?_
              refine u_iald (k := 101) rfl rfl rfl (by omega) ?_
              rw [put_ne (by simp; omega), hu _ (by omega)]
              refine a_iconst (k := 102) rfl ?_
              refine u_iload (k := 103) rfl rfl ?_
              refine a_ishl (k := 104) rfl ?_
              rw [s1_]
              refine a_ior (k := 105) rfl ?_
              rw [ior_nat (by have := u8 (pb L n / 2); omega) p1_]
              refine u_iast (k := 106) rfl rfl rfl (by omega) ?_
              refine u_iinc (k := 107) (lv' := [(2, _), (6, _), (5, _), (4, _), (0, _), (1, _), (3, _)]) rfl rfl (Nat.le_of_ble_eq_true rfl) (by omega) rfl ?_
              refine a_goto (k := 108) rfl ?_
              refine a_sub [4, 5, 0] rfl ?_
              first
                | exact ih (n + 1) _ (by omega) ⟨by rw [E1, put_eq], fun x hx => by rw [E2, put_ne (by simp)]; exact ho x hx, fun x hx => by rw [E3, put_ne (by simp)]; exact hu x hx⟩ (hF.p2 (by simp))
                | exact ih (n + 1) g (by omega) ⟨by rw [E1]; exact hk, fun x hx => by rw [E2]; exact ho x hx, fun x hx => by rw [E3]; exact hu x hx⟩ hF
                | exact ih (n + 1) _ (by omega) ⟨by rw [E1, put_ne (by simp), put_ne (by simp)]; exact hk, fun x hx => by
                    rw [E2]
                    by_cases h1 : x = pb L n / 2
                    · rw [h1, put_eq, if_neg (Ne.symm hne), if_pos rfl]
                    · rw [put_ne (by simp [h1]), if_neg h1]
                      by_cases h2 : x = pa L n / 2
                      · rw [h2, put_eq, if_pos rfl]
                      · rw [put_ne (by simp [h2]), if_neg h2]; exact ho x hx, fun x hx => by rw [E3, put_ne (by simp), put_ne (by simp)]; exact hu x hx⟩ ((hF.p1 (by simp)).p1 (by simp))
                | exact ih (n + 1) _ (by omega) ⟨by rw [E1, put_ne (by simp), put_ne (by simp)]; exact hk, fun x hx => by rw [E2, put_ne (by simp), put_ne (by simp)]; exact ho x hx, fun x hx => by
                    rw [E3]
                    by_cases h1 : x = pb L n / 2
                    · rw [h1, put_eq, if_neg (Ne.symm hne), if_pos rfl]
                    · rw [put_ne (by simp [h1]), if_neg h1]
                      by_cases h2 : x = pa L n / 2
                      · rw [h2, put_eq, if_pos rfl]
                      · rw [put_ne (by simp [h2]), if_neg h2]; exact hu x hx⟩ ((hF.p1 (by simp)).p1 (by simp))
          · have hodd : pa L n % 2 = 1 ∧ pb L n % 2 = 1 := by split at c_99 ; assumption; omega
            have E2 : ∀ x, nq 1 L (n + 1) x = if x = pa L n / 2 then nq 1 L n x ||| 2 ^ (pb L n / 2) else if x = pb L n / 2 then nq 1 L n x ||| 2 ^ (pa L n / 2) else nq 1 L n x := fun x => by simp only [nq]; rw [if_pos ⟨hne, hodd⟩]
            have E3 : ∀ x, nq 0 L (n + 1) x = nq 0 L n x := fun x => by simp only [nq]; rw [if_neg (fun z => by omega)]
            refine u_aloadn (k := 60) rfl rfl ?_
            refine a_getr (k := 61) rfl fRX3_15 rfl rfl rfl ?_
            refine u_iload (k := 62) rfl rfl ?_
            refine a_dup2 (k := 63) rfl rfl rfl ?_
            refine u_iald (k := 64) rfl rfl rfl (by omega) ?_
            rw [ho _ (by omega)]
            refine a_iconst (k := 65) rfl ?_
            refine u_iload (k := 66) rfl rfl ?_
            refine a_ishl (k := 67) rfl ?_
            rw [s2_]
            refine a_ior (k := 68) rfl ?_
            rw [ior_nat (by have := o8 (pa L n / 2); omega) p2_]
            refine u_iast (k := 69) rfl rfl rfl (by omega) ?_
            refine u_aloadn (k := 70) rfl rfl ?_
            refine a_getr (k := 71) rfl fRX3_15 rfl rfl rfl ?_
            refine u_iload (k := 72) rfl rfl ?_
            refine a_dup2 (k := 73) rfl rfl rfl ?_
            refine u_iald (k := 74) rfl rfl rfl (by omega) ?_
            rw [put_ne (by simp; omega), ho _ (by omega)]
            refine a_iconst (k := 75) rfl ?_
            refine u_iload (k := 76) rfl rfl ?_
            refine a_ishl (k := 77) rfl ?_
            rw [s1_]
            refine a_ior (k := 78) rfl ?_
            rw [ior_nat (by have := o8 (pb L n / 2); omega) p1_]
            refine u_iast (k := 79) rfl rfl rfl (by omega) ?_
            refine a_goto (k := 80) rfl ?_
            refine u_iinc (k := 107) (lv' := [(2, _), (6, _), (5, _), (4, _), (0, _), (1, _), (3, _)]) rfl rfl (Nat.le_of_ble_eq_true rfl) (by omega) rfl ?_
            refine a_goto (k := 108) rfl ?_
            refine a_sub [4, 5, 0] rfl ?_
            first
              | exact ih (n + 1) _ (by omega) ⟨by rw [E1, put_eq], fun x hx => by rw [E2, put_ne (by simp)]; exact ho x hx, fun x hx => by rw [E3, put_ne (by simp)]; exact hu x hx⟩ (hF.p2 (by simp))
              | exact ih (n + 1) g (by omega) ⟨by rw [E1]; exact hk, fun x hx => by rw [E2]; exact ho x hx, fun x hx => by rw [E3]; exact hu x hx⟩ hF
              | exact ih (n + 1) _ (by omega) ⟨by rw [E1, put_ne (by simp), put_ne (by simp)]; exact hk, fun x hx => by
                  rw [E2]
                  by_cases h1 : x = pb L n / 2
                  · rw [h1, put_eq, if_neg (Ne.symm hne), if_pos rfl]
                  · rw [put_ne (by simp [h1]), if_neg h1]
                    by_cases h2 : x = pa L n / 2
                    · rw [h2, put_eq, if_pos rfl]
                    · rw [put_ne (by simp [h2]), if_neg h2]; exact ho x hx, fun x hx => by rw [E3, put_ne (by simp), put_ne (by simp)]; exact hu x hx⟩ ((hF.p1 (by simp)).p1 (by simp))
              | exact ih (n + 1) _ (by omega) ⟨by rw [E1, put_ne (by simp), put_ne (by simp)]; exact hk, fun x hx => by rw [E2, put_ne (by simp), put_ne (by simp)]; exact ho x hx, fun x hx => by
                  rw [E3]
                  by_cases h1 : x = pb L n / 2
                  · rw [h1, put_eq, if_neg (Ne.symm hne), if_pos rfl]
                  · rw [put_ne (by simp [h1]), if_neg h1]
                    by_cases h2 : x = pa L n / 2
                    · rw [h2, put_eq, if_pos rfl]
                    · rw [put_ne (by simp [h2]), if_neg h2]; exact hu x hx⟩ ((hF.p1 (by simp)).p1 (by simp))
        · have heq : pa L n / 2 = pb L n / 2 := by omega
          have E1 : nk L (n + 1) = nk L n ||| 2 ^ (pa L n / 2) := by simp only [nk]; rw [if_pos heq]
          have E2 : ∀ x, nq 1 L (n + 1) x = nq 1 L n x := fun x => by simp only [nq]; rw [if_neg (fun z => z.1 heq)]
          have E3 : ∀ x, nq 0 L (n + 1) x = nq 0 L n x := fun x => by simp only [nq]; rw [if_neg (fun z => z.1 heq)]
          refine u_aloadn (k := 44) rfl rfl ?_
          refine a_dup (k := 45) rfl rfl ?_
          refine a_geti (k := 46) rfl fRX3_52 rfl rfl ?_
          refine a_iconst (k := 47) rfl ?_
          refine u_iload (k := 48) rfl rfl ?_
          refine a_ishl (k := 49) rfl ?_
          rw [hk, s1_]
          refine a_ior (k := 50) rfl ?_
          rw [ior_nat (by omega) p1_]
          refine a_puti (k := 51) rfl pRX3_52 rfl rfl ?_
          refine a_goto (k := 52) rfl ?_
          refine u_iinc (k := 107) (lv' := [(2, _), (6, _), (5, _), (4, _), (0, _), (1, _), (3, _)]) rfl rfl (Nat.le_of_ble_eq_true rfl) (by omega) rfl ?_
          refine a_goto (k := 108) rfl ?_
          refine a_sub [4, 5, 0] rfl ?_
          first
            | exact ih (n + 1) _ (by omega) ⟨by rw [E1, put_eq], fun x hx => by rw [E2, put_ne (by simp)]; exact ho x hx, fun x hx => by rw [E3, put_ne (by simp)]; exact hu x hx⟩ (hF.p2 (by simp))
            | exact ih (n + 1) g (by omega) ⟨by rw [E1]; exact hk, fun x hx => by rw [E2]; exact ho x hx, fun x hx => by rw [E3]; exact hu x hx⟩ hF
            | exact ih (n + 1) _ (by omega) ⟨by rw [E1, put_ne (by simp), put_ne (by simp)]; exact hk, fun x hx => by
                rw [E2]
                by_cases h1 : x = pb L n / 2
                · rw [h1, put_eq, if_neg (Ne.symm hne), if_pos rfl]
                · rw [put_ne (by simp [h1]), if_neg h1]
                  by_cases h2 : x = pa L n / 2
                  · rw [h2, put_eq, if_pos rfl]
                  · rw [put_ne (by simp [h2]), if_neg h2]; exact ho x hx, fun x hx => by rw [E3, put_ne (by simp), put_ne (by simp)]; exact hu x hx⟩ ((hF.p1 (by simp)).p1 (by simp))
            | exact ih (n + 1) _ (by omega) ⟨by rw [E1, put_ne (by simp), put_ne (by simp)]; exact hk, fun x hx => by rw [E2, put_ne (by simp), put_ne (by simp)]; exact ho x hx, fun x hx => by
                rw [E3]
                by_cases h1 : x = pb L n / 2
                · rw [h1, put_eq, if_neg (Ne.symm hne), if_pos rfl]
                · rw [put_ne (by simp [h1]), if_neg h1]
                  by_cases h2 : x = pa L n / 2
                  · rw [h2, put_eq, if_pos rfl]
                  · rw [put_ne (by simp [h2]), if_neg h2]; exact hu x hx⟩ ((hF.p1 (by simp)).p1 (by simp))
      refine u_iloadn (k := 13) rfl rfl ?_
      refine u_iloadn (k := 14) rfl rfl ?_
      refine a_icmp_ge (k := 15) rfl (fun c_25 => ?_) (fun c_25 => ?_)
      · omega
      · refine u_aloadn (k := 16) rfl rfl ?_
        refine a_getr (k := 17) rfl fRX3_9 rfl rfl rfl ?_
        refine u_iloadn (k := 18) rfl rfl ?_
        refine u_iald (k := 19) rfl rfl rfl (by omega) ?_
        rw [ea]
        refine a_istoren (k := 20) (lv' := [(3, _), (0, _), (1, _), (2, _)]) rfl (Nat.le_of_ble_eq_true rfl) rfl ?_
        refine u_aloadn (k := 21) rfl rfl ?_
        refine a_getr (k := 22) rfl fRX3_9 rfl rfl rfl ?_
        refine u_iloadn (k := 23) rfl rfl ?_
        refine a_iconst (k := 24) rfl ?_
        refine u_iadd (k := 25) rfl (by omega) ?_
        refine u_iloadn (k := 26) rfl rfl ?_
        refine a_icmp_ge (k := 27) rfl (fun c_43 => ?_) (fun c_43 => ?_)
        · refine a_iconst (k := 32) rfl ?_
          refine u_ialdx (if n + 1 < L.length then n + 1 else 0)  (k := 33) rfl rfl rfl  (by split <;> omega) (by split <;> omega) ?_
          refine a_sub [1, 2, 3, 0] rfl ?_
          rw [mid]; exact body
        · refine u_iloadn (k := 28) rfl rfl ?_
          refine a_iconst (k := 29) rfl ?_
          refine u_iadd (k := 30) rfl (by omega) ?_
          refine a_goto (k := 31) rfl ?_
          refine u_ialdx (if n + 1 < L.length then n + 1 else 0)  (k := 33) rfl rfl rfl  (by split <;> omega) (by split <;> omega) ?_
          refine a_sub [1, 2, 3, 0] rfl ?_
          rw [mid]; exact body
  refine u_aloadn (k := 0) rfl rfl ?_
  refine a_getr (k := 1) rfl fRX3_15 rfl rfl rfl ?_
  refine a_iconst (k := 2) rfl ?_
  refine uv_stat2 (M' := mJ7_fill_53178) (k := 3) rfl lRX3_72 oJ7_fill_53178 vJ7_fill_53178 ⟨Nat.le_of_ble_eq_true rfl, Nat.le_of_ble_eq_true rfl⟩ rfl (Nat.le_of_ble_eq_true rfl) (j_fill 19 8 0 h rfl rfl (by omega) 0) (by intro r g hp; exact hp.1) (fun g1 hg1 => ?_)
  obtain ⟨-, b1, b2⟩ := hg1
  refine u_aloadn (k := 4) rfl rfl ?_
  refine a_getr (k := 5) rfl fRX3_18 rfl rfl rfl ?_
  refine a_iconst (k := 6) rfl ?_
  refine uv_stat2 (M' := mJ7_fill_53178) (k := 7) rfl lRX3_72 oJ7_fill_53178 vJ7_fill_53178 ⟨Nat.le_of_ble_eq_true rfl, Nat.le_of_ble_eq_true rfl⟩ rfl (Nat.le_of_ble_eq_true rfl) (j_fill 20 8 0 g1 rfl rfl (by omega) 0) (by intro r g hp; exact hp.1) (fun g2 hg2 => ?_)
  obtain ⟨-, b3, b4⟩ := hg2
  refine u_aloadn (k := 8) rfl rfl ?_
  refine a_iconst (k := 9) rfl ?_
  refine a_puti (k := 10) rfl pRX3_52 rfl rfl ?_
  refine a_iconst (k := 11) rfl ?_
  refine a_istoren (k := 12) (lv' := [(2, _), (0, _), (1, _)]) rfl (Nat.le_of_ble_eq_true rfl) rfl ?_
  refine a_sub [1, 2, 0] rfl ?_
  exact Lp L.length 0 _ (by omega) ⟨by rw [put_eq]; rfl, fun x hx => by rw [put_ne (by simp), b4 19 0 x (by simp) (by simp), b1 x hx]; rfl, fun x hx => by rw [put_ne (by simp), b3 x hx]; rfl⟩ (((b2.mono (by simp) (by simp)).tr b4 (by simp) (by simp)).p2 (by simp))
end
section
/-! the list of moves: c up to d, by a test p -/
def mrow (p : Nat → Nat → Bool) (c n : Nat) : List Nat := ((List.range n).filter (fun d => decide (c ≤ d) && p c d)).map (fun d => 10 * c + d)
def mpre (p : Nat → Nat → Bool) : Nat → List Nat
  | 0 => []
  | c + 1 => mpre p c ++ mrow p c 8
theorem mrow_s (p : Nat → Nat → Bool) (c n : Nat) : mrow p c (n + 1) = mrow p c n ++ (if c ≤ n ∧ p c n = true then [10 * c + n] else []) := by
  unfold mrow
  rw [List.range_succ, List.filter_append, List.map_append]
  congr 1
  by_cases h1 : c ≤ n <;> by_cases h2 : p c n = true <;> simp [h1, h2]
theorem mrow_0 (p : Nat → Nat → Bool) (c : Nat) : ∀ n, n ≤ c → mrow p c n = []
  | 0, _ => rfl
  | n + 1, h => by
    rw [mrow_s, mrow_0 p c n (by omega), if_neg (by omega)]
    rfl
theorem mrow_len (p : Nat → Nat → Bool) (c : Nat) : ∀ n, (mrow p c n).length ≤ n - c
  | 0 => by simp [mrow]
  | n + 1 => by
    rw [mrow_s, List.length_append]
    have := mrow_len p c n
    split
    · simp; omega
    · simp; omega
theorem mrow_stay (p : Nat → Nat → Bool) (c : Nat) : ∀ (k n : Nat), (∀ d, n ≤ d → d < n + k → p c d = false) → mrow p c (n + k) = mrow p c n
  | 0, n, _ => rfl
  | k + 1, n, h => by
    rw [← Nat.add_assoc, mrow_s, mrow_stay p c k n (fun d h1 h2 => h d h1 (by omega)), if_neg (fun z => by rw [h (n + k) (by omega) (by omega)] at z; cases z.2)]
    simp
def tri : Nat → Nat
  | 0 => 0
  | c + 1 => tri c + (8 - c)
theorem mpre_len (p : Nat → Nat → Bool) : ∀ c, (mpre p c).length ≤ tri c
  | 0 => Nat.le_refl 0
  | c + 1 => by
    have h1 := mpre_len p c
    have h2 := mrow_len p c 8
    unfold mpre tri
    rw [List.length_append]
    omega
theorem tri_ok : ∀ c, c < 8 → ∀ d, d < 8 → c ≤ d → tri c + (d - c) < 36 := by decide
/-- numbers that the list holds -/
def NL (l : List Nat) (g : HH) : Prop := g 17 0 5 = (l.length : Int) ∧ ∀ i, i < l.length → g 21 0 i = (fn l i : Int)
theorem NL.add {l : List Nat} {g : HH} {v : Nat} {w : Int} (h : NL l g) (hw : w = (v : Int)) : NL (l ++ [v]) (put (put g 21 0 l.length w) 17 0 5 ((l.length : Int) + 1)) := by
  subst hw
  refine ⟨by rw [put_eq]; simp, fun i hi => ?_⟩
  rw [List.length_append] at hi
  simp at hi
  rw [put_ne (by simp)]
  by_cases he : i = l.length
  · subst he; rw [put_eq, fn_app2]
  · rw [put_ne (by simp [he]), fn_app1 (by omega)]; exact h.2 i (by omega)
/-- which moves there are, by curls k, overs o, unders u, with free crossings F -/
def mvp (k : Nat) (o u : Nat → Nat) (F : Nat) (c d : Nat) : Bool := F.testBit c && ((k &&& 2 ^ c ||| o c &&& u c) &&& F).testBit d
theorem mpre_no (p : Nat → Nat → Bool) (c : Nat) (h : ∀ d, p c d = false) : mpre p (c + 1) = mpre p c := by
  have := mrow_stay p c 8 0 (fun d _ _ => h d)
  rw [mpre, show (8 : Nat) = 0 + 8 from rfl, this, mrow_0 p c 0 (by omega), List.append_nil]
theorem x_listMoves (k : Nat) (o u : Nat → Nat) (F : Nat) (h : HH) (hk : h 17 0 4 = (k : Int)) (ho : ∀ x, x < 8 → h 19 0 x = (o x : Int)) (hu : ∀ x, x < 8 → h 20 0 x = (u x : Int)) (k8 : k < 2 ^ 8) (o8 : ∀ x, o x < 2 ^ 8) (u8 : ∀ x, u x < 2 ^ 8) (hF2 : F < 2 ^ 31) :
    Sp mX3_listMoves [vr 17 0, vi F] h (fun r g => r = none ∧ NL (mpre (mvp k o u F) 8) g ∧ Fr [(21, 0)] [(17, 0, 5)] h g) := by
  refine Sp.of rfl kX3_listMoves (Nat.le_of_ble_eq_true rfl) ?_
  have A : ∀ (m c : Nat) (g : HH), c + m = 8 → NL (mpre (mvp k o u F) c) g → Fr [(21, 0)] [(17, 0, 5)] h g → AW mX3_listMoves (fun r g => r = none ∧ NL (mpre (mvp k o u F) 8) g ∧ Fr [(21, 0)] [(17, 0, 5)] h g) 7 [(0, vr 17 0), (1, vi F), (2, vi c)] [] g := by
    intro m
    induction m with
    | zero =>
      intro c g hc hN hF
      have hc : c = 8 := by omega
      subst hc
      refine u_iloadn (k := 5) rfl rfl ?_
      refine a_bipush (k := 6) rfl ?_
      refine a_icmp_ge (k := 7) rfl (fun c_10 => ?_) (fun c_10 => ?_)
      · refine a_return (k := 69) rfl rfl ?_
        exact ⟨rfl, hN, hF⟩
      · omega
    | succ m ih =>
      intro c g hc hN hF
      have e0 : tbi F c = if F.testBit c then 1 else 0 := rfl
      have pw : 2 ^ c < 2 ^ 31 := Nat.pow_lt_pow_right (by omega) (by omega)
      have epar : iand (ior (iand (k : Int) ((2 ^ c : Nat) : Int)) (iand (o c : Int) (u c : Int))) (F : Int) = (((k &&& 2 ^ c ||| o c &&& u c) &&& F : Nat) : Int) := by
        have l1 : k &&& 2 ^ c < 2 ^ 31 := Nat.lt_of_le_of_lt Nat.and_le_left (by omega)
        have l2 : o c &&& u c < 2 ^ 31 := Nat.lt_of_le_of_lt Nat.and_le_left (by have := o8 c; omega)
        rw [iand_nat (by omega), iand_nat (by have := o8 c; omega), ior_nat l1 l2, iand_nat (Nat.or_lt_two_pow l1 l2)]
      have lpar : (k &&& 2 ^ c ||| o c &&& u c) &&& F < 2 ^ 8 := Nat.lt_of_le_of_lt Nat.and_le_left (Nat.or_lt_two_pow (Nat.lt_of_le_of_lt Nat.and_le_left k8) (Nat.lt_of_le_of_lt Nat.and_le_left (o8 c)))
      have hk' : g 17 0 4 = (k : Int) := (hF 17 0 4 (by simp) (by simp)).trans hk
      have ho' : g 19 0 c = (o c : Int) := (hF 19 0 c (by simp) (by simp)).trans (ho c (by omega))
      have hu' : g 20 0 c = (u c : Int) := (hF 20 0 c (by simp) (by simp)).trans (hu c (by omega))
      generalize hpar : (k &&& 2 ^ c ||| o c &&& u c) &&& F = pr at epar lpar
      have B : F.testBit c = true → ∀ (m2 d : Nat) (g : HH), d + m2 = 8 → c ≤ d → NL (mpre (mvp k o u F) c ++ mrow (mvp k o u F) c d) g → Fr [(21, 0)] [(17, 0, 5)] h g → AW mX3_listMoves (fun r g => r = none ∧ NL (mpre (mvp k o u F) 8) g ∧ Fr [(21, 0)] [(17, 0, 5)] h g) 52 [(0, vr 17 0), (1, vi F), (2, vi c), (3, vi pr), (4, vi d)] [] g := by
        intro hFc m2
        have hpd : ∀ d, mvp k o u F c d = pr.testBit d := fun d => by simp [mvp, hFc, hpar]
        induction m2 with
        | zero =>
          intro d g hd hcd hN hF
          have hd : d = 8 := by omega
          subst hd
          refine u_iload (k := 34) rfl rfl ?_
          refine a_bipush (k := 35) rfl ?_
          refine a_icmp_ge (k := 36) rfl (fun c_56 => ?_) (fun c_56 => ?_)
          · refine u_iinc (k := 67) (lv' := [(2, _), (0, _), (1, _), (3, _), (4, _)]) rfl rfl (Nat.le_of_ble_eq_true rfl) (by omega) rfl ?_
            refine a_goto (k := 68) rfl ?_
            refine a_sub [1, 2, 0] rfl ?_
            exact ih (c + 1) g (by omega) hN hF
          · omega
        | succ m2 ih2 =>
          intro d g hd hcd hN hF
          have e1 : tbi pr d = if pr.testBit d then 1 else 0 := rfl
          have hml := mpre_len (mvp k o u F) c
          have hrl := mrow_len (mvp k o u F) c d
          have htr := tri_ok c (by omega) d (by omega) hcd
          have hlen : (mpre (mvp k o u F) c ++ mrow (mvp k o u F) c d).length < 36 := by rw [List.length_append]; omega
          have hN1 := hN.1
          refine u_iload (k := 34) rfl rfl ?_
          refine a_bipush (k := 35) rfl ?_
          refine a_icmp_ge (k := 36) rfl (fun c_56 => ?_) (fun c_56 => ?_)
          · omega
          · refine u_iloadn (k := 37) rfl rfl ?_
            refine u_iload (k := 38) rfl rfl ?_
            refine a_ishr (k := 39) rfl ?_
            rw [ishr_nat (by omega) (by omega)]
            refine a_if_eq (k := 40) rfl (fun c_63 => ?_) (fun c_63 => ?_)
            · refine u_iinc (k := 67) (lv' := [(2, _), (0, _), (1, _), (3, _), (4, _)]) rfl rfl (Nat.le_of_ble_eq_true rfl) (by omega) rfl ?_
              refine a_goto (k := 68) rfl ?_
              refine a_sub [1, 2, 0] rfl ?_
              refine ih (c + 1) g (by omega) ?_ hF
              have hz : pr >>> d = 0 := by omega
              have := mrow_stay (mvp k o u F) c (8 - d) d (fun d2 h1 h2 => by
                rw [hpd, show d2 = d + (d2 - d) by omega, ← Nat.testBit_shiftRight, hz, Nat.zero_testBit])
              rw [show d + (8 - d) = 8 by omega] at this
              rw [mpre, this]
              exact hN
            · refine u_iloadn (k := 41) rfl rfl ?_
              refine u_iload (k := 42) rfl rfl ?_
              refine i_statN2 (M' := mX10_isIn) (k := 43) rfl lRX3_68 oX10_isIn vX10_isIn ⟨Nat.le_of_ble_eq_true rfl, Nat.le_of_ble_eq_true rfl⟩ rfl (Nat.le_of_ble_eq_true rfl) (x_isIn pr d g (by omega) (by omega)) ?_
              refine a_if_eq (k := 44) rfl (fun c_72 => ?_) (fun c_72 => ?_)
              · have hb : ¬ pr.testBit d = true := by rw [e1] at c_72; split at c_72 <;> simp_all
                have er : mrow (mvp k o u F) c (d + 1) = mrow (mvp k o u F) c d := by rw [mrow_s, if_neg (fun z => hb (by rw [← hpd]; exact z.2)), List.append_nil]
                refine u_iinc (k := 65) (lv' := [(4, _), (0, _), (1, _), (2, _), (3, _)]) rfl rfl (Nat.le_of_ble_eq_true rfl) (by omega) rfl ?_
                refine a_goto (k := 66) rfl ?_
                refine a_sub [1, 2, 3, 4, 0] rfl ?_
                first
                  | exact ih2 (d + 1) g (by omega) (by omega) (by rw [er]; exact hN) hF
                  | exact ih2 (d + 1) _ (by omega) (by omega) (by rw [er, ← List.append_assoc]; exact hN.add (by push_cast; rfl)) ((hF.p1 (by simp)).p2 (by simp))
              · have hb : pr.testBit d = true := by rw [e1] at c_72; split at c_72 <;> simp_all
                have er : mrow (mvp k o u F) c (d + 1) = mrow (mvp k o u F) c d ++ [10 * c + d] := by rw [mrow_s, if_pos ⟨hcd, by rw [hpd]; exact hb⟩]
                refine u_aloadn (k := 45) rfl rfl ?_
                refine a_geti (k := 46) rfl fRX3_49 rfl rfl ?_
                refine a_bipush (k := 47) rfl ?_
                refine a_icmp_ge (k := 48) rfl (fun c_81 => ?_) (fun c_81 => ?_)
                · omega
                · refine u_aloadn (k := 49) rfl rfl ?_
                  refine a_getr (k := 50) rfl fRX3_21 rfl rfl rfl ?_
                  refine u_aloadn (k := 51) rfl rfl ?_
                  refine a_geti (k := 52) rfl fRX3_49 rfl rfl ?_
                  rw [hN1]
                  refine a_bipush (k := 53) rfl ?_
                  refine u_iloadn (k := 54) rfl rfl ?_
                  refine u_imul (k := 55) rfl (by omega) ?_
                  refine u_iload (k := 56) rfl rfl ?_
                  refine u_iadd (k := 57) rfl (by omega) ?_
                  refine u_iast (k := 58) rfl rfl rfl (by omega) ?_
                  refine u_aloadn (k := 59) rfl rfl ?_
                  refine a_dup (k := 60) rfl rfl ?_
                  refine a_geti (k := 61) rfl fRX3_49 rfl rfl ?_
                  rw [put_ne (by simp), hN1]
                  refine a_iconst (k := 62) rfl ?_
                  refine u_iadd (k := 63) rfl (by omega) ?_
                  refine a_puti (k := 64) rfl pRX3_49 rfl rfl ?_
                  refine u_iinc (k := 65) (lv' := [(4, _), (0, _), (1, _), (2, _), (3, _)]) rfl rfl (Nat.le_of_ble_eq_true rfl) (by omega) rfl ?_
                  refine a_goto (k := 66) rfl ?_
                  refine a_sub [1, 2, 3, 4, 0] rfl ?_
                  first
                    | exact ih2 (d + 1) g (by omega) (by omega) (by rw [er]; exact hN) hF
                    | exact ih2 (d + 1) _ (by omega) (by omega) (by rw [er, ← List.append_assoc]; exact hN.add (by push_cast; rfl)) ((hF.p1 (by simp)).p2 (by simp))
      refine u_iloadn (k := 5) rfl rfl ?_
      refine a_bipush (k := 6) rfl ?_
      refine a_icmp_ge (k := 7) rfl (fun c_10 => ?_) (fun c_10 => ?_)
      · omega
      · refine u_iloadn (k := 8) rfl rfl ?_
        refine u_iloadn (k := 9) rfl rfl ?_
        refine i_statN2 (M' := mX10_isIn) (k := 10) rfl lRX3_68 oX10_isIn vX10_isIn ⟨Nat.le_of_ble_eq_true rfl, Nat.le_of_ble_eq_true rfl⟩ rfl (Nat.le_of_ble_eq_true rfl) (x_isIn F c g hF2 (by omega)) ?_
        refine a_if_ne (k := 11) rfl (fun c_18 => ?_) (fun c_18 => ?_)
        · have hb : F.testBit c = true := by rw [e0] at c_18; split at c_18 <;> simp_all
          refine u_aloadn (k := 13) rfl rfl ?_
          refine a_geti (k := 14) rfl fRX3_52 rfl rfl ?_
          refine a_iconst (k := 15) rfl ?_
          refine u_iloadn (k := 16) rfl rfl ?_
          refine a_ishl (k := 17) rfl ?_
          rw [hk', shl1 (by omega)]
          refine a_iand (k := 18) rfl ?_
          refine u_aloadn (k := 19) rfl rfl ?_
          refine a_getr (k := 20) rfl fRX3_15 rfl rfl rfl ?_
          refine u_iloadn (k := 21) rfl rfl ?_
          refine u_iald (k := 22) rfl rfl rfl (by omega) ?_
          rw [ho']
          refine u_aloadn (k := 23) rfl rfl ?_
          refine a_getr (k := 24) rfl fRX3_18 rfl rfl rfl ?_
          refine u_iloadn (k := 25) rfl rfl ?_
          refine u_iald (k := 26) rfl rfl rfl (by omega) ?_
          rw [hu']
          refine a_iand (k := 27) rfl ?_
          refine a_ior (k := 28) rfl ?_
          refine u_iloadn (k := 29) rfl rfl ?_
          refine a_iand (k := 30) rfl ?_
          rw [epar]
          refine a_istoren (k := 31) (lv' := [(3, _), (0, _), (1, _), (2, _)]) rfl (Nat.le_of_ble_eq_true rfl) rfl ?_
          refine u_iloadn (k := 32) rfl rfl ?_
          refine a_istore (k := 33) (lv' := [(4, _), (3, _), (0, _), (1, _), (2, _)]) rfl (Nat.le_of_ble_eq_true rfl) rfl ?_
          refine a_sub [2, 3, 4, 1, 0] rfl ?_
          exact B hb (8 - c) c g (by omega) (Nat.le_refl c) (by rw [mrow_0 _ _ _ (Nat.le_refl c), List.append_nil]; exact hN) hF
        · have hb : ¬ F.testBit c = true := by rw [e0] at c_18; split at c_18 <;> simp_all
          refine a_goto (k := 12) rfl ?_
          refine u_iinc (k := 67) (lv' := [(2, _), (0, _), (1, _)]) rfl rfl (Nat.le_of_ble_eq_true rfl) (by omega) rfl ?_
          refine a_goto (k := 68) rfl ?_
          refine a_sub [1, 2, 0] rfl ?_
          exact ih (c + 1) g (by omega) (by rw [mpre_no _ _ (fun d => by simp [mvp, hb])]; exact hN) hF
  refine u_aloadn (k := 0) rfl rfl ?_
  refine a_iconst (k := 1) rfl ?_
  refine a_puti (k := 2) rfl pRX3_49 rfl rfl ?_
  refine a_iconst (k := 3) rfl ?_
  refine a_istoren (k := 4) (lv' := [(2, _), (0, _), (1, _)]) rfl (Nat.le_of_ble_eq_true rfl) rfl ?_
  refine a_sub [1, 2, 0] rfl ?_
  exact A 8 0 _ (by omega) ⟨by rw [put_eq]; rfl, fun i hi => absurd hi (Nat.not_lt_zero i)⟩ (Fr.rf.p2 (by simp))
end
section
def Lr (f : Nat → Nat) (c S W : Nat) : List Nat := tr_ f S W (2 * c)
def cls (f : Nat → Nat) (c S W : Nat) : Nat := nk (Lr f c S W) (Lr f c S W).length
def mls (f : Nat → Nat) (c S W H : Nat) : List Nat := mpre (mvp (cls f c S W) (nq 1 (Lr f c S W) (Lr f c S W).length) (nq 0 (Lr f c S W) (Lr f c S W).length) (ndiff S H)) 8
def tml : List (Nat × Nat) := [(17, 0), (18, 0), (19, 0), (20, 0), (21, 0)]
/-- what lookAt leaves -/
def LK (f : Nat → Nat) (c S W H : Nat) (g : HH) : Prop := NL (mls f c S W H) g ∧ g 17 0 4 = (cls f c S W : Int)
/-- rope j of h: c crossings, thread f, salt s -/
def RP (j c : Nat) (f : Nat → Nat) (s : Nat) (h : HH) : Prop := h 5 j 2 = (c : Int) ∧ c ≤ 8 ∧ h 5 j 3 = (s : Int) ∧ s < 256 ∧ (∀ i, i < 2 * c → h 6 j i = (f i : Int)) ∧ ∀ i, i < 2 * c → f i < 16
theorem RP.keep {j c s : Nat} {f : Nat → Nat} {h g : HH} (h1 : RP j c f s h) (h2 : ∀ k, g 5 j k = h 5 j k) (h3 : ∀ k, g 6 j k = h 6 j k) : RP j c f s g := by
  obtain ⟨a, b, d, e, i, k⟩ := h1
  exact ⟨by rw [h2]; exact a, b, by rw [h2]; exact d, e, fun q hq => by rw [h3]; exact i q hq, k⟩
theorem RP.fr {j c s : Nat} {f : Nat → Nat} {h g : HH} {T : List (Nat × Nat)} {K : List (Nat × Nat × Nat)} (h1 : RP j c f s h) (hF : Fr T K h g) (h5 : (5, j) ∉ T) (h6 : (6, j) ∉ T) (k5 : ∀ k, (5, j, k) ∉ K) (k6 : ∀ k, (6, j, k) ∉ K) : RP j c f s g := h1.keep (fun k => hF 5 j k h5 (k5 k)) (fun k => hF 6 j k h6 (k6 k))
theorem Lr_lt {f : Nat → Nat} {c S W : Nat} (hf2 : ∀ i, i < 2 * c → f i < 16) : ∀ q, fn (Lr f c S W) q < 16 := fun q => tr_lt hf2 q
theorem Lr_len (f : Nat → Nat) (c S W : Nat) : (Lr f c S W).length ≤ 2 * c := tr_len f S W (2 * c)
theorem x_lookAt (j c s S W H : Nat) (f : Nat → Nat) (h : HH) (hR : RP j c f s h) (hS : S < 2 ^ 31) (hW : W < 2 ^ 31) (hH : H < 2 ^ 31) :
    Sp mX3_lookAt [vr 17 0, vr 5 j, vi S, vi W, vi H] h (fun r g => r = none ∧ LK f c S W H g ∧ Fr tml [] h g) := by
  refine Sp.of rfl kX3_lookAt (Nat.le_of_ble_eq_true rfl) ?_
  obtain ⟨r1, r2, r3, r4, r5, r6⟩ := hR
  have hl := Lr_len f c S W
  refine u_aloadn (k := 0) rfl rfl ?_
  refine u_aloadn (k := 1) rfl rfl ?_
  refine u_aloadn (k := 2) rfl rfl ?_
  refine u_iloadn (k := 3) rfl rfl ?_
  refine u_iloadn (k := 4) rfl rfl ?_
  refine ui_virt3 (M' := mX3_takeRow) (k := 5) rfl lRX3_38 oX3_takeRow vX3_takeRow ⟨Nat.le_of_ble_eq_true rfl, Nat.le_of_ble_eq_true rfl⟩ rfl rfl (Nat.le_of_ble_eq_true rfl) (x_takeRow j c S W f h r1 r2 r5 r6 hS hW) (by intro r g hp; exact ⟨_, hp.1⟩) (fun r g1 hg1 => ?_)
  obtain ⟨e1, b1, b2⟩ := hg1; cases e1
  refine uv_virt1 (M' := mX3_seeNeighbours) (k := 6) rfl lRX3_42 oX3_seeNeighbours vX3_seeNeighbours ⟨Nat.le_of_ble_eq_true rfl, Nat.le_of_ble_eq_true rfl⟩ rfl rfl (Nat.le_of_ble_eq_true rfl) (x_seeN (Lr f c S W) g1 (by omega) b1 (Lr_lt r6)) (by intro r g hp; exact hp.1) (fun g2 hg2 => ?_)
  obtain ⟨-, b3, b4⟩ := hg2
  refine u_aloadn (k := 7) rfl rfl ?_
  refine u_iloadn (k := 8) rfl rfl ?_
  refine u_iload (k := 9) rfl rfl ?_
  refine a_iconst (k := 10) rfl ?_
  refine a_ixor (k := 11) rfl ?_
  refine a_iand (k := 12) rfl ?_
  rw [iandn_nat hS hH]
  refine uv_virt1 (M' := mX3_listMoves) (k := 13) rfl lRX3_46 oX3_listMoves vX3_listMoves ⟨Nat.le_of_ble_eq_true rfl, Nat.le_of_ble_eq_true rfl⟩ rfl rfl (Nat.le_of_ble_eq_true rfl) (x_listMoves (cls f c S W) (nq 1 (Lr f c S W) (Lr f c S W).length) (nq 0 (Lr f c S W) (Lr f c S W).length) (ndiff S H) g2 b3.1 b3.2.1 b3.2.2 (nk_lt (Lr_lt r6) _) (fun x => nq_lt (Lr_lt r6) _ x) (fun x => nq_lt (Lr_lt r6) _ x) (Nat.lt_of_le_of_lt (ndiff_le S H) hS)) (by intro r g hp; exact hp.1) (fun g3 hg3 => ?_)
  obtain ⟨-, b5, b6⟩ := hg3
  refine a_return (k := 14) rfl rfl ?_
  exact ⟨rfl, ⟨b5, by rw [b6 17 0 4 (by simp) (by simp)]; exact b3.1⟩, ((b2.mono (by simp [tml]) (by simp)).tr b4 (by simp [tml]) (by simp [tml])).tr b6 (by simp [tml]) (by simp [tml])⟩
theorem x_lookNow (j c s : Nat) (f : Nat → Nat) (h : HH) (hR : RP j c f s h) :
    Sp mX3_lookNow [vr 17 0, vr 5 j] h (fun r g => r = none ∧ LK f c (2 ^ c - 1) 0 s g ∧ Fr tml [] h g) := by
  refine Sp.of rfl kX3_lookNow (Nat.le_of_ble_eq_true rfl) ?_
  have hR' := hR
  obtain ⟨r1, r2, r3, r4, r5, r6⟩ := hR
  have hq : 2 ^ c ≤ 2 ^ 8 := Nat.pow_le_pow_right (by omega) r2
  refine u_aloadn (k := 0) rfl rfl ?_
  refine u_aloadn (k := 1) rfl rfl ?_
  refine u_aloadn (k := 2) rfl rfl ?_
  refine i_virt0 (M' := mX6_everyCrossing) (k := 3) rfl lRX3_24 oX6_everyCrossing vX6_everyCrossing ⟨Nat.le_of_ble_eq_true rfl, Nat.le_of_ble_eq_true rfl⟩ rfl rfl (Nat.le_of_ble_eq_true rfl) (x_every j c h r1 r2) ?_
  refine a_iconst (k := 4) rfl ?_
  refine u_aloadn (k := 5) rfl rfl ?_
  refine a_geti (k := 6) rfl fRX3_30 rfl rfl ?_
  rw [r3]
  refine uv_virt4 (M' := mX3_lookAt) (k := 7) rfl lRX3_34 oX3_lookAt vX3_lookAt ⟨Nat.le_of_ble_eq_true rfl, Nat.le_of_ble_eq_true rfl⟩ rfl rfl (Nat.le_of_ble_eq_true rfl) (x_lookAt j c s (2 ^ c - 1) 0 s f h hR' (by omega) (by omega) (by omega)) (by intro r g hp; exact hp.1) (fun g1 hg1 => ?_)
  refine a_return (k := 8) rfl rfl ?_
  exact hg1
theorem x_moveAt (l : List Nat) (d : Int) (h : HH) (hN : NL l h) (hl : l.length ≤ 36) : SpI mX3_moveAt [vr 17 0, vi d] h (if 0 ≤ d ∧ d < l.length then (fn l d.toNat : Int) else -1) h := by
  refine Sp.of rfl kX3_moveAt (Nat.le_of_ble_eq_true rfl) ?_
  have h1 := hN.1
  refine u_iloadn (k := 0) rfl rfl ?_
  refine a_if_lt (k := 1) rfl (fun c_1 => ?_) (fun c_1 => ?_)
  · refine a_iconst (k := 14) rfl ?_
    refine a_ireturn (k := 15) rfl rfl ?_
    exact ⟨by congr 2; split <;> omega, rfl⟩
  · refine u_iloadn (k := 2) rfl rfl ?_
    refine u_aloadn (k := 3) rfl rfl ?_
    refine a_geti (k := 4) rfl fRX3_49 rfl rfl ?_
    refine a_icmp_ge (k := 5) rfl (fun c_9 => ?_) (fun c_9 => ?_)
    · refine a_iconst (k := 14) rfl ?_
      refine a_ireturn (k := 15) rfl rfl ?_
      exact ⟨by congr 2; split <;> omega, rfl⟩
    · refine u_iloadn (k := 6) rfl rfl ?_
      refine a_bipush (k := 7) rfl ?_
      refine a_icmp_ge (k := 8) rfl (fun c_15 => ?_) (fun c_15 => ?_)
      · refine a_iconst (k := 14) rfl ?_
        refine a_ireturn (k := 15) rfl rfl ?_
        exact ⟨by congr 2; split <;> omega, rfl⟩
      · refine u_aloadn (k := 9) rfl rfl ?_
        refine a_getr (k := 10) rfl fRX3_21 rfl rfl rfl ?_
        refine u_iloadn (k := 11) rfl rfl ?_
        refine a_iald (k := 12) rfl rfl rfl (by omega) (by omega) ?_
        rw [hN.2 d.toNat (by omega)]
        refine a_goto (k := 13) rfl ?_
        refine a_ireturn (k := 15) rfl rfl ?_
        exact ⟨by congr 2; split <;> omega, rfl⟩
theorem x_contains (l : List Nat) (v : Nat) (h : HH) (hN : NL l h) (hl : l.length ≤ 36) : SpI mX3_contains [vr 17 0, vi v] h (if v ∈ l then 1 else 0) h := by
  refine Sp.of rfl kX3_contains (Nat.le_of_ble_eq_true rfl) ?_
  have L : ∀ (m n : Nat), n + m = l.length → (∀ i, i < n → fn l i ≠ v) → AW mX3_contains (fun r g => r = some (vi (if v ∈ l then 1 else 0)) ∧ g = h) 2 [(0, vr 17 0), (1, vi v), (2, vi n)] [] h := by
    intro m
    have h1 := hN.1
    induction m with
    | zero =>
      intro n hn hp
      have hno : v ∉ l := by
        intro hv
        obtain ⟨i, hi⟩ := List.getElem?_of_mem hv
        have hlt := (List.getElem?_eq_some_iff.mp hi).1
        exact hp i (by omega) (by simp [fn, List.getD, hi])
      refine u_iloadn (k := 2) rfl rfl ?_
      refine u_aloadn (k := 3) rfl rfl ?_
      refine a_geti (k := 4) rfl fRX3_49 rfl rfl ?_
      refine a_icmp_ge (k := 5) rfl (fun c_7 => ?_) (fun c_7 => ?_)
      · refine a_iconst (k := 19) rfl ?_
        refine a_zreturn (k := 20) rfl rfl (by omega) ?_
        exact ⟨by rw [if_neg hno], rfl⟩
      · omega
    | succ m ih =>
      intro n hn hp
      have h2 := hN.2 n (by omega)
      refine u_iloadn (k := 2) rfl rfl ?_
      refine u_aloadn (k := 3) rfl rfl ?_
      refine a_geti (k := 4) rfl fRX3_49 rfl rfl ?_
      refine a_icmp_ge (k := 5) rfl (fun c_7 => ?_) (fun c_7 => ?_)
      · omega
      · refine u_iloadn (k := 6) rfl rfl ?_
        refine a_bipush (k := 7) rfl ?_
        refine a_icmp_ge (k := 8) rfl (fun c_13 => ?_) (fun c_13 => ?_)
        · omega
        · refine u_aloadn (k := 9) rfl rfl ?_
          refine a_getr (k := 10) rfl fRX3_21 rfl rfl rfl ?_
          refine u_iloadn (k := 11) rfl rfl ?_
          refine u_iald (k := 12) rfl rfl rfl (by omega) ?_
          refine u_iloadn (k := 13) rfl rfl ?_
          refine a_icmp_ne (k := 14) rfl (fun c_23 => ?_) (fun c_23 => ?_)
          · refine u_iinc (k := 17) (lv' := [(2, _), (0, _), (1, _)]) rfl rfl (Nat.le_of_ble_eq_true rfl) (by omega) rfl ?_
            refine a_goto (k := 18) rfl ?_
            refine a_sub [1, 2, 0] rfl ?_
            exact ih (n + 1) (by omega) (fun i hi => by by_cases he : i = n; (subst he; omega); exact hp i (by omega))
          · refine a_iconst (k := 15) rfl ?_
            refine a_zreturn (k := 16) rfl rfl (by omega) ?_
            refine ⟨?_, rfl⟩
            have : v ∈ l := by
              have hv : fn l n = v := by omega
              rw [← hv, fn, List.getD, List.getElem?_eq_getElem (by omega)]
              simp
            rw [if_pos this]
  refine a_iconst (k := 0) rfl ?_
  refine a_istoren (k := 1) (lv' := [(2, _), (0, _), (1, _)]) rfl (Nat.le_of_ble_eq_true rfl) rfl ?_
  refine a_sub [1, 2, 0] rfl ?_
  exact L l.length 0 (by omega) (fun i hi => absurd hi (Nat.not_lt_zero i))
theorem mrow_mem {p : Nat → Nat → Bool} {c n v : Nat} : v ∈ mrow p c n ↔ ∃ d, d < n ∧ c ≤ d ∧ p c d = true ∧ v = 10 * c + d := by
  unfold mrow
  simp only [List.mem_map, List.mem_filter, List.mem_range, Bool.and_eq_true, decide_eq_true_eq]
  constructor
  · rintro ⟨d, ⟨h1, h2, h3⟩, rfl⟩
    exact ⟨d, h1, h2, h3, rfl⟩
  · rintro ⟨d, h1, h2, h3, rfl⟩
    exact ⟨d, ⟨h1, h2, h3⟩, rfl⟩
theorem mpre_mem {p : Nat → Nat → Bool} {v : Nat} : ∀ {n : Nat}, v ∈ mpre p n ↔ ∃ c d, c < n ∧ d < 8 ∧ c ≤ d ∧ p c d = true ∧ v = 10 * c + d
  | 0 => by simp [mpre]
  | n + 1 => by
    unfold mpre
    rw [List.mem_append, mpre_mem, mrow_mem]
    constructor
    · rintro (⟨c, d, h1, h2, h3⟩ | ⟨d, h1, h2, h3, h4⟩)
      · exact ⟨c, d, by omega, h2, h3⟩
      · exact ⟨n, d, by omega, h1, h2, h3, h4⟩
    · rintro ⟨c, d, h1, h2, h3, h4, h5⟩
      by_cases he : c = n
      · subst he
        exact Or.inr ⟨d, h2, h3, h4, h5⟩
      · exact Or.inl ⟨c, d, by omega, h2, h3, h4, h5⟩
theorem mls_len (f : Nat → Nat) (c S W H : Nat) : (mls f c S W H).length ≤ 36 := Nat.le_trans (mpre_len _ 8) (by decide)
def tkb (v : Nat) : Nat := 2 ^ (v / 10) ||| 2 ^ (v % 10)
/-- one step of the greedy way: all free curls, or the first move -/
def lstep (f : Nat → Nat) (c W H S : Nat) : Nat := ndiff S (if ndiff (cls f c S W) H ≠ 0 then ndiff (cls f c S W) H else tkb (fn (mls f c S W H) 0))
def lft (f : Nat → Nat) (c W H : Nat) : Nat → Nat → Nat
  | 0, S => S
  | n + 1, S => if mls f c S W H = [] then S else lft f c W H n (lstep f c W H S)
theorem mls_0 {f : Nat → Nat} {c S W H : Nat} (h : mls f c S W H ≠ []) : ∃ a b, a < 8 ∧ b < 8 ∧ a ≤ b ∧ fn (mls f c S W H) 0 = 10 * a + b ∧ 10 * a + b ∈ mls f c S W H := by
  cases hm : mls f c S W H with
  | nil => exact absurd hm h
  | cons v l =>
    have hv : v ∈ mls f c S W H := by rw [hm]; exact List.mem_cons_self
    obtain ⟨a, b, h1, h2, h3, h4, h5⟩ := mpre_mem.mp hv
    subst h5
    exact ⟨a, b, h1, h2, h3, by simp [fn], List.mem_cons_self⟩
theorem lstep_le (f : Nat → Nat) (c W H S : Nat) : lstep f c W H S ≤ S := ndiff_le _ _
theorem x_leftOf (j c s S W H : Nat) (f : Nat → Nat) (h : HH) (hR : RP j c f s h) (hS : S < 2 ^ 31) (hW : W < 2 ^ 31) (hH : H < 2 ^ 31) :
    Sp mX3_leftOf [vr 17 0, vr 5 j, vi S, vi W, vi H] h (fun r g => r = some (vi (lft f c W H 8 S)) ∧ Fr tml [] h g) := by
  refine Sp.of rfl kX3_leftOf (Nat.le_of_ble_eq_true rfl) ?_
  have L : ∀ (m n S : Nat) (g : HH) (lv5 : S < 2 ^ 31), n + m = 8 → Fr tml [] h g → ∀ S0 : Nat, AW mX3_leftOf (fun r g => r = some (vi (lft f c W H m S)) ∧ Fr tml [] h g) 6 [(0, vr 17 0), (1, vr 5 j), (2, vi S0), (3, vi W), (4, vi H), (5, vi S), (6, vi n)] [] g := by
    intro m
    induction m with
    | zero =>
      intro n S g hS hn hF S0
      refine u_iload (k := 4) rfl rfl ?_
      refine a_bipush (k := 5) rfl ?_
      refine a_icmp_ge (k := 6) rfl (fun c_10 => ?_) (fun c_10 => ?_)
      · refine u_iload (k := 40) rfl rfl ?_
        refine a_ireturn (k := 41) rfl rfl ?_
        exact ⟨rfl, hF⟩
      · omega
    | succ m ih =>
      intro n S g hS hn hF S0
      have hR' : RP j c f s g := hR.fr hF (by simp [tml]) (by simp [tml]) (by simp) (by simp)
      have c8 : cls f c S W < 2 ^ 8 := nk_lt (Lr_lt hR.2.2.2.2.2) _
      have d8 := ndiff_le (cls f c S W) H
      have ls := lstep_le f c W H S
      refine u_iload (k := 4) rfl rfl ?_
      refine a_bipush (k := 5) rfl ?_
      refine a_icmp_ge (k := 6) rfl (fun c_10 => ?_) (fun c_10 => ?_)
      · omega
      · refine u_aloadn (k := 7) rfl rfl ?_
        refine u_aloadn (k := 8) rfl rfl ?_
        refine u_iload (k := 9) rfl rfl ?_
        refine u_iloadn (k := 10) rfl rfl ?_
        refine u_iload (k := 11) rfl rfl ?_
        refine uv_virt4 (M' := mX3_lookAt) (k := 12) rfl lRX3_34 oX3_lookAt vX3_lookAt ⟨Nat.le_of_ble_eq_true rfl, Nat.le_of_ble_eq_true rfl⟩ rfl rfl (Nat.le_of_ble_eq_true rfl) (x_lookAt j c s S W H f g hR' hS hW hH) (by intro r g hp; exact hp.1) (fun g1 hg1 => ?_)
        obtain ⟨-, ⟨b1, b2⟩, b3⟩ := hg1; have bl := b1.1
        refine u_aloadn (k := 13) rfl rfl ?_
        refine a_geti (k := 14) rfl fRX3_49 rfl rfl ?_
        refine a_if_ne (k := 15) rfl (fun c_27 => ?_) (fun c_27 => ?_)
        · have hm : ¬ mls f c S W H = [] := fun z => by rw [z] at bl; simp at bl; omega
          obtain ⟨a, b, ha, hb, hab, hv, -⟩ := mls_0 hm
          have hpos : 0 < (mls f c S W H).length := List.length_pos_iff.mpr hm
          have el : lft f c W H (m + 1) S = lft f c W H m (lstep f c W H S) := by simp [lft, hm]
          have pt : 2 ^ a ||| 2 ^ b < 2 ^ 31 := Nat.or_lt_two_pow (Nat.pow_lt_pow_right (by omega) (by omega)) (Nat.pow_lt_pow_right (by omega) (by omega))
          refine u_aloadn (k := 17) rfl rfl ?_
          refine a_geti (k := 18) rfl fRX3_52 rfl rfl ?_
          refine u_iload (k := 19) rfl rfl ?_
          refine a_iconst (k := 20) rfl ?_
          refine a_ixor (k := 21) rfl ?_
          refine a_iand (k := 22) rfl ?_
          rw [b2, iandn_nat (by omega) hH]
          refine a_istore (k := 23) (lv' := [(7, _), (0, _), (1, _), (2, _), (3, _), (4, _), (5, _), (6, _)]) rfl (Nat.le_of_ble_eq_true rfl) rfl ?_
          refine u_iload (k := 24) rfl rfl ?_
          refine u_iload (k := 25) rfl rfl ?_
          refine a_if_eq (k := 26) rfl (fun c_48 => ?_) (fun c_48 => ?_)
          · refine u_aloadn (k := 29) rfl rfl ?_
            refine a_getr (k := 30) rfl fRX3_21 rfl rfl rfl ?_
            refine a_iconst (k := 31) rfl ?_
            refine u_ialdx 0 (k := 32) rfl rfl rfl (by omega) (by omega) ?_
            rw [b1.2 0 hpos, hv]
            refine i_statN1 (M' := mX10_takenBy) (k := 33) rfl lRX3_55 oX10_takenBy vX10_takenBy ⟨Nat.le_of_ble_eq_true rfl, Nat.le_of_ble_eq_true rfl⟩ rfl (Nat.le_of_ble_eq_true rfl) (x_takenBy a b g1 ha hb) ?_
            refine a_iconst (k := 34) rfl ?_
            refine a_ixor (k := 35) rfl ?_
            refine a_iand (k := 36) rfl ?_
            first | rw [iandn_nat hS (by omega)] | rw [iandn_nat hS pt]
            refine a_istore (k := 37) (lv' := [(5, _), (7, _), (0, _), (1, _), (2, _), (3, _), (4, _), (6, _)]) rfl (Nat.le_of_ble_eq_true rfl) rfl ?_
            refine u_iinc (k := 38) (lv' := [(6, _), (5, _), (7, _), (0, _), (1, _), (2, _), (3, _), (4, _)]) rfl rfl (Nat.le_of_ble_eq_true rfl) (by omega) rfl ?_
            refine a_goto (k := 39) rfl ?_
            refine a_sub [3, 4, 5, 6, 7, 1, 0] rfl ?_
            rw [el]
            first
              | (have es : lstep f c W H S = ndiff S (ndiff (cls f c S W) H) := by rw [lstep, if_pos (by omega)]
                 rw [← es]; exact ih (n + 1) _ g1 (by omega) (by omega) (hF.tr b3 (fun q hq => hq) (by simp)) S0)
              | (have es : lstep f c W H S = ndiff S (2 ^ a ||| 2 ^ b) := by rw [lstep, if_neg (by omega), hv, tkb, show (10 * a + b) / 10 = a by omega, show (10 * a + b) % 10 = b by omega]
                 rw [← es]; exact ih (n + 1) _ g1 (by omega) (by omega) (hF.tr b3 (fun q hq => hq) (by simp)) S0)
          · refine u_iload (k := 27) rfl rfl ?_
            refine a_goto (k := 28) rfl ?_
            refine a_iconst (k := 34) rfl ?_
            refine a_ixor (k := 35) rfl ?_
            refine a_iand (k := 36) rfl ?_
            first | rw [iandn_nat hS (by omega)] | rw [iandn_nat hS pt]
            refine a_istore (k := 37) (lv' := [(5, _), (7, _), (0, _), (1, _), (2, _), (3, _), (4, _), (6, _)]) rfl (Nat.le_of_ble_eq_true rfl) rfl ?_
            refine u_iinc (k := 38) (lv' := [(6, _), (5, _), (7, _), (0, _), (1, _), (2, _), (3, _), (4, _)]) rfl rfl (Nat.le_of_ble_eq_true rfl) (by omega) rfl ?_
            refine a_goto (k := 39) rfl ?_
            refine a_sub [3, 4, 5, 6, 7, 1, 0] rfl ?_
            rw [el]
            first
              | (have es : lstep f c W H S = ndiff S (ndiff (cls f c S W) H) := by rw [lstep, if_pos (by omega)]
                 rw [← es]; exact ih (n + 1) _ g1 (by omega) (by omega) (hF.tr b3 (fun q hq => hq) (by simp)) S0)
              | (have es : lstep f c W H S = ndiff S (2 ^ a ||| 2 ^ b) := by rw [lstep, if_neg (by omega), hv, tkb, show (10 * a + b) / 10 = a by omega, show (10 * a + b) % 10 = b by omega]
                 rw [← es]; exact ih (n + 1) _ g1 (by omega) (by omega) (hF.tr b3 (fun q hq => hq) (by simp)) S0)
        · have hm : mls f c S W H = [] := List.eq_nil_of_length_eq_zero (by omega)
          refine a_goto (k := 16) rfl ?_
          refine u_iload (k := 40) rfl rfl ?_
          refine a_ireturn (k := 41) rfl rfl ?_
          exact ⟨by simp [lft, hm], hF.tr b3 (fun q hq => hq) (by simp)⟩
  refine u_iloadn (k := 0) rfl rfl ?_
  refine a_istore (k := 1) (lv' := [(5, _), (0, _), (1, _), (2, _), (3, _), (4, _)]) rfl (Nat.le_of_ble_eq_true rfl) rfl ?_
  refine a_iconst (k := 2) rfl ?_
  refine a_istore (k := 3) (lv' := [(6, _), (5, _), (0, _), (1, _), (2, _), (3, _), (4, _)]) rfl (Nat.le_of_ble_eq_true rfl) rfl ?_
  refine a_sub [2, 3, 4, 5, 6, 1, 0] rfl ?_
  exact L 8 0 S h hS (by omega) Fr.rf S
def lbc (f : Nat → Nat) (c : Nat) : Nat → Nat → Nat
  | 0, S => S
  | n + 1, S => lbc f c n (ndiff S (cls f c S 0))
theorem x_leftByCurls (j c s : Nat) (f : Nat → Nat) (h : HH) (hR : RP j c f s h) :
    Sp mX3_leftByCurls [vr 17 0, vr 5 j] h (fun r g => r = some (vi (lbc f c 8 (2 ^ c - 1))) ∧ Fr tml [] h g) := by
  refine Sp.of rfl kX3_leftByCurls (Nat.le_of_ble_eq_true rfl) ?_
  have hq : 2 ^ c ≤ 2 ^ 8 := Nat.pow_le_pow_right (by omega) hR.2.1
  have L : ∀ (m n S : Nat) (g : HH) (lv5 : S < 2 ^ 31), n + m = 8 → Fr tml [] h g → AW mX3_leftByCurls (fun r g => r = some (vi (lbc f c m S)) ∧ Fr tml [] h g) 7 [(0, vr 17 0), (1, vr 5 j), (2, vi S), (3, vi n)] [] g := by
    intro m
    induction m with
    | zero =>
      intro n S g hS hn hF
      refine u_iloadn (k := 5) rfl rfl ?_
      refine a_bipush (k := 6) rfl ?_
      refine a_icmp_ge (k := 7) rfl (fun c_10 => ?_) (fun c_10 => ?_)
      · refine u_iloadn (k := 24) rfl rfl ?_
        refine a_ireturn (k := 25) rfl rfl ?_
        exact ⟨rfl, hF⟩
      · omega
    | succ m ih =>
      intro n S g hS hn hF
      have hR' : RP j c f s g := hR.fr hF (by simp [tml]) (by simp [tml]) (by simp) (by simp)
      obtain ⟨r1, r2, r3, r4, r5, r6⟩ := hR'
      have c8 : cls f c S 0 < 2 ^ 8 := nk_lt (Lr_lt r6) _
      have hl := Lr_len f c S 0
      have dl := ndiff_le S (cls f c S 0)
      refine u_iloadn (k := 5) rfl rfl ?_
      refine a_bipush (k := 6) rfl ?_
      refine a_icmp_ge (k := 7) rfl (fun c_10 => ?_) (fun c_10 => ?_)
      · omega
      · refine u_aloadn (k := 8) rfl rfl ?_
        refine u_aloadn (k := 9) rfl rfl ?_
        refine u_aloadn (k := 10) rfl rfl ?_
        refine u_iloadn (k := 11) rfl rfl ?_
        refine a_iconst (k := 12) rfl ?_
        refine ui_virt3 (M' := mX3_takeRow) (k := 13) rfl lRX3_38 oX3_takeRow vX3_takeRow ⟨Nat.le_of_ble_eq_true rfl, Nat.le_of_ble_eq_true rfl⟩ rfl rfl (Nat.le_of_ble_eq_true rfl) (x_takeRow j c S 0 f g r1 r2 r5 r6 hS (by omega)) (by intro r g hp; exact ⟨_, hp.1⟩) (fun r g1 hg1 => ?_)
        obtain ⟨e1, b1, b2⟩ := hg1; cases e1
        refine uv_virt1 (M' := mX3_seeNeighbours) (k := 14) rfl lRX3_42 oX3_seeNeighbours vX3_seeNeighbours ⟨Nat.le_of_ble_eq_true rfl, Nat.le_of_ble_eq_true rfl⟩ rfl rfl (Nat.le_of_ble_eq_true rfl) (x_seeN (Lr f c S 0) g1 (by omega) b1 (Lr_lt r6)) (by intro r g hp; exact hp.1) (fun g2 hg2 => ?_)
        obtain ⟨-, b3, b4⟩ := hg2; have b5 : g2 17 0 4 = (cls f c S 0 : Int) := b3.1
        refine u_iloadn (k := 15) rfl rfl ?_
        refine u_aloadn (k := 16) rfl rfl ?_
        refine a_geti (k := 17) rfl fRX3_52 rfl rfl ?_
        refine a_iconst (k := 18) rfl ?_
        refine a_ixor (k := 19) rfl ?_
        refine a_iand (k := 20) rfl ?_
        rw [b5, iandn_nat hS (by omega)]
        refine a_istoren (k := 21) (lv' := [(2, _), (0, _), (1, _), (3, _)]) rfl (Nat.le_of_ble_eq_true rfl) rfl ?_
        refine u_iinc (k := 22) (lv' := [(3, _), (2, _), (0, _), (1, _)]) rfl rfl (Nat.le_of_ble_eq_true rfl) (by omega) rfl ?_
        refine a_goto (k := 23) rfl ?_
        refine a_sub [2, 3, 1, 0] rfl ?_
        exact ih (n + 1) _ g2 (by omega) (by omega) ((hF.tr b2 (by simp [tml]) (by simp)).tr b4 (by simp [tml]) (by simp [tml]))
  refine u_aloadn (k := 0) rfl rfl ?_
  refine i_virt0 (M' := mX6_everyCrossing) (k := 1) rfl lRX3_24 oX6_everyCrossing vX6_everyCrossing ⟨Nat.le_of_ble_eq_true rfl, Nat.le_of_ble_eq_true rfl⟩ rfl rfl (Nat.le_of_ble_eq_true rfl) (x_every j c h hR.1 hR.2.1) ?_
  refine a_istoren (k := 2) (lv' := [(2, _), (0, _), (1, _)]) rfl (Nat.le_of_ble_eq_true rfl) rfl ?_
  refine a_iconst (k := 3) rfl ?_
  refine a_istoren (k := 4) (lv' := [(3, _), (2, _), (0, _), (1, _)]) rfl (Nat.le_of_ble_eq_true rfl) rfl ?_
  refine a_sub [2, 3, 1, 0] rfl ?_
  exact L 8 0 _ h (by omega) (by omega) Fr.rf
end
section
/-! how many bits -/
def pct (n : Nat) : Nat → Nat
  | 0 => 0
  | k + 1 => pct n k + (if n.testBit k then 1 else 0)
theorem pct_le (n : Nat) : ∀ k, pct n k ≤ k
  | 0 => Nat.le_refl 0
  | k + 1 => by
    have := pct_le n k
    unfold pct
    split <;> omega
theorem pct_cong {a b : Nat} : ∀ {k : Nat}, (∀ i, i < k → a.testBit i = b.testBit i) → pct a k = pct b k
  | 0, _ => rfl
  | k + 1, h => by
    unfold pct
    rw [pct_cong (fun i hi => h i (by omega)), h k (by omega)]
theorem pct_split (a b k : Nat) (hb : b < 2 ^ k) : ∀ m, pct (2 ^ k * a + b) (k + m) = pct b k + pct a m
  | 0 => by
    rw [Nat.add_zero]
    show _ = pct b k + 0
    rw [Nat.add_zero]
    exact pct_cong (fun i hi => by rw [Nat.testBit_two_pow_mul_add a hb, if_pos hi])
  | m + 1 => by
    rw [← Nat.add_assoc]
    show pct _ (k + m) + _ = pct b k + (pct a m + _)
    have e := Nat.testBit_two_pow_mul_add a hb (k + m)
    rw [if_neg (by omega), Nat.add_sub_cancel_left] at e
    rw [pct_split a b k hb m, e]
    omega
theorem pct_up {n k : Nat} (h : n < 2 ^ k) : ∀ m, pct n (k + m) = pct n k
  | 0 => rfl
  | m + 1 => by
    rw [← Nat.add_assoc]
    show pct n (k + m) + _ = _
    rw [pct_up h m, Nat.testBit_lt_two_pow (Nat.lt_of_lt_of_le h (Nat.pow_le_pow_right (by omega) (by omega)))]
    rfl
def pc_ (n : Nat) : Nat := pct n 32
/-- the lines of bitCount, by their masks -/
def g1_ (M x : Nat) : Nat := x - ((x >>> 1) &&& M)
def g2_ (M x : Nat) : Nat := (x &&& M) + ((x >>> 2) &&& M)
def g3_ (M x : Nat) : Nat := (x + (x >>> 4)) &&& M
def swok (x : Nat) : Bool := decide (g1_ 0x55 x < 256) && decide (g2_ 0x33 (g1_ 0x55 x) ≤ 0x44) && decide (g2_ 0x33 (g1_ 0x55 x) % 16 ≤ 4) && decide (g3_ 0x0f (g2_ 0x33 (g1_ 0x55 x)) = pct x 8)
theorem sw_all : ∀ b, b < 256 → swok b = true := by decide +kernel
theorem sw_and {w lo hi k M : Nat} (hlo : lo < 2 ^ w) (hM : M * 2 ^ k < 2 ^ w) : ((2 ^ w * hi + lo) >>> k) &&& (2 ^ w * M + M) = 2 ^ w * ((hi >>> k) &&& M) + ((lo >>> k) &&& M) := by
  have hM' : M < 2 ^ w := Nat.lt_of_le_of_lt (Nat.le_mul_of_pos_right M (Nat.pow_pos (by omega))) hM
  have hl2 : (lo >>> k) &&& M < 2 ^ w := Nat.lt_of_le_of_lt Nat.and_le_right hM'
  apply Nat.eq_of_testBit_eq
  intro i
  rw [Nat.testBit_and, Nat.testBit_shiftRight, Nat.testBit_two_pow_mul_add hi hlo, Nat.testBit_two_pow_mul_add M hM', Nat.testBit_two_pow_mul_add _ hl2, Nat.testBit_and, Nat.testBit_and, Nat.testBit_shiftRight, Nat.testBit_shiftRight]
  by_cases hi16 : i < w
  · rw [if_pos hi16, if_pos hi16]
    by_cases hk : k + i < w
    · rw [if_pos hk]
    · rw [if_neg hk]
      have hz : M.testBit i = false := by
        apply Nat.testBit_lt_two_pow
        have h3 : M * 2 ^ k < 2 ^ i * 2 ^ k := by
          rw [← Nat.pow_add]
          exact Nat.lt_of_lt_of_le hM (Nat.pow_le_pow_right (by omega) (by omega))
        exact Nat.lt_of_mul_lt_mul_right h3
      rw [hz, Bool.and_false, Bool.and_false]
  · rw [if_neg hi16, if_neg hi16, if_neg (by omega), show k + (i - w) = k + i - w by omega]
theorem sw_low {v M : Nat} (y z : Nat) (hM : M < 2 ^ v) : (y + 2 ^ v * z) &&& M = y &&& M := by
  apply Nat.eq_of_testBit_eq
  intro i
  rw [Nat.testBit_and, Nat.testBit_and]
  by_cases hi : i < v
  · have h1 : (y + 2 ^ v * z) % 2 ^ v = y % 2 ^ v := Nat.add_mul_mod_self_left y (2 ^ v) z
    have h2 := congrArg (fun q => q.testBit i) h1
    simp only [Nat.testBit_mod_two_pow, hi, decide_true, Bool.true_and] at h2
    rw [h2]
  · have : M.testBit i = false := Nat.testBit_lt_two_pow (Nat.lt_of_lt_of_le hM (Nat.pow_le_pow_right (by omega) (by omega)))
    rw [this, Bool.and_false, Bool.and_false]
theorem c1_ {w lo hi M : Nat} (hlo : lo < 2 ^ w) (hM : M * 2 ^ 1 < 2 ^ w) : g1_ (2 ^ w * M + M) (2 ^ w * hi + lo) = 2 ^ w * g1_ M hi + g1_ M lo := by
  have q1 : (lo >>> 1) &&& M ≤ lo := Nat.le_trans Nat.and_le_left (by rw [Nat.shiftRight_eq_div_pow]; omega)
  have q2 : (hi >>> 1) &&& M ≤ hi := Nat.le_trans Nat.and_le_left (by rw [Nat.shiftRight_eq_div_pow]; omega)
  unfold g1_
  rw [sw_and hlo hM, Nat.mul_sub]
  have q3 : 2 ^ w * ((hi >>> 1) &&& M) ≤ 2 ^ w * hi := Nat.mul_le_mul_left _ q2
  omega
theorem c2_ {w lo hi M : Nat} (hlo : lo < 2 ^ w) (hM : M * 2 ^ 2 < 2 ^ w) : g2_ (2 ^ w * M + M) (2 ^ w * hi + lo) = 2 ^ w * g2_ M hi + g2_ M lo := by
  have q0 := sw_and (k := 0) (hi := hi) hlo (M := M) (by omega)
  simp only [Nat.shiftRight_zero] at q0
  unfold g2_
  rw [q0, sw_and hlo hM, Nat.mul_add]
  omega
theorem c3_ {v lo hi M : Nat} (hM : M < 2 ^ v) (hlo : lo + lo / 16 + 2 ^ v * (hi % 16) < 2 ^ (v + 4)) : g3_ (2 ^ (v + 4) * M + M) (2 ^ (v + 4) * hi + lo) = 2 ^ (v + 4) * g3_ M hi + g3_ M lo := by
  have hp : 2 ^ (v + 4) = 2 ^ v * 16 := by rw [Nat.pow_add]
  have q1 : 2 ^ (v + 4) * hi + lo + (2 ^ (v + 4) * hi + lo) >>> 4 = 2 ^ (v + 4) * (hi + hi >>> 4) + (lo + lo / 16 + 2 ^ v * (hi % 16)) := by
    have e1 : (2 ^ (v + 4) * hi + lo) >>> 4 = 2 ^ v * hi + lo / 16 := by
      rw [Nat.shiftRight_eq_div_pow, hp, show 2 ^ v * 16 * hi + lo = lo + 16 * (2 ^ v * hi) by rw [Nat.mul_comm (2 ^ v) 16, Nat.mul_assoc]; omega, Nat.add_mul_div_left _ _ (by omega)]
      omega
    have e2 : 2 ^ v * hi = 2 ^ (v + 4) * (hi / 16) + 2 ^ v * (hi % 16) := by
      rw [hp, Nat.mul_assoc, ← Nat.mul_add, Nat.div_add_mod]
    rw [e1, e2, Nat.mul_add, Nat.shiftRight_eq_div_pow, show (2 : Nat) ^ 4 = 16 from rfl]
    omega
  have q3 := sw_and (k := 0) (w := v + 4) (hi := hi + hi >>> 4) hlo (M := M) (by have : 2 ^ v ≤ 2 ^ (v + 4) := Nat.pow_le_pow_right (by omega) (by omega); omega)
  simp only [Nat.shiftRight_zero] at q3
  unfold g3_
  rw [q1, q3, sw_low _ _ hM, Nat.shiftRight_eq_div_pow lo 4]
theorem b16 (x : Nat) (hx : x < 2 ^ 16) : g1_ 0x5555 x < 2 ^ 16 ∧ g2_ 0x3333 (g1_ 0x5555 x) ≤ 0x4444 ∧ g2_ 0x3333 (g1_ 0x5555 x) % 16 ≤ 4 ∧ ∃ a b, a ≤ 8 ∧ b ≤ 8 ∧ a + b = pct x 16 ∧ g3_ 0x0f0f (g2_ 0x3333 (g1_ 0x5555 x)) = 256 * a + b := by
  obtain ⟨hi, lo, hhi, hlo, e⟩ : ∃ hi lo, hi < 256 ∧ lo < 256 ∧ x = 2 ^ 8 * hi + lo := ⟨x / 256, x % 256, by omega, by omega, by omega⟩
  have wl := sw_all lo hlo
  have wh := sw_all hi hhi
  simp only [swok, Bool.and_eq_true, decide_eq_true_eq] at wl wh
  obtain ⟨⟨⟨l1, l2⟩, l3⟩, l4⟩ := wl
  obtain ⟨⟨⟨h1, h2⟩, h3⟩, h4⟩ := wh
  have pl := pct_le lo 8
  have ph := pct_le hi 8
  have e1 : g1_ 0x5555 x = 2 ^ 8 * g1_ 0x55 hi + g1_ 0x55 lo := by rw [e]; exact c1_ (w := 8) (M := 0x55) hlo (by omega)
  have e2 : g2_ 0x3333 (g1_ 0x5555 x) = 2 ^ 8 * g2_ 0x33 (g1_ 0x55 hi) + g2_ 0x33 (g1_ 0x55 lo) := by rw [e1]; exact c2_ (w := 8) (M := 0x33) l1 (by omega)
  have e3 : g3_ 0x0f0f (g2_ 0x3333 (g1_ 0x5555 x)) = 2 ^ 8 * g3_ 0x0f (g2_ 0x33 (g1_ 0x55 hi)) + g3_ 0x0f (g2_ 0x33 (g1_ 0x55 lo)) := by rw [e2]; exact c3_ (v := 4) (M := 0x0f) (by omega) (by omega)
  refine ⟨by omega, by omega, by omega, pct hi 8, pct lo 8, ph, pl, ?_, by rw [e3, h4, l4]⟩
  rw [e, show (16 : Nat) = 8 + 8 from rfl, pct_split hi lo 8 hlo 8]
  omega
def bc1 (n : Nat) : Nat := g1_ 1431655765 n
def bc2 (n : Nat) : Nat := g2_ 858993459 n
def bc3 (n : Nat) : Nat := g3_ 252645135 n
theorem bc_ok (n : Nat) (hn : n < 2 ^ 31) : bc1 n < 2 ^ 31 ∧ bc2 (bc1 n) < 2 ^ 31 ∧ bc3 (bc2 (bc1 n)) < 2 ^ 28 ∧ (bc3 (bc2 (bc1 n)) + bc3 (bc2 (bc1 n)) / 256 + (bc3 (bc2 (bc1 n)) + bc3 (bc2 (bc1 n)) / 256) / 65536) % 64 = pc_ n := by
  obtain ⟨hi, lo, hhi, hlo, e⟩ : ∃ hi lo, hi < 32768 ∧ lo < 2 ^ 16 ∧ n = 2 ^ 16 * hi + lo := ⟨n / 65536, n % 65536, by omega, by omega, by omega⟩
  obtain ⟨l1, l2, l3, a, b, a8, b8, ab, l4⟩ := b16 lo hlo
  obtain ⟨h1, h2, h3, a2, b2, a28, b28, ab2, h4⟩ := b16 hi (by omega)
  have b1 : bc1 n ≤ n := Nat.sub_le _ _
  have e1 : bc1 n = 2 ^ 16 * g1_ 0x5555 hi + g1_ 0x5555 lo := by rw [e]; exact c1_ (w := 16) (M := 0x5555) hlo (by omega)
  have e2 : bc2 (bc1 n) = 2 ^ 16 * g2_ 0x3333 (g1_ 0x5555 hi) + g2_ 0x3333 (g1_ 0x5555 lo) := by rw [e1]; exact c2_ (w := 16) (M := 0x3333) l1 (by omega)
  have e3 : bc3 (bc2 (bc1 n)) = 2 ^ 16 * g3_ 0x0f0f (g2_ 0x3333 (g1_ 0x5555 hi)) + g3_ 0x0f0f (g2_ 0x3333 (g1_ 0x5555 lo)) := by rw [e2]; exact c3_ (v := 12) (M := 0x0f0f) (by omega) (by omega)
  have ep : pc_ n = pct lo 16 + pct hi 16 := by
    unfold pc_
    rw [e]
    exact pct_split hi lo 16 hlo 16
  refine ⟨by omega, by rw [e2]; omega, by rw [e3, l4, h4]; omega, ?_⟩
  have ex : bc3 (bc2 (bc1 n)) = b + 256 * a + 65536 * b2 + 16777216 * a2 := by rw [e3, l4, h4]; omega
  have ey : (b + 256 * a + 65536 * b2 + 16777216 * a2) / 256 = a + 256 * b2 + 65536 * a2 := by omega
  have ez : (b + 256 * a + 65536 * b2 + 16777216 * a2 + (a + 256 * b2 + 65536 * a2)) / 65536 = b2 + a2 + 256 * a2 := by omega
  rw [ex, ey, ez, ep]
  omega
theorem s_u : ∀ n, n < 32 → (((nI n).toUInt32 &&& Int32.toUInt32 31).toBitVec % 32).toNat = n := by decide +kernel
theorem iushr_nat {n k : Nat} (h : n < 2 ^ 31) (hk : k < 32) : iushr n k = ((n >>> k : Nat) : Int) := by
  have h2 : n / 2 ^ k < 2 ^ 31 := Nat.lt_of_le_of_lt (Nat.div_le_self _ _) h
  rw [iushr, ofI_nat, ofI_nat, pk_ushrN (by omega) _ k (s_u k hk), nI_toInt h2, Nat.shiftRight_eq_div_pow]
theorem j_bitCount (n : Nat) (h : HH) (hn : n < 2 ^ 31) : SpI mJ6_bitCount_0f7a4 [vi n] h (pc_ n) h := by
  refine Sp.ofF (by decide +kernel) kJ6_bitCount_0f7a4 (Nat.le_of_ble_eq_true rfl) ?_
  obtain ⟨b1, b2, b3, b4⟩ := bc_ok n hn
  have i1 : iushr (n : Int) 1 = ((n >>> 1 : Nat) : Int) := iushr_nat (k := 1) hn (by omega)
  have l1 : n >>> 1 < 2 ^ 31 := by rw [Nat.shiftRight_eq_div_pow]; omega
  have i2 : iand ((n >>> 1 : Nat) : Int) 1431655765 = (((n >>> 1) &&& 1431655765 : Nat) : Int) := iand_nat (b := 1431655765) l1
  have i3 : (n >>> 1) &&& 1431655765 ≤ n := Nat.le_trans Nat.and_le_left (by rw [Nat.shiftRight_eq_div_pow]; omega)
  have i4 : (n : Int) - (((n >>> 1) &&& 1431655765 : Nat) : Int) = (bc1 n : Int) := by unfold bc1 g1_; omega
  have j1 : iand (bc1 n : Int) 858993459 = ((bc1 n &&& 858993459 : Nat) : Int) := iand_nat (b := 858993459) b1
  have j2 : iushr (bc1 n : Int) 2 = ((bc1 n >>> 2 : Nat) : Int) := iushr_nat (k := 2) b1 (by omega)
  have j3 : iand ((bc1 n >>> 2 : Nat) : Int) 858993459 = ((bc1 n >>> 2 &&& 858993459 : Nat) : Int) := iand_nat (b := 858993459) (by rw [Nat.shiftRight_eq_div_pow]; omega)
  have j4 : ((bc1 n &&& 858993459 : Nat) : Int) + ((bc1 n >>> 2 &&& 858993459 : Nat) : Int) = (bc2 (bc1 n) : Int) := by unfold bc2 g2_; omega
  generalize bc2 (bc1 n) = y at *
  have m1 : iushr (y : Int) 4 = ((y >>> 4 : Nat) : Int) := iushr_nat (k := 4) b2 (by omega)
  have m2 : iand (ia (y : Int) ((y >>> 4 : Nat) : Int)) 252645135 = (bc3 y : Int) := by
    rw [iand, cv_ia, ofI_nat, ofI_nat, nI_add, show Int32.ofInt 252645135 = nI 252645135 from rfl, nx_and, nI_toInt (by unfold bc3 g3_ at b3; omega)]
    rfl
  generalize bc3 y = z at *
  have n1 : iushr (z : Int) 8 = ((z >>> 8 : Nat) : Int) := iushr_nat (k := 8) (by omega) (by omega)
  have n2 : z >>> 8 = z / 256 := Nat.shiftRight_eq_div_pow z 8
  have n3 : (z : Int) + ((z / 256 : Nat) : Int) = ((z + z / 256 : Nat) : Int) := by omega
  have n4 : iushr ((z + z / 256 : Nat) : Int) 16 = (((z + z / 256) >>> 16 : Nat) : Int) := iushr_nat (k := 16) (by omega) (by omega)
  have n5 : (z + z / 256) >>> 16 = (z + z / 256) / 65536 := Nat.shiftRight_eq_div_pow _ 16
  have n6 : ((z + z / 256 : Nat) : Int) + (((z + z / 256) / 65536 : Nat) : Int) = ((z + z / 256 + (z + z / 256) / 65536 : Nat) : Int) := by omega
  have n7 : iand ((z + z / 256 + (z + z / 256) / 65536 : Nat) : Int) 63 = (pc_ n : Int) := by
    have := iand_nat (a := z + z / 256 + (z + z / 256) / 65536) (b := 63) (by omega)
    rw [show ((63 : Nat) : Int) = 63 from rfl] at this
    rw [this, show (63 : Nat) = 2 ^ 6 - 1 from rfl, Nat.and_two_pow_sub_one_eq_mod, ← b4]
  refine u_iloadn (k := 0) rfl rfl ?_
  refine u_iloadn (k := 1) rfl rfl ?_
  refine a_iconst (k := 2) rfl ?_
  refine a_iushr (k := 3) rfl ?_
  rw [i1]
  refine a_ldcw (k := 4) rfl nRJ6_265 ⟨by decide, by decide⟩ ?_
  refine a_iand (k := 5) rfl ?_
  rw [i2]
  refine u_isub (k := 6) rfl (by omega) ?_
  rw [i4]
  refine a_istoren (k := 7) (lv' := [(0, _)]) rfl (Nat.le_of_ble_eq_true rfl) rfl ?_
  refine u_iloadn (k := 8) rfl rfl ?_
  refine a_ldcw (k := 9) rfl nRJ6_266 ⟨by decide, by decide⟩ ?_
  refine a_iand (k := 10) rfl ?_
  rw [j1]
  refine u_iloadn (k := 11) rfl rfl ?_
  refine a_iconst (k := 12) rfl ?_
  refine a_iushr (k := 13) rfl ?_
  rw [j2]
  refine a_ldcw (k := 14) rfl nRJ6_266 ⟨by decide, by decide⟩ ?_
  refine a_iand (k := 15) rfl ?_
  rw [j3]
  refine u_iadd (k := 16) rfl (by omega) ?_
  rw [j4]
  refine a_istoren (k := 17) (lv' := [(0, _)]) rfl (Nat.le_of_ble_eq_true rfl) rfl ?_
  refine u_iloadn (k := 18) rfl rfl ?_
  refine u_iloadn (k := 19) rfl rfl ?_
  refine a_iconst (k := 20) rfl ?_
  refine a_iushr (k := 21) rfl ?_
  rw [m1]
  refine a_iadd (k := 22) rfl ?_
  refine a_ldcw (k := 23) rfl nRJ6_267 ⟨by decide, by decide⟩ ?_
  refine a_iand (k := 24) rfl ?_
  rw [m2]
  refine a_istoren (k := 25) (lv' := [(0, _)]) rfl (Nat.le_of_ble_eq_true rfl) rfl ?_
  refine u_iloadn (k := 26) rfl rfl ?_
  refine u_iloadn (k := 27) rfl rfl ?_
  refine a_bipush (k := 28) rfl ?_
  refine a_iushr (k := 29) rfl ?_
  rw [n1, n2]
  refine u_iadd (k := 30) rfl (by omega) ?_
  rw [n3]
  refine a_istoren (k := 31) (lv' := [(0, _)]) rfl (Nat.le_of_ble_eq_true rfl) rfl ?_
  refine u_iloadn (k := 32) rfl rfl ?_
  refine u_iloadn (k := 33) rfl rfl ?_
  refine a_bipush (k := 34) rfl ?_
  refine a_iushr (k := 35) rfl ?_
  rw [n4, n5]
  refine u_iadd (k := 36) rfl (by omega) ?_
  rw [n6]
  refine a_istoren (k := 37) (lv' := [(0, _)]) rfl (Nat.le_of_ble_eq_true rfl) rfl ?_
  refine u_iloadn (k := 38) rfl rfl ?_
  refine a_bipush (k := 39) rfl ?_
  refine a_iand (k := 40) rfl ?_
  rw [n7]
  refine a_ireturn (k := 41) rfl rfl ?_
  exact ⟨rfl, rfl⟩
end
section
/-! Shaking: all that can be left, set by set -/
abbrev FB : Type := (Nat → Int) × (Nat → Int)
def ui (F : Nat → Int) (k : Nat) (v : Int) : Nat → Int := fun j => if j = k then v else F j
/-- the first move to it, by v from S -/
def fsv (S a v : Nat) (x : FB) : Int := if S = a then (v : Int) else x.2 S
def RC (S a v : Nat) (x : FB) : Prop := x.1 (ndiff S (tkb v)) = -1 ∨ x.1 S + 1 < x.1 (ndiff S (tkb v)) ∨ (x.1 S + 1 = x.1 (ndiff S (tkb v)) ∧ fsv S a v x < x.2 (ndiff S (tkb v)))
noncomputable def rl1 (S a v : Nat) (x : FB) : FB := by
  classical
  exact if RC S a v x then (ui x.1 (ndiff S (tkb v)) (x.1 S + 1), ui x.2 (ndiff S (tkb v)) (fsv S a v x)) else x
theorem rl1_p {S a v : Nat} {x : FB} (h : RC S a v x) : rl1 S a v x = (ui x.1 (ndiff S (tkb v)) (x.1 S + 1), ui x.2 (ndiff S (tkb v)) (fsv S a v x)) := by unfold rl1; exact if_pos h
theorem rl1_n {S a v : Nat} {x : FB} (h : ¬ RC S a v x) : rl1 S a v x = x := by unfold rl1; exact if_neg h
noncomputable def rli (S a : Nat) (l : List Nat) (x : FB) : Nat → FB
  | 0 => x
  | i + 1 => rl1 S a (fn l i) (rli S a l x i)
/-- the arrays hold x -/
def HB (x : FB) (g : HH) : Prop := ∀ T, T < 256 → g 23 0 T = x.1 T ∧ g 24 0 T = x.2 T
def FO (x : FB) : Prop := ∀ T, T < 256 → -1 ≤ x.1 T ∧ x.1 T ≤ 255 - T
theorem ndiff_lt {S a b : Nat} (h : S.testBit a = true) : ndiff S (2 ^ a ||| 2 ^ b) < S := by
  have h1 := ndiff_le S (2 ^ a ||| 2 ^ b)
  have h2 : ndiff S (2 ^ a ||| 2 ^ b) ≠ S := fun he => by
    have := ndiff_bit S (2 ^ a ||| 2 ^ b) a
    rw [he, h, Nat.testBit_or, Nat.testBit_two_pow_self] at this
    simp at this
  omega
theorem tkb_ab {a b : Nat} (hb : b < 8) : tkb (10 * a + b) = 2 ^ a ||| 2 ^ b := by
  unfold tkb
  rw [show (10 * a + b) / 10 = a by omega, show (10 * a + b) % 10 = b by omega]
theorem FO.rl1 {S a v : Nat} {x : FB} (h : FO x) (hS : S < 256) (hT : ndiff S (tkb v) < S) (h0 : 0 ≤ x.1 S) : FO (rl1 S a v x) ∧ (rl1 S a v x).1 S = x.1 S ∧ (rl1 S a v x).2 S = x.2 S := by
  by_cases hc : RC S a v x
  · rw [rl1_p hc]
    refine ⟨fun T hT2 => ?_, ?_, ?_⟩
    · unfold ui
      dsimp only
      split
      · have := h S hS
        omega
      · exact h T hT2
    · unfold ui
      dsimp only
      rw [if_neg (by omega)]
    · unfold ui
      dsimp only
      rw [if_neg (by omega)]
  · rw [rl1_n hc]
    exact ⟨h, rfl, rfl⟩
/-- a list of moves from S -/
def ML (S : Nat) (l : List Nat) : Prop := ∀ i, i < l.length → ∃ a b, a < 8 ∧ b < 8 ∧ fn l i = 10 * a + b ∧ S.testBit a = true
theorem rli_ok {S a : Nat} {l : List Nat} {x : FB} (hM : ML S l) (h : FO x) (hS : S < 256) (h0 : 0 ≤ x.1 S) : ∀ i, i ≤ l.length → FO (rli S a l x i) ∧ (rli S a l x i).1 S = x.1 S ∧ (rli S a l x i).2 S = x.2 S
  | 0, _ => ⟨h, rfl, rfl⟩
  | i + 1, hi => by
    obtain ⟨h1, h2, h3⟩ := rli_ok (a := a) hM h hS h0 i (by omega)
    obtain ⟨p, q, hp, hq, e1, e2⟩ := hM i (by omega)
    have := FO.rl1 (a := a) (v := fn l i) h1 hS (by rw [e1, tkb_ab hq]; exact ndiff_lt e2) (by rw [h2]; exact h0)
    exact ⟨this.1, this.2.1.trans h2, this.2.2.trans h3⟩
theorem x_followMoves (S a : Nat) (l : List Nat) (x : FB) (h : HH) (hN : NL l h) (hl : l.length ≤ 36) (hM : ML S l) (hS : S < 256) (hB : HB x h) (hO : FO x) (h0 : 0 ≤ x.1 S) (ha : a < 256) :
    Sp mX8_followMoves [vr 22 0, vi S, vi (b01 (decide (S = a))), vr 17 0] h (fun r g => r = none ∧ HB (rli S a l x l.length) g ∧ Fr [(23, 0), (24, 0)] [] h g) := by
  refine Sp.of rfl kX8_followMoves (Nat.le_of_ble_eq_true rfl) ?_
  have L : ∀ (m n : Nat) (g : HH), n + m = l.length → HB (rli S a l x n) g → Fr [(23, 0), (24, 0)] [] h g → AW mX8_followMoves (fun r g => r = none ∧ HB (rli S a l x l.length) g ∧ Fr [(23, 0), (24, 0)] [] h g) 3 [(0, vr 22 0), (1, vi S), (2, vi (b01 (decide (S = a)))), (3, vr 17 0), (4, vi n)] [] g := by
    intro m
    induction m with
    | zero =>
      intro n g hn hB hF
      have hn : n = l.length := by omega
      subst hn
      have h1 : g 17 0 5 = (l.length : Int) := (hF 17 0 5 (by simp) (by simp)).trans hN.1
      refine u_iload (k := 2) rfl rfl ?_
      refine u_aloadn (k := 3) rfl rfl ?_
      refine a_geti (k := 4) rfl fRX8_63 rfl rfl ?_
      refine a_icmp_ge (k := 5) rfl (fun c_9 => ?_) (fun c_9 => ?_)
      · refine a_return (k := 77) rfl rfl ?_
        exact ⟨rfl, hB, hF⟩
      · omega
    | succ m ih =>
      intro n g hn hB hF
      have h1 : g 17 0 5 = (l.length : Int) := (hF 17 0 5 (by simp) (by simp)).trans hN.1
      have hN' : NL l g := ⟨h1, fun i hi => (hF 21 0 i (by simp) (by simp)).trans (hN.2 i hi)⟩
      obtain ⟨p, q, hp, hq, ev, eb⟩ := hM n (by omega)
      obtain ⟨o1, o2, o3⟩ := rli_ok (a := a) hM hO hS h0 n (by omega)
      have hTl := ndiff_lt (b := q) eb
      have etk : tkb (fn l n) = 2 ^ p ||| 2 ^ q := by rw [ev, tkb_ab hq]
      have epos : (if (0 : Int) ≤ (n : Int) ∧ (n : Int) < (l.length : Int) then (fn l (n : Int).toNat : Int) else -1) = ((10 * p + q : Nat) : Int) := by
        rw [if_pos (by omega), Int.toNat_natCast, ev]
      have pt : 2 ^ p ||| 2 ^ q < 2 ^ 31 := Nat.or_lt_two_pow (Nat.pow_lt_pow_right (by omega) (by omega)) (Nat.pow_lt_pow_right (by omega) (by omega))
      have eT : iand (iand (S : Int) (ixor ((2 ^ p ||| 2 ^ q : Nat) : Int) (-1))) 255 = ((ndiff S (2 ^ p ||| 2 ^ q) : Nat) : Int) := by
        rw [iandn_nat (by omega) pt]
        have := iand_nat (a := ndiff S (2 ^ p ||| 2 ^ q)) (b := 255) (by omega)
        rw [show ((255 : Nat) : Int) = 255 from rfl] at this
        rw [this, show (255 : Nat) = 2 ^ 8 - 1 from rfl, Nat.and_two_pow_sub_one_eq_mod, Nat.mod_eq_of_lt (by omega)]
      have er : rli S a l x (n + 1) = rl1 S a (fn l n) (rli S a l x n) := rfl
      have hB' := hB
      generalize rli S a l x n = y at hB hB' o1 o2 o3 er
      generalize hT : ndiff S (2 ^ p ||| 2 ^ q) = T at eT hTl
      have hbS := hB S hS
      have hbT := hB T (by omega)
      have oS := o1 S hS
      have oT := o1 T (by omega)
      have efs : fsv S a (fn l n) y = if S = a then ((10 * p + q : Nat) : Int) else y.2 S := by rw [fsv, ev]
      have upd_ : ∀ fs : Int, fs = fsv S a (fn l n) y → RC S a (fn l n) y → HB (rli S a l x (n + 1)) (put (put g 23 0 T (y.1 S + 1)) 24 0 T fs) := by
        intro fs hfs hR
        rw [er, rl1_p hR, etk, hT, ← hfs]
        intro U hU
        refine ⟨?_, ?_⟩
        · rw [put_ne (by simp)]
          unfold ui
          by_cases he : U = T
          · subst he; rw [put_eq]; simp
          · rw [put_ne (by simp [he])]; simp only [if_neg he]; exact (hB' U hU).1
        · unfold ui
          by_cases he : U = T
          · subst he; rw [put_eq]; simp
          · rw [put_ne (by simp [he]), put_ne (by simp)]; simp only [if_neg he]; exact (hB' U hU).2
      have stay_ : ¬ RC S a (fn l n) y → HB (rli S a l x (n + 1)) g := fun hR => by rw [er, rl1_n hR]; exact hB'
      have body : ∀ fs : Int, fs = fsv S a (fn l n) y → AW mX8_followMoves (fun r g => r = none ∧ HB (rli S a l x l.length) g ∧ Fr [(23, 0), (24, 0)] [] h g) 60 [(0, vr 22 0), (1, vi S), (2, vi (b01 (decide (S = a)))), (3, vr 17 0), (4, vi n), (6, vi T), (7, vi (y.1 S + 1))] [vi fs] g := by
        intro fs hfs
        have hRC : RC S a (fn l n) y ↔ (y.1 T = -1 ∨ y.1 S + 1 < y.1 T ∨ (y.1 S + 1 = y.1 T ∧ fs < y.2 T)) := by unfold RC; rw [etk, hT, ← hfs]
        refine a_istore (k := 34) (lv' := [(8, _), (0, _), (1, _), (2, _), (3, _), (4, _), (6, _), (7, _)]) rfl (Nat.le_of_ble_eq_true rfl) rfl ?_
        refine u_aloadn (k := 35) rfl rfl ?_
        refine a_getr (k := 36) rfl fRX8_9 rfl rfl rfl ?_
        refine u_iload (k := 37) rfl rfl ?_
        refine u_iald (k := 38) rfl rfl rfl (by omega) ?_
        rw [hbT.1]
        refine a_iconst (k := 39) rfl ?_
        refine a_icmp_eq (k := 40) rfl (fun c_70 => ?_) (fun c_70 => ?_)
        · refine a_iconst (k := 47) rfl ?_
          refine a_goto (k := 48) rfl ?_
          refine a_istore (k := 50) (lv' := [(9, _), (8, _), (0, _), (1, _), (2, _), (3, _), (4, _), (6, _), (7, _)]) rfl (Nat.le_of_ble_eq_true rfl) rfl ?_
          refine u_iload (k := 51) rfl rfl ?_
          refine a_if_ne (k := 52) rfl (fun c_94 => ?_) (fun c_94 => ?_)
          · refine u_aloadn (k := 65) rfl rfl ?_
            refine a_getr (k := 66) rfl fRX8_9 rfl rfl rfl ?_
            refine u_iload (k := 67) rfl rfl ?_
            refine u_iload (k := 68) rfl rfl ?_
            refine u_iast (k := 69) rfl rfl rfl (by omega) ?_
            refine u_aloadn (k := 70) rfl rfl ?_
            refine a_getr (k := 71) rfl fRX8_15 rfl rfl rfl ?_
            refine u_iload (k := 72) rfl rfl ?_
            refine u_iload (k := 73) rfl rfl ?_
            refine u_iast (k := 74) rfl rfl rfl (by omega) ?_
            refine u_iinc (k := 75) (lv' := [(4, _), (9, _), (8, _), (0, _), (1, _), (2, _), (3, _), (6, _), (7, _)]) rfl rfl (Nat.le_of_ble_eq_true rfl) (by omega) rfl ?_
            refine a_goto (k := 76) rfl ?_
            refine a_sub [3, 4, 5, 6, 0] rfl ?_
            first
              | exact ih (n + 1) _ (by omega) (stay_ (by rw [hRC]; omega)) hF
              | exact ih (n + 1) _ (by omega) (upd_ fs hfs (by rw [hRC]; omega)) ((hF.p1 (by simp)).p1 (by simp))
              | omega
          · refine u_iload (k := 53) rfl rfl ?_
            refine u_aloadn (k := 54) rfl rfl ?_
            refine a_getr (k := 55) rfl fRX8_9 rfl rfl rfl ?_
            refine u_iload (k := 56) rfl rfl ?_
            refine u_iald (k := 57) rfl rfl rfl (by omega) ?_
            rw [hbT.1]
            refine a_icmp_ne (k := 58) rfl (fun c_106 => ?_) (fun c_106 => ?_)
            · refine u_iinc (k := 75) (lv' := [(4, _), (9, _), (8, _), (0, _), (1, _), (2, _), (3, _), (6, _), (7, _)]) rfl rfl (Nat.le_of_ble_eq_true rfl) (by omega) rfl ?_
              refine a_goto (k := 76) rfl ?_
              refine a_sub [3, 4, 5, 6, 0] rfl ?_
              first
                | exact ih (n + 1) _ (by omega) (stay_ (by rw [hRC]; omega)) hF
                | exact ih (n + 1) _ (by omega) (upd_ fs hfs (by rw [hRC]; omega)) ((hF.p1 (by simp)).p1 (by simp))
                | omega
            · refine u_iload (k := 59) rfl rfl ?_
              refine u_aloadn (k := 60) rfl rfl ?_
              refine a_getr (k := 61) rfl fRX8_15 rfl rfl rfl ?_
              refine u_iload (k := 62) rfl rfl ?_
              refine u_iald (k := 63) rfl rfl rfl (by omega) ?_
              rw [hbT.2]
              refine a_icmp_ge (k := 64) rfl (fun c_118 => ?_) (fun c_118 => ?_)
              · refine u_iinc (k := 75) (lv' := [(4, _), (9, _), (8, _), (0, _), (1, _), (2, _), (3, _), (6, _), (7, _)]) rfl rfl (Nat.le_of_ble_eq_true rfl) (by omega) rfl ?_
                refine a_goto (k := 76) rfl ?_
                refine a_sub [3, 4, 5, 6, 0] rfl ?_
                first
                  | exact ih (n + 1) _ (by omega) (stay_ (by rw [hRC]; omega)) hF
                  | exact ih (n + 1) _ (by omega) (upd_ fs hfs (by rw [hRC]; omega)) ((hF.p1 (by simp)).p1 (by simp))
                  | omega
              · refine u_aloadn (k := 65) rfl rfl ?_
                refine a_getr (k := 66) rfl fRX8_9 rfl rfl rfl ?_
                refine u_iload (k := 67) rfl rfl ?_
                refine u_iload (k := 68) rfl rfl ?_
                refine u_iast (k := 69) rfl rfl rfl (by omega) ?_
                refine u_aloadn (k := 70) rfl rfl ?_
                refine a_getr (k := 71) rfl fRX8_15 rfl rfl rfl ?_
                refine u_iload (k := 72) rfl rfl ?_
                refine u_iload (k := 73) rfl rfl ?_
                refine u_iast (k := 74) rfl rfl rfl (by omega) ?_
                refine u_iinc (k := 75) (lv' := [(4, _), (9, _), (8, _), (0, _), (1, _), (2, _), (3, _), (6, _), (7, _)]) rfl rfl (Nat.le_of_ble_eq_true rfl) (by omega) rfl ?_
                refine a_goto (k := 76) rfl ?_
                refine a_sub [3, 4, 5, 6, 0] rfl ?_
                first
                  | exact ih (n + 1) _ (by omega) (stay_ (by rw [hRC]; omega)) hF
                  | exact ih (n + 1) _ (by omega) (upd_ fs hfs (by rw [hRC]; omega)) ((hF.p1 (by simp)).p1 (by simp))
                  | omega
        · refine u_iload (k := 41) rfl rfl ?_
          refine u_aloadn (k := 42) rfl rfl ?_
          refine a_getr (k := 43) rfl fRX8_9 rfl rfl rfl ?_
          refine u_iload (k := 44) rfl rfl ?_
          refine u_iald (k := 45) rfl rfl rfl (by omega) ?_
          rw [hbT.1]
          refine a_icmp_ge (k := 46) rfl (fun c_82 => ?_) (fun c_82 => ?_)
          · refine a_iconst (k := 49) rfl ?_
            refine a_istore (k := 50) (lv' := [(9, _), (8, _), (0, _), (1, _), (2, _), (3, _), (4, _), (6, _), (7, _)]) rfl (Nat.le_of_ble_eq_true rfl) rfl ?_
            refine u_iload (k := 51) rfl rfl ?_
            refine a_if_ne (k := 52) rfl (fun c_94 => ?_) (fun c_94 => ?_)
            · refine u_aloadn (k := 65) rfl rfl ?_
              refine a_getr (k := 66) rfl fRX8_9 rfl rfl rfl ?_
              refine u_iload (k := 67) rfl rfl ?_
              refine u_iload (k := 68) rfl rfl ?_
              refine u_iast (k := 69) rfl rfl rfl (by omega) ?_
              refine u_aloadn (k := 70) rfl rfl ?_
              refine a_getr (k := 71) rfl fRX8_15 rfl rfl rfl ?_
              refine u_iload (k := 72) rfl rfl ?_
              refine u_iload (k := 73) rfl rfl ?_
              refine u_iast (k := 74) rfl rfl rfl (by omega) ?_
              refine u_iinc (k := 75) (lv' := [(4, _), (9, _), (8, _), (0, _), (1, _), (2, _), (3, _), (6, _), (7, _)]) rfl rfl (Nat.le_of_ble_eq_true rfl) (by omega) rfl ?_
              refine a_goto (k := 76) rfl ?_
              refine a_sub [3, 4, 5, 6, 0] rfl ?_
              first
                | exact ih (n + 1) _ (by omega) (stay_ (by rw [hRC]; omega)) hF
                | exact ih (n + 1) _ (by omega) (upd_ fs hfs (by rw [hRC]; omega)) ((hF.p1 (by simp)).p1 (by simp))
                | omega
            · refine u_iload (k := 53) rfl rfl ?_
              refine u_aloadn (k := 54) rfl rfl ?_
              refine a_getr (k := 55) rfl fRX8_9 rfl rfl rfl ?_
              refine u_iload (k := 56) rfl rfl ?_
              refine u_iald (k := 57) rfl rfl rfl (by omega) ?_
              rw [hbT.1]
              refine a_icmp_ne (k := 58) rfl (fun c_106 => ?_) (fun c_106 => ?_)
              · refine u_iinc (k := 75) (lv' := [(4, _), (9, _), (8, _), (0, _), (1, _), (2, _), (3, _), (6, _), (7, _)]) rfl rfl (Nat.le_of_ble_eq_true rfl) (by omega) rfl ?_
                refine a_goto (k := 76) rfl ?_
                refine a_sub [3, 4, 5, 6, 0] rfl ?_
                first
                  | exact ih (n + 1) _ (by omega) (stay_ (by rw [hRC]; omega)) hF
                  | exact ih (n + 1) _ (by omega) (upd_ fs hfs (by rw [hRC]; omega)) ((hF.p1 (by simp)).p1 (by simp))
                  | omega
              · refine u_iload (k := 59) rfl rfl ?_
                refine u_aloadn (k := 60) rfl rfl ?_
                refine a_getr (k := 61) rfl fRX8_15 rfl rfl rfl ?_
                refine u_iload (k := 62) rfl rfl ?_
                refine u_iald (k := 63) rfl rfl rfl (by omega) ?_
                rw [hbT.2]
                refine a_icmp_ge (k := 64) rfl (fun c_118 => ?_) (fun c_118 => ?_)
                · refine u_iinc (k := 75) (lv' := [(4, _), (9, _), (8, _), (0, _), (1, _), (2, _), (3, _), (6, _), (7, _)]) rfl rfl (Nat.le_of_ble_eq_true rfl) (by omega) rfl ?_
                  refine a_goto (k := 76) rfl ?_
                  refine a_sub [3, 4, 5, 6, 0] rfl ?_
                  first
                    | exact ih (n + 1) _ (by omega) (stay_ (by rw [hRC]; omega)) hF
                    | exact ih (n + 1) _ (by omega) (upd_ fs hfs (by rw [hRC]; omega)) ((hF.p1 (by simp)).p1 (by simp))
                    | omega
                · refine u_aloadn (k := 65) rfl rfl ?_
                  refine a_getr (k := 66) rfl fRX8_9 rfl rfl rfl ?_
                  refine u_iload (k := 67) rfl rfl ?_
                  refine u_iload (k := 68) rfl rfl ?_
                  refine u_iast (k := 69) rfl rfl rfl (by omega) ?_
                  refine u_aloadn (k := 70) rfl rfl ?_
                  refine a_getr (k := 71) rfl fRX8_15 rfl rfl rfl ?_
                  refine u_iload (k := 72) rfl rfl ?_
                  refine u_iload (k := 73) rfl rfl ?_
                  refine u_iast (k := 74) rfl rfl rfl (by omega) ?_
                  refine u_iinc (k := 75) (lv' := [(4, _), (9, _), (8, _), (0, _), (1, _), (2, _), (3, _), (6, _), (7, _)]) rfl rfl (Nat.le_of_ble_eq_true rfl) (by omega) rfl ?_
                  refine a_goto (k := 76) rfl ?_
                  refine a_sub [3, 4, 5, 6, 0] rfl ?_
                  first
                    | exact ih (n + 1) _ (by omega) (stay_ (by rw [hRC]; omega)) hF
                    | exact ih (n + 1) _ (by omega) (upd_ fs hfs (by rw [hRC]; omega)) ((hF.p1 (by simp)).p1 (by simp))
                    | omega
          · refine a_iconst (k := 47) rfl ?_
            refine a_goto (k := 48) rfl ?_
            refine a_istore (k := 50) (lv' := [(9, _), (8, _), (0, _), (1, _), (2, _), (3, _), (4, _), (6, _), (7, _)]) rfl (Nat.le_of_ble_eq_true rfl) rfl ?_
            refine u_iload (k := 51) rfl rfl ?_
            refine a_if_ne (k := 52) rfl (fun c_94 => ?_) (fun c_94 => ?_)
            · refine u_aloadn (k := 65) rfl rfl ?_
              refine a_getr (k := 66) rfl fRX8_9 rfl rfl rfl ?_
              refine u_iload (k := 67) rfl rfl ?_
              refine u_iload (k := 68) rfl rfl ?_
              refine u_iast (k := 69) rfl rfl rfl (by omega) ?_
              refine u_aloadn (k := 70) rfl rfl ?_
              refine a_getr (k := 71) rfl fRX8_15 rfl rfl rfl ?_
              refine u_iload (k := 72) rfl rfl ?_
              refine u_iload (k := 73) rfl rfl ?_
              refine u_iast (k := 74) rfl rfl rfl (by omega) ?_
              refine u_iinc (k := 75) (lv' := [(4, _), (9, _), (8, _), (0, _), (1, _), (2, _), (3, _), (6, _), (7, _)]) rfl rfl (Nat.le_of_ble_eq_true rfl) (by omega) rfl ?_
              refine a_goto (k := 76) rfl ?_
              refine a_sub [3, 4, 5, 6, 0] rfl ?_
              first
                | exact ih (n + 1) _ (by omega) (stay_ (by rw [hRC]; omega)) hF
                | exact ih (n + 1) _ (by omega) (upd_ fs hfs (by rw [hRC]; omega)) ((hF.p1 (by simp)).p1 (by simp))
                | omega
            · refine u_iload (k := 53) rfl rfl ?_
              refine u_aloadn (k := 54) rfl rfl ?_
              refine a_getr (k := 55) rfl fRX8_9 rfl rfl rfl ?_
              refine u_iload (k := 56) rfl rfl ?_
              refine u_iald (k := 57) rfl rfl rfl (by omega) ?_
              rw [hbT.1]
              refine a_icmp_ne (k := 58) rfl (fun c_106 => ?_) (fun c_106 => ?_)
              · refine u_iinc (k := 75) (lv' := [(4, _), (9, _), (8, _), (0, _), (1, _), (2, _), (3, _), (6, _), (7, _)]) rfl rfl (Nat.le_of_ble_eq_true rfl) (by omega) rfl ?_
                refine a_goto (k := 76) rfl ?_
                refine a_sub [3, 4, 5, 6, 0] rfl ?_
                first
                  | exact ih (n + 1) _ (by omega) (stay_ (by rw [hRC]; omega)) hF
                  | exact ih (n + 1) _ (by omega) (upd_ fs hfs (by rw [hRC]; omega)) ((hF.p1 (by simp)).p1 (by simp))
                  | omega
              · refine u_iload (k := 59) rfl rfl ?_
                refine u_aloadn (k := 60) rfl rfl ?_
                refine a_getr (k := 61) rfl fRX8_15 rfl rfl rfl ?_
                refine u_iload (k := 62) rfl rfl ?_
                refine u_iald (k := 63) rfl rfl rfl (by omega) ?_
                rw [hbT.2]
                refine a_icmp_ge (k := 64) rfl (fun c_118 => ?_) (fun c_118 => ?_)
                · refine u_iinc (k := 75) (lv' := [(4, _), (9, _), (8, _), (0, _), (1, _), (2, _), (3, _), (6, _), (7, _)]) rfl rfl (Nat.le_of_ble_eq_true rfl) (by omega) rfl ?_
                  refine a_goto (k := 76) rfl ?_
                  refine a_sub [3, 4, 5, 6, 0] rfl ?_
                  first
                    | exact ih (n + 1) _ (by omega) (stay_ (by rw [hRC]; omega)) hF
                    | exact ih (n + 1) _ (by omega) (upd_ fs hfs (by rw [hRC]; omega)) ((hF.p1 (by simp)).p1 (by simp))
                    | omega
                · refine u_aloadn (k := 65) rfl rfl ?_
                  refine a_getr (k := 66) rfl fRX8_9 rfl rfl rfl ?_
                  refine u_iload (k := 67) rfl rfl ?_
                  refine u_iload (k := 68) rfl rfl ?_
                  refine u_iast (k := 69) rfl rfl rfl (by omega) ?_
                  refine u_aloadn (k := 70) rfl rfl ?_
                  refine a_getr (k := 71) rfl fRX8_15 rfl rfl rfl ?_
                  refine u_iload (k := 72) rfl rfl ?_
                  refine u_iload (k := 73) rfl rfl ?_
                  refine u_iast (k := 74) rfl rfl rfl (by omega) ?_
                  refine u_iinc (k := 75) (lv' := [(4, _), (9, _), (8, _), (0, _), (1, _), (2, _), (3, _), (6, _), (7, _)]) rfl rfl (Nat.le_of_ble_eq_true rfl) (by omega) rfl ?_
                  refine a_goto (k := 76) rfl ?_
                  refine a_sub [3, 4, 5, 6, 0] rfl ?_
                  first
                    | exact ih (n + 1) _ (by omega) (stay_ (by rw [hRC]; omega)) hF
                    | exact ih (n + 1) _ (by omega) (upd_ fs hfs (by rw [hRC]; omega)) ((hF.p1 (by simp)).p1 (by simp))
                    | omega
      refine u_iload (k := 2) rfl rfl ?_
      refine u_aloadn (k := 3) rfl rfl ?_
      refine a_geti (k := 4) rfl fRX8_63 rfl rfl ?_
      refine a_icmp_ge (k := 5) rfl (fun c_9 => ?_) (fun c_9 => ?_)
      · omega
      · refine u_aloadn (k := 6) rfl rfl ?_
        refine u_iload (k := 7) rfl rfl ?_
        refine i_virt1 (M' := mX3_moveAt) (k := 8) rfl lRX8_66 oX3_moveAt vX3_moveAt ⟨Nat.le_of_ble_eq_true rfl, Nat.le_of_ble_eq_true rfl⟩ rfl rfl (Nat.le_of_ble_eq_true rfl) (x_moveAt l n g hN' hl) ?_
        rw [epos]
        refine a_istore (k := 9) (lv' := [(5, _), (0, _), (1, _), (2, _), (3, _), (4, _)]) rfl (Nat.le_of_ble_eq_true rfl) rfl ?_
        refine u_iloadn (k := 10) rfl rfl ?_
        refine u_iload (k := 11) rfl rfl ?_
        refine i_statN1 (M' := mX10_takenBy) (k := 12) rfl lRX8_70 oX10_takenBy vX10_takenBy ⟨Nat.le_of_ble_eq_true rfl, Nat.le_of_ble_eq_true rfl⟩ rfl (Nat.le_of_ble_eq_true rfl) (x_takenBy p q g hp hq) ?_
        refine a_iconst (k := 13) rfl ?_
        refine a_ixor (k := 14) rfl ?_
        refine a_iand (k := 15) rfl ?_
        refine a_sipush (k := 16) rfl ?_
        refine a_iand (k := 17) rfl ?_
        rw [eT]
        refine a_istore (k := 18) (lv' := [(6, _), (5, _), (0, _), (1, _), (2, _), (3, _), (4, _)]) rfl (Nat.le_of_ble_eq_true rfl) rfl ?_
        refine u_aloadn (k := 19) rfl rfl ?_
        refine a_getr (k := 20) rfl fRX8_9 rfl rfl rfl ?_
        refine u_iloadn (k := 21) rfl rfl ?_
        refine u_iald (k := 22) rfl rfl rfl (by omega) ?_
        rw [hbS.1]
        refine a_iconst (k := 23) rfl ?_
        refine u_iadd (k := 24) rfl (by omega) ?_
        refine a_istore (k := 25) (lv' := [(7, _), (6, _), (5, _), (0, _), (1, _), (2, _), (3, _), (4, _)]) rfl (Nat.le_of_ble_eq_true rfl) rfl ?_
        refine u_iloadn (k := 26) rfl rfl ?_
        refine a_if_eq (k := 27) rfl (fun c_46 => ?_) (fun c_46 => ?_)
        · have hsa : ¬ S = a := fun z => by simp [z, b01] at c_46
          refine u_aloadn (k := 30) rfl rfl ?_
          refine a_getr (k := 31) rfl fRX8_15 rfl rfl rfl ?_
          refine u_iloadn (k := 32) rfl rfl ?_
          refine u_iald (k := 33) rfl rfl rfl (by omega) ?_
          refine a_sub [3, 4, 5, 6, 7, 1, 0] rfl ?_
          first | exact body _ (by rw [efs, if_pos hsa]) | exact body _ (by rw [efs, if_neg hsa]; exact hbS.2)
        · have hsa : S = a := by
            by_cases z : S = a
            · exact z
            · simp [z, b01] at c_46
          refine u_iload (k := 28) rfl rfl ?_
          refine a_goto (k := 29) rfl ?_
          refine a_sub [3, 4, 5, 6, 7, 1, 0] rfl ?_
          first | exact body _ (by rw [efs, if_pos hsa]) | exact body _ (by rw [efs, if_neg hsa]; exact hbS.2)
  refine a_iconst (k := 0) rfl ?_
  refine a_istore (k := 1) (lv' := [(4, _), (0, _), (1, _), (2, _), (3, _)]) rfl (Nat.le_of_ble_eq_true rfl) rfl ?_
  refine a_sub [1, 2, 3, 4, 0] rfl ?_
  exact L l.length 0 h (by omega) hB Fr.rf

/-- sets seen, fewest, its moves, its first -/
abbrev WT : Type := Nat × Int × Int × Int
def lx3 (cr : Int) (m f : Int) (w : WT) : Prop := cr < w.2.1 ∨ (cr = w.2.1 ∧ (m < w.2.2.1 ∨ (m = w.2.2.1 ∧ f < w.2.2.2)))
noncomputable def wg (x : FB) (S : Nat) (w : WT) : WT := by
  classical
  exact if lx3 (pc_ S) (x.1 S) (x.2 S) w then (w.1, (pc_ S : Int), x.1 S, x.2 S) else w
theorem wg_p {x : FB} {S : Nat} {w : WT} (h : lx3 (pc_ S) (x.1 S) (x.2 S) w) : wg x S w = (w.1, (pc_ S : Int), x.1 S, x.2 S) := by unfold wg; exact if_pos h
theorem wg_n {x : FB} {S : Nat} {w : WT} (h : ¬ lx3 (pc_ S) (x.1 S) (x.2 S) w) : wg x S w = w := by unfold wg; exact if_neg h
def HWt (w : WT) (g : HH) : Prop := g 22 0 2 = (w.1 : Int) ∧ g 22 0 3 = w.2.1 ∧ g 22 0 4 = w.2.2.1 ∧ g 22 0 5 = w.2.2.2
theorem x_weigh (S : Nat) (x : FB) (w : WT) (h : HH) (hS : S < 256) (hB : HB x h) (hw : HWt w h) : Sp mX8_weigh [vr 22 0, vi S] h (fun r g => r = none ∧ HWt (wg x S w) g ∧ Fr [] [(22, 0, 3), (22, 0, 4), (22, 0, 5)] h g) := by
  refine Sp.of rfl kX8_weigh (Nat.le_of_ble_eq_true rfl) ?_
  obtain ⟨w1, w2, w3, w4⟩ := hw
  obtain ⟨b1, b2⟩ := hB S hS
  have up : lx3 (pc_ S) (x.1 S) (x.2 S) w → AW mX8_weigh (fun r g => r = none ∧ HWt (wg x S w) g ∧ Fr [] [(22, 0, 3), (22, 0, 4), (22, 0, 5)] h g) 90 [(0, vr 22 0), (1, vi S), (2, vi (pc_ S))] [] h := by
    intro hc
    refine u_aloadn (k := 48) rfl rfl ?_
    refine u_iloadn (k := 49) rfl rfl ?_
    refine a_puti (k := 50) rfl pRX8_37 rfl rfl ?_
    refine u_aloadn (k := 51) rfl rfl ?_
    refine u_aloadn (k := 52) rfl rfl ?_
    refine a_getr (k := 53) rfl fRX8_9 rfl rfl rfl ?_
    refine u_iloadn (k := 54) rfl rfl ?_
    refine u_iald (k := 55) rfl rfl rfl (by omega) ?_
    rw [put_ne (by simp), b1]
    refine a_puti (k := 56) rfl pRX8_40 rfl rfl ?_
    refine u_aloadn (k := 57) rfl rfl ?_
    refine u_aloadn (k := 58) rfl rfl ?_
    refine a_getr (k := 59) rfl fRX8_15 rfl rfl rfl ?_
    refine u_iloadn (k := 60) rfl rfl ?_
    refine u_iald (k := 61) rfl rfl rfl (by omega) ?_
    rw [put_ne (by simp), put_ne (by simp), b2]
    refine a_puti (k := 62) rfl pRX8_43 rfl rfl ?_
    refine a_return (k := 63) rfl rfl ?_
    exact ⟨rfl, by rw [wg_p hc]; exact ⟨by simp only [put_apply, Nat.reduceEqDiff, reduceIte, false_and, and_false, true_and, and_true, and_self, if_false, if_true, not_false_eq_true, not_true_eq_false, ne_eq]; exact w1, by simp only [put_apply, Nat.reduceEqDiff, reduceIte, false_and, and_false, true_and, and_true, and_self, if_false, if_true, not_false_eq_true, not_true_eq_false, ne_eq], by simp only [put_apply, Nat.reduceEqDiff, reduceIte, false_and, and_false, true_and, and_true, and_self, if_false, if_true, not_false_eq_true, not_true_eq_false, ne_eq], by simp only [put_apply, Nat.reduceEqDiff, reduceIte, false_and, and_false, true_and, and_true, and_self, if_false, if_true, not_false_eq_true, not_true_eq_false, ne_eq]⟩, ((Fr.rf.p2 (by simp)).p2 (by simp)).p2 (by simp)⟩
  have no_ : ¬ lx3 (pc_ S) (x.1 S) (x.2 S) w → (none : Option AV) = none ∧ HWt (wg x S w) h ∧ Fr [] [(22, 0, 3), (22, 0, 4), (22, 0, 5)] h h := fun hc => ⟨rfl, by rw [wg_n hc]; exact ⟨w1, w2, w3, w4⟩, Fr.rf⟩
  refine u_iloadn (k := 0) rfl rfl ?_
  refine i_stat1 (M' := mJ6_bitCount_0f7a4) (k := 1) rfl lRX8_73 oJ6_bitCount_0f7a4 vJ6_bitCount_0f7a4 ⟨Nat.le_of_ble_eq_true rfl, Nat.le_of_ble_eq_true rfl⟩ rfl (Nat.le_of_ble_eq_true rfl) (j_bitCount S h (by omega)) ?_
  refine a_istoren (k := 2) (lv' := [(2, _), (0, _), (1, _)]) rfl (Nat.le_of_ble_eq_true rfl) rfl ?_
  refine u_iloadn (k := 3) rfl rfl ?_
  refine u_aloadn (k := 4) rfl rfl ?_
  refine a_geti (k := 5) rfl fRX8_37 rfl rfl ?_
  rw [w2]
  refine a_icmp_lt (k := 6) rfl (fun c_10 => ?_) (fun c_10 => ?_)
  · refine a_iconst (k := 18) rfl ?_
    refine a_goto (k := 19) rfl ?_
    refine a_istoren (k := 21) (lv' := [(3, _), (2, _), (0, _), (1, _)]) rfl (Nat.le_of_ble_eq_true rfl) rfl ?_
    refine u_iloadn (k := 22) rfl rfl ?_
    refine u_aloadn (k := 23) rfl rfl ?_
    refine a_geti (k := 24) rfl fRX8_37 rfl rfl ?_
    rw [w2]
    refine a_icmp_ne (k := 25) rfl (fun c_45 => ?_) (fun c_45 => ?_)
    · refine a_iconst (k := 35) rfl ?_
      refine a_istore (k := 36) (lv' := [(4, _), (3, _), (2, _), (0, _), (1, _)]) rfl (Nat.le_of_ble_eq_true rfl) rfl ?_
      refine u_iloadn (k := 37) rfl rfl ?_
      refine a_if_ne (k := 38) rfl (fun c_69 => ?_) (fun c_69 => ?_)
      · refine a_sub [3, 4, 2] rfl ?_
        first | exact up (by unfold lx3; omega) | omega
      · refine u_iload (k := 39) rfl rfl ?_
        refine a_if_eq (k := 40) rfl (fun c_74 => ?_) (fun c_74 => ?_)
        · refine a_return (k := 63) rfl rfl ?_
          first | exact no_ (by unfold lx3; omega) | omega
        · refine u_aloadn (k := 41) rfl rfl ?_
          refine a_getr (k := 42) rfl fRX8_15 rfl rfl rfl ?_
          refine u_iloadn (k := 43) rfl rfl ?_
          refine u_iald (k := 44) rfl rfl rfl (by omega) ?_
          refine u_aloadn (k := 45) rfl rfl ?_
          refine a_geti (k := 46) rfl fRX8_43 rfl rfl ?_
          rw [b2, w4]
          refine a_icmp_ge (k := 47) rfl (fun c_87 => ?_) (fun c_87 => ?_)
          · refine a_return (k := 63) rfl rfl ?_
            first | exact no_ (by unfold lx3; omega) | omega
          · refine a_sub [3, 4, 2] rfl ?_
            first | exact up (by unfold lx3; omega) | omega
    · refine u_aloadn (k := 26) rfl rfl ?_
      refine a_getr (k := 27) rfl fRX8_9 rfl rfl rfl ?_
      refine u_iloadn (k := 28) rfl rfl ?_
      refine u_iald (k := 29) rfl rfl rfl (by omega) ?_
      refine u_aloadn (k := 30) rfl rfl ?_
      refine a_geti (k := 31) rfl fRX8_40 rfl rfl ?_
      rw [b1, w3]
      refine a_icmp_ne (k := 32) rfl (fun c_58 => ?_) (fun c_58 => ?_)
      · refine a_iconst (k := 35) rfl ?_
        refine a_istore (k := 36) (lv' := [(4, _), (3, _), (2, _), (0, _), (1, _)]) rfl (Nat.le_of_ble_eq_true rfl) rfl ?_
        refine u_iloadn (k := 37) rfl rfl ?_
        refine a_if_ne (k := 38) rfl (fun c_69 => ?_) (fun c_69 => ?_)
        · refine a_sub [3, 4, 2] rfl ?_
          first | exact up (by unfold lx3; omega) | omega
        · refine u_iload (k := 39) rfl rfl ?_
          refine a_if_eq (k := 40) rfl (fun c_74 => ?_) (fun c_74 => ?_)
          · refine a_return (k := 63) rfl rfl ?_
            first | exact no_ (by unfold lx3; omega) | omega
          · refine u_aloadn (k := 41) rfl rfl ?_
            refine a_getr (k := 42) rfl fRX8_15 rfl rfl rfl ?_
            refine u_iloadn (k := 43) rfl rfl ?_
            refine u_iald (k := 44) rfl rfl rfl (by omega) ?_
            refine u_aloadn (k := 45) rfl rfl ?_
            refine a_geti (k := 46) rfl fRX8_43 rfl rfl ?_
            rw [b2, w4]
            refine a_icmp_ge (k := 47) rfl (fun c_87 => ?_) (fun c_87 => ?_)
            · refine a_return (k := 63) rfl rfl ?_
              first | exact no_ (by unfold lx3; omega) | omega
            · refine a_sub [3, 4, 2] rfl ?_
              first | exact up (by unfold lx3; omega) | omega
      · refine a_iconst (k := 33) rfl ?_
        refine a_goto (k := 34) rfl ?_
        refine a_istore (k := 36) (lv' := [(4, _), (3, _), (2, _), (0, _), (1, _)]) rfl (Nat.le_of_ble_eq_true rfl) rfl ?_
        refine u_iloadn (k := 37) rfl rfl ?_
        refine a_if_ne (k := 38) rfl (fun c_69 => ?_) (fun c_69 => ?_)
        · refine a_sub [3, 4, 2] rfl ?_
          first | exact up (by unfold lx3; omega) | omega
        · refine u_iload (k := 39) rfl rfl ?_
          refine a_if_eq (k := 40) rfl (fun c_74 => ?_) (fun c_74 => ?_)
          · refine a_return (k := 63) rfl rfl ?_
            first | exact no_ (by unfold lx3; omega) | omega
          · refine u_aloadn (k := 41) rfl rfl ?_
            refine a_getr (k := 42) rfl fRX8_15 rfl rfl rfl ?_
            refine u_iloadn (k := 43) rfl rfl ?_
            refine u_iald (k := 44) rfl rfl rfl (by omega) ?_
            refine u_aloadn (k := 45) rfl rfl ?_
            refine a_geti (k := 46) rfl fRX8_43 rfl rfl ?_
            rw [b2, w4]
            refine a_icmp_ge (k := 47) rfl (fun c_87 => ?_) (fun c_87 => ?_)
            · refine a_return (k := 63) rfl rfl ?_
              first | exact no_ (by unfold lx3; omega) | omega
            · refine a_sub [3, 4, 2] rfl ?_
              first | exact up (by unfold lx3; omega) | omega
  · refine u_iloadn (k := 7) rfl rfl ?_
    refine u_aloadn (k := 8) rfl rfl ?_
    refine a_geti (k := 9) rfl fRX8_37 rfl rfl ?_
    rw [w2]
    refine a_icmp_ne (k := 10) rfl (fun c_18 => ?_) (fun c_18 => ?_)
    · refine a_iconst (k := 20) rfl ?_
      refine a_istoren (k := 21) (lv' := [(3, _), (2, _), (0, _), (1, _)]) rfl (Nat.le_of_ble_eq_true rfl) rfl ?_
      refine u_iloadn (k := 22) rfl rfl ?_
      refine u_aloadn (k := 23) rfl rfl ?_
      refine a_geti (k := 24) rfl fRX8_37 rfl rfl ?_
      rw [w2]
      refine a_icmp_ne (k := 25) rfl (fun c_45 => ?_) (fun c_45 => ?_)
      · refine a_iconst (k := 35) rfl ?_
        refine a_istore (k := 36) (lv' := [(4, _), (3, _), (2, _), (0, _), (1, _)]) rfl (Nat.le_of_ble_eq_true rfl) rfl ?_
        refine u_iloadn (k := 37) rfl rfl ?_
        refine a_if_ne (k := 38) rfl (fun c_69 => ?_) (fun c_69 => ?_)
        · refine a_sub [3, 4, 2] rfl ?_
          first | exact up (by unfold lx3; omega) | omega
        · refine u_iload (k := 39) rfl rfl ?_
          refine a_if_eq (k := 40) rfl (fun c_74 => ?_) (fun c_74 => ?_)
          · refine a_return (k := 63) rfl rfl ?_
            first | exact no_ (by unfold lx3; omega) | omega
          · refine u_aloadn (k := 41) rfl rfl ?_
            refine a_getr (k := 42) rfl fRX8_15 rfl rfl rfl ?_
            refine u_iloadn (k := 43) rfl rfl ?_
            refine u_iald (k := 44) rfl rfl rfl (by omega) ?_
            refine u_aloadn (k := 45) rfl rfl ?_
            refine a_geti (k := 46) rfl fRX8_43 rfl rfl ?_
            rw [b2, w4]
            refine a_icmp_ge (k := 47) rfl (fun c_87 => ?_) (fun c_87 => ?_)
            · refine a_return (k := 63) rfl rfl ?_
              first | exact no_ (by unfold lx3; omega) | omega
            · refine a_sub [3, 4, 2] rfl ?_
              first | exact up (by unfold lx3; omega) | omega
      · refine u_aloadn (k := 26) rfl rfl ?_
        refine a_getr (k := 27) rfl fRX8_9 rfl rfl rfl ?_
        refine u_iloadn (k := 28) rfl rfl ?_
        refine u_iald (k := 29) rfl rfl rfl (by omega) ?_
        refine u_aloadn (k := 30) rfl rfl ?_
        refine a_geti (k := 31) rfl fRX8_40 rfl rfl ?_
        rw [b1, w3]
        refine a_icmp_ne (k := 32) rfl (fun c_58 => ?_) (fun c_58 => ?_)
        · refine a_iconst (k := 35) rfl ?_
          refine a_istore (k := 36) (lv' := [(4, _), (3, _), (2, _), (0, _), (1, _)]) rfl (Nat.le_of_ble_eq_true rfl) rfl ?_
          refine u_iloadn (k := 37) rfl rfl ?_
          refine a_if_ne (k := 38) rfl (fun c_69 => ?_) (fun c_69 => ?_)
          · refine a_sub [3, 4, 2] rfl ?_
            first | exact up (by unfold lx3; omega) | omega
          · refine u_iload (k := 39) rfl rfl ?_
            refine a_if_eq (k := 40) rfl (fun c_74 => ?_) (fun c_74 => ?_)
            · refine a_return (k := 63) rfl rfl ?_
              first | exact no_ (by unfold lx3; omega) | omega
            · refine u_aloadn (k := 41) rfl rfl ?_
              refine a_getr (k := 42) rfl fRX8_15 rfl rfl rfl ?_
              refine u_iloadn (k := 43) rfl rfl ?_
              refine u_iald (k := 44) rfl rfl rfl (by omega) ?_
              refine u_aloadn (k := 45) rfl rfl ?_
              refine a_geti (k := 46) rfl fRX8_43 rfl rfl ?_
              rw [b2, w4]
              refine a_icmp_ge (k := 47) rfl (fun c_87 => ?_) (fun c_87 => ?_)
              · refine a_return (k := 63) rfl rfl ?_
                first | exact no_ (by unfold lx3; omega) | omega
              · refine a_sub [3, 4, 2] rfl ?_
                first | exact up (by unfold lx3; omega) | omega
        · refine a_iconst (k := 33) rfl ?_
          refine a_goto (k := 34) rfl ?_
          refine a_istore (k := 36) (lv' := [(4, _), (3, _), (2, _), (0, _), (1, _)]) rfl (Nat.le_of_ble_eq_true rfl) rfl ?_
          refine u_iloadn (k := 37) rfl rfl ?_
          refine a_if_ne (k := 38) rfl (fun c_69 => ?_) (fun c_69 => ?_)
          · refine a_sub [3, 4, 2] rfl ?_
            first | exact up (by unfold lx3; omega) | omega
          · refine u_iload (k := 39) rfl rfl ?_
            refine a_if_eq (k := 40) rfl (fun c_74 => ?_) (fun c_74 => ?_)
            · refine a_return (k := 63) rfl rfl ?_
              first | exact no_ (by unfold lx3; omega) | omega
            · refine u_aloadn (k := 41) rfl rfl ?_
              refine a_getr (k := 42) rfl fRX8_15 rfl rfl rfl ?_
              refine u_iloadn (k := 43) rfl rfl ?_
              refine u_iald (k := 44) rfl rfl rfl (by omega) ?_
              refine u_aloadn (k := 45) rfl rfl ?_
              refine a_geti (k := 46) rfl fRX8_43 rfl rfl ?_
              rw [b2, w4]
              refine a_icmp_ge (k := 47) rfl (fun c_87 => ?_) (fun c_87 => ?_)
              · refine a_return (k := 63) rfl rfl ?_
                first | exact no_ (by unfold lx3; omega) | omega
              · refine a_sub [3, 4, 2] rfl ?_
                first | exact up (by unfold lx3; omega) | omega
    · refine u_aloadn (k := 11) rfl rfl ?_
      refine a_getr (k := 12) rfl fRX8_9 rfl rfl rfl ?_
      refine u_iloadn (k := 13) rfl rfl ?_
      refine u_iald (k := 14) rfl rfl rfl (by omega) ?_
      refine u_aloadn (k := 15) rfl rfl ?_
      refine a_geti (k := 16) rfl fRX8_40 rfl rfl ?_
      rw [b1, w3]
      refine a_icmp_ge (k := 17) rfl (fun c_31 => ?_) (fun c_31 => ?_)
      · refine a_iconst (k := 20) rfl ?_
        refine a_istoren (k := 21) (lv' := [(3, _), (2, _), (0, _), (1, _)]) rfl (Nat.le_of_ble_eq_true rfl) rfl ?_
        refine u_iloadn (k := 22) rfl rfl ?_
        refine u_aloadn (k := 23) rfl rfl ?_
        refine a_geti (k := 24) rfl fRX8_37 rfl rfl ?_
        rw [w2]
        refine a_icmp_ne (k := 25) rfl (fun c_45 => ?_) (fun c_45 => ?_)
        · refine a_iconst (k := 35) rfl ?_
          refine a_istore (k := 36) (lv' := [(4, _), (3, _), (2, _), (0, _), (1, _)]) rfl (Nat.le_of_ble_eq_true rfl) rfl ?_
          refine u_iloadn (k := 37) rfl rfl ?_
          refine a_if_ne (k := 38) rfl (fun c_69 => ?_) (fun c_69 => ?_)
          · refine a_sub [3, 4, 2] rfl ?_
            first | exact up (by unfold lx3; omega) | omega
          · refine u_iload (k := 39) rfl rfl ?_
            refine a_if_eq (k := 40) rfl (fun c_74 => ?_) (fun c_74 => ?_)
            · refine a_return (k := 63) rfl rfl ?_
              first | exact no_ (by unfold lx3; omega) | omega
            · refine u_aloadn (k := 41) rfl rfl ?_
              refine a_getr (k := 42) rfl fRX8_15 rfl rfl rfl ?_
              refine u_iloadn (k := 43) rfl rfl ?_
              refine u_iald (k := 44) rfl rfl rfl (by omega) ?_
              refine u_aloadn (k := 45) rfl rfl ?_
              refine a_geti (k := 46) rfl fRX8_43 rfl rfl ?_
              rw [b2, w4]
              refine a_icmp_ge (k := 47) rfl (fun c_87 => ?_) (fun c_87 => ?_)
              · refine a_return (k := 63) rfl rfl ?_
                first | exact no_ (by unfold lx3; omega) | omega
              · refine a_sub [3, 4, 2] rfl ?_
                first | exact up (by unfold lx3; omega) | omega
        · refine u_aloadn (k := 26) rfl rfl ?_
          refine a_getr (k := 27) rfl fRX8_9 rfl rfl rfl ?_
          refine u_iloadn (k := 28) rfl rfl ?_
          refine u_iald (k := 29) rfl rfl rfl (by omega) ?_
          refine u_aloadn (k := 30) rfl rfl ?_
          refine a_geti (k := 31) rfl fRX8_40 rfl rfl ?_
          rw [b1, w3]
          refine a_icmp_ne (k := 32) rfl (fun c_58 => ?_) (fun c_58 => ?_)
          · refine a_iconst (k := 35) rfl ?_
            refine a_istore (k := 36) (lv' := [(4, _), (3, _), (2, _), (0, _), (1, _)]) rfl (Nat.le_of_ble_eq_true rfl) rfl ?_
            refine u_iloadn (k := 37) rfl rfl ?_
            refine a_if_ne (k := 38) rfl (fun c_69 => ?_) (fun c_69 => ?_)
            · refine a_sub [3, 4, 2] rfl ?_
              first | exact up (by unfold lx3; omega) | omega
            · refine u_iload (k := 39) rfl rfl ?_
              refine a_if_eq (k := 40) rfl (fun c_74 => ?_) (fun c_74 => ?_)
              · refine a_return (k := 63) rfl rfl ?_
                first | exact no_ (by unfold lx3; omega) | omega
              · refine u_aloadn (k := 41) rfl rfl ?_
                refine a_getr (k := 42) rfl fRX8_15 rfl rfl rfl ?_
                refine u_iloadn (k := 43) rfl rfl ?_
                refine u_iald (k := 44) rfl rfl rfl (by omega) ?_
                refine u_aloadn (k := 45) rfl rfl ?_
                refine a_geti (k := 46) rfl fRX8_43 rfl rfl ?_
                rw [b2, w4]
                refine a_icmp_ge (k := 47) rfl (fun c_87 => ?_) (fun c_87 => ?_)
                · refine a_return (k := 63) rfl rfl ?_
                  first | exact no_ (by unfold lx3; omega) | omega
                · refine a_sub [3, 4, 2] rfl ?_
                  first | exact up (by unfold lx3; omega) | omega
          · refine a_iconst (k := 33) rfl ?_
            refine a_goto (k := 34) rfl ?_
            refine a_istore (k := 36) (lv' := [(4, _), (3, _), (2, _), (0, _), (1, _)]) rfl (Nat.le_of_ble_eq_true rfl) rfl ?_
            refine u_iloadn (k := 37) rfl rfl ?_
            refine a_if_ne (k := 38) rfl (fun c_69 => ?_) (fun c_69 => ?_)
            · refine a_sub [3, 4, 2] rfl ?_
              first | exact up (by unfold lx3; omega) | omega
            · refine u_iload (k := 39) rfl rfl ?_
              refine a_if_eq (k := 40) rfl (fun c_74 => ?_) (fun c_74 => ?_)
              · refine a_return (k := 63) rfl rfl ?_
                first | exact no_ (by unfold lx3; omega) | omega
              · refine u_aloadn (k := 41) rfl rfl ?_
                refine a_getr (k := 42) rfl fRX8_15 rfl rfl rfl ?_
                refine u_iloadn (k := 43) rfl rfl ?_
                refine u_iald (k := 44) rfl rfl rfl (by omega) ?_
                refine u_aloadn (k := 45) rfl rfl ?_
                refine a_geti (k := 46) rfl fRX8_43 rfl rfl ?_
                rw [b2, w4]
                refine a_icmp_ge (k := 47) rfl (fun c_87 => ?_) (fun c_87 => ?_)
                · refine a_return (k := 63) rfl rfl ?_
                  first | exact no_ (by unfold lx3; omega) | omega
                · refine a_sub [3, 4, 2] rfl ?_
                  first | exact up (by unfold lx3; omega) | omega
      · refine a_iconst (k := 18) rfl ?_
        refine a_goto (k := 19) rfl ?_
        refine a_istoren (k := 21) (lv' := [(3, _), (2, _), (0, _), (1, _)]) rfl (Nat.le_of_ble_eq_true rfl) rfl ?_
        refine u_iloadn (k := 22) rfl rfl ?_
        refine u_aloadn (k := 23) rfl rfl ?_
        refine a_geti (k := 24) rfl fRX8_37 rfl rfl ?_
        rw [w2]
        refine a_icmp_ne (k := 25) rfl (fun c_45 => ?_) (fun c_45 => ?_)
        · refine a_iconst (k := 35) rfl ?_
          refine a_istore (k := 36) (lv' := [(4, _), (3, _), (2, _), (0, _), (1, _)]) rfl (Nat.le_of_ble_eq_true rfl) rfl ?_
          refine u_iloadn (k := 37) rfl rfl ?_
          refine a_if_ne (k := 38) rfl (fun c_69 => ?_) (fun c_69 => ?_)
          · refine a_sub [3, 4, 2] rfl ?_
            first | exact up (by unfold lx3; omega) | omega
          · refine u_iload (k := 39) rfl rfl ?_
            refine a_if_eq (k := 40) rfl (fun c_74 => ?_) (fun c_74 => ?_)
            · refine a_return (k := 63) rfl rfl ?_
              first | exact no_ (by unfold lx3; omega) | omega
            · refine u_aloadn (k := 41) rfl rfl ?_
              refine a_getr (k := 42) rfl fRX8_15 rfl rfl rfl ?_
              refine u_iloadn (k := 43) rfl rfl ?_
              refine u_iald (k := 44) rfl rfl rfl (by omega) ?_
              refine u_aloadn (k := 45) rfl rfl ?_
              refine a_geti (k := 46) rfl fRX8_43 rfl rfl ?_
              rw [b2, w4]
              refine a_icmp_ge (k := 47) rfl (fun c_87 => ?_) (fun c_87 => ?_)
              · refine a_return (k := 63) rfl rfl ?_
                first | exact no_ (by unfold lx3; omega) | omega
              · refine a_sub [3, 4, 2] rfl ?_
                first | exact up (by unfold lx3; omega) | omega
        · refine u_aloadn (k := 26) rfl rfl ?_
          refine a_getr (k := 27) rfl fRX8_9 rfl rfl rfl ?_
          refine u_iloadn (k := 28) rfl rfl ?_
          refine u_iald (k := 29) rfl rfl rfl (by omega) ?_
          refine u_aloadn (k := 30) rfl rfl ?_
          refine a_geti (k := 31) rfl fRX8_40 rfl rfl ?_
          rw [b1, w3]
          refine a_icmp_ne (k := 32) rfl (fun c_58 => ?_) (fun c_58 => ?_)
          · refine a_iconst (k := 35) rfl ?_
            refine a_istore (k := 36) (lv' := [(4, _), (3, _), (2, _), (0, _), (1, _)]) rfl (Nat.le_of_ble_eq_true rfl) rfl ?_
            refine u_iloadn (k := 37) rfl rfl ?_
            refine a_if_ne (k := 38) rfl (fun c_69 => ?_) (fun c_69 => ?_)
            · refine a_sub [3, 4, 2] rfl ?_
              first | exact up (by unfold lx3; omega) | omega
            · refine u_iload (k := 39) rfl rfl ?_
              refine a_if_eq (k := 40) rfl (fun c_74 => ?_) (fun c_74 => ?_)
              · refine a_return (k := 63) rfl rfl ?_
                first | exact no_ (by unfold lx3; omega) | omega
              · refine u_aloadn (k := 41) rfl rfl ?_
                refine a_getr (k := 42) rfl fRX8_15 rfl rfl rfl ?_
                refine u_iloadn (k := 43) rfl rfl ?_
                refine u_iald (k := 44) rfl rfl rfl (by omega) ?_
                refine u_aloadn (k := 45) rfl rfl ?_
                refine a_geti (k := 46) rfl fRX8_43 rfl rfl ?_
                rw [b2, w4]
                refine a_icmp_ge (k := 47) rfl (fun c_87 => ?_) (fun c_87 => ?_)
                · refine a_return (k := 63) rfl rfl ?_
                  first | exact no_ (by unfold lx3; omega) | omega
                · refine a_sub [3, 4, 2] rfl ?_
                  first | exact up (by unfold lx3; omega) | omega
          · refine a_iconst (k := 33) rfl ?_
            refine a_goto (k := 34) rfl ?_
            refine a_istore (k := 36) (lv' := [(4, _), (3, _), (2, _), (0, _), (1, _)]) rfl (Nat.le_of_ble_eq_true rfl) rfl ?_
            refine u_iloadn (k := 37) rfl rfl ?_
            refine a_if_ne (k := 38) rfl (fun c_69 => ?_) (fun c_69 => ?_)
            · refine a_sub [3, 4, 2] rfl ?_
              first | exact up (by unfold lx3; omega) | omega
            · refine u_iload (k := 39) rfl rfl ?_
              refine a_if_eq (k := 40) rfl (fun c_74 => ?_) (fun c_74 => ?_)
              · refine a_return (k := 63) rfl rfl ?_
                first | exact no_ (by unfold lx3; omega) | omega
              · refine u_aloadn (k := 41) rfl rfl ?_
                refine a_getr (k := 42) rfl fRX8_15 rfl rfl rfl ?_
                refine u_iloadn (k := 43) rfl rfl ?_
                refine u_iald (k := 44) rfl rfl rfl (by omega) ?_
                refine u_aloadn (k := 45) rfl rfl ?_
                refine a_geti (k := 46) rfl fRX8_43 rfl rfl ?_
                rw [b2, w4]
                refine a_icmp_ge (k := 47) rfl (fun c_87 => ?_) (fun c_87 => ?_)
                · refine a_return (k := 63) rfl rfl ?_
                  first | exact no_ (by unfold lx3; omega) | omega
                · refine a_sub [3, 4, 2] rfl ?_
                  first | exact up (by unfold lx3; omega) | omega
end
section
theorem mls_ML (f : Nat → Nat) (c S W H : Nat) : ML S (mls f c S W H) := by
  intro i hi
  have hv : fn (mls f c S W H) i ∈ mls f c S W H := by
    rw [fn, List.getD, List.getElem?_eq_getElem hi]
    simp
  obtain ⟨a, b, h1, h2, h3, h4, h5⟩ := mpre_mem.mp hv
  refine ⟨a, b, h1, h2, h5, ?_⟩
  simp only [mvp, Bool.and_eq_true] at h4
  have := h4.1
  rw [ndiff_bit] at this
  simp only [Bool.and_eq_true] at this
  exact this.1
noncomputable def tstep (f : Nat → Nat) (c s a n : Nat) (y : FB × WT) : FB × WT := by
  classical
  exact if y.1.1 n ≠ -1 then (rli n a (mls f c n 0 s) y.1 (mls f c n 0 s).length, wg y.1 n (y.2.1 + 1, y.2.2)) else y
theorem tstep_p {f : Nat → Nat} {c s a n : Nat} {y : FB × WT} (h : y.1.1 n ≠ -1) : tstep f c s a n y = (rli n a (mls f c n 0 s) y.1 (mls f c n 0 s).length, wg y.1 n (y.2.1 + 1, y.2.2)) := by unfold tstep; exact if_pos h
theorem tstep_n {f : Nat → Nat} {c s a n : Nat} {y : FB × WT} (h : y.1.1 n = -1) : tstep f c s a n y = y := by unfold tstep; exact if_neg (fun z => z h)
noncomputable def ta (f : Nat → Nat) (c s a : Nat) : Nat → FB × WT → FB × WT
  | 0, y => y
  | n + 1, y => ta f c s a n (tstep f c s a n y)
def tsh : List (Nat × Nat) := [(17, 0), (18, 0), (19, 0), (20, 0), (21, 0), (22, 0), (23, 0), (24, 0)]
theorem x_tryAll (j c s : Nat) (f : Nat → Nat) (h : HH) (hR : RP j c f s h) :
    Sp mX8_tryAll [vr 22 0, vr 5 j, vr 17 0] h (fun r g => r = none ∧ HWt (ta f c s (2 ^ c - 1) (2 ^ c) ((ui (fun _ => -1) (2 ^ c - 1) 0, ui (h 24 0) (2 ^ c - 1) (-1)), (0, (c : Int), 0, -1))).2 g ∧ Fr tsh [] h g) := by
  refine Sp.of rfl kX8_tryAll (Nat.le_of_ble_eq_true rfl) ?_
  have hp : 0 < 2 ^ c := Nat.pow_pos (by omega)
  have hq : 2 ^ c ≤ 2 ^ 8 := Nat.pow_le_pow_right (by omega) hR.2.1
  have L : ∀ (n : Nat) (y : FB × WT) (g : HH), n ≤ 2 ^ c → HB y.1 g → FO y.1 → HWt y.2 g → y.2.1 + n ≤ 2 ^ c → Fr tsh [] h g → AW mX8_tryAll (fun r g => r = none ∧ HWt (ta f c s (2 ^ c - 1) n y).2 g ∧ Fr tsh [] h g) 57 [(0, vr 22 0), (1, vr 5 j), (2, vr 17 0), (3, vi ((2 ^ c - 1 : Nat) : Int)), (4, vi ((n : Int) - 1))] [] g := by
    intro n
    induction n with
    | zero =>
      intro y g hn hB hO hw hs hF
      refine u_iload (k := 34) rfl rfl ?_
      refine a_if_lt (k := 35) rfl (fun c_59 => ?_) (fun c_59 => ?_)
      · refine a_return (k := 70) rfl rfl ?_
        exact ⟨rfl, hw, hF⟩
      · omega
    | succ n ih =>
      intro y g hn hB hO hw hs hF
      have em : ((n + 1 : Nat) : Int) - 1 = (n : Int) := by omega
      rw [em]
      have hb := (hB n (by omega)).1
      have ho := hO n (by omega)
      have et : ta f c s (2 ^ c - 1) (n + 1) y = ta f c s (2 ^ c - 1) n (tstep f c s (2 ^ c - 1) n y) := rfl
      have fin : ∀ g2 : HH, y.1.1 n ≠ -1 → Fr tsh [] h g2 → HWt (wg y.1 n (y.2.1 + 1, y.2.2)) g2 → HB y.1 g2 → LK f c n 0 s g2 → AW mX8_tryAll (fun r g => r = none ∧ HWt (ta f c s (2 ^ c - 1) (n + 1) y).2 g ∧ Fr tsh [] h g) 115 [(0, vr 22 0), (1, vr 5 j), (2, vr 17 0), (3, vi ((2 ^ c - 1 : Nat) : Int)), (4, vi n)] [vi (b01 (decide (n = 2 ^ c - 1))), vi n, vr 22 0] g2 := by
        intro g2 hne hF2 hw2 hB2 hLK
        have hwl : (wg y.1 n (y.2.1 + 1, y.2.2)).1 = y.2.1 + 1 := by
          by_cases hc : lx3 (pc_ n) (y.1.1 n) (y.1.2 n) (y.2.1 + 1, y.2.2)
          · rw [wg_p hc]
          · rw [wg_n hc]
        have h0 : 0 ≤ y.1.1 n := by omega
        refine u_aloadn (k := 66) rfl rfl ?_
        refine uv_virt3 (M' := mX8_followMoves) (k := 67) rfl lRX8_59 oX8_followMoves vX8_followMoves ⟨Nat.le_of_ble_eq_true rfl, Nat.le_of_ble_eq_true rfl⟩ rfl rfl (Nat.le_of_ble_eq_true rfl) (x_followMoves n (2 ^ c - 1) (mls f c n 0 s) y.1 g2 hLK.1 (mls_len f c n 0 s) (mls_ML f c n 0 s) (by omega) hB2 hO h0 (by omega)) (by intro r g hp; exact hp.1) (fun g3 hg3 => ?_)
        obtain ⟨-, b5, b6⟩ := hg3
        refine u_iinc (k := 68) (lv' := [(4, _), (0, _), (1, _), (2, _), (3, _)]) rfl rfl (Nat.le_of_ble_eq_true rfl) (by omega) rfl ?_
        refine a_goto (k := 69) rfl ?_
        refine a_sub [1, 2, 3, 4, 0] rfl ?_
        rw [et, tstep_p hne]
        exact ih _ g3 (by omega) b5 (rli_ok (mls_ML f c n 0 s) hO (by omega) h0 _ (Nat.le_refl _)).1 ⟨by rw [b6 22 0 2 (by simp) (by simp)]; exact hw2.1, by rw [b6 22 0 3 (by simp) (by simp)]; exact hw2.2.1, by rw [b6 22 0 4 (by simp) (by simp)]; exact hw2.2.2.1, by rw [b6 22 0 5 (by simp) (by simp)]; exact hw2.2.2.2⟩ (by dsimp only; omega) (hF2.tr b6 (by simp [tsh]) (by simp))
      refine u_iload (k := 34) rfl rfl ?_
      refine a_if_lt (k := 35) rfl (fun c_59 => ?_) (fun c_59 => ?_)
      · omega
      · refine u_aloadn (k := 36) rfl rfl ?_
        refine a_getr (k := 37) rfl fRX8_9 rfl rfl rfl ?_
        refine u_iload (k := 38) rfl rfl ?_
        refine u_iald (k := 39) rfl rfl rfl (by omega) ?_
        rw [hb]
        refine a_iconst (k := 40) rfl ?_
        refine a_icmp_eq (k := 41) rfl (fun c_70 => ?_) (fun c_70 => ?_)
        · refine u_iinc (k := 68) (lv' := [(4, _), (0, _), (1, _), (2, _), (3, _)]) rfl rfl (Nat.le_of_ble_eq_true rfl) (by omega) rfl ?_
          refine a_goto (k := 69) rfl ?_
          refine a_sub [1, 2, 3, 4, 0] rfl ?_
          rw [et, tstep_n (by omega)]; exact ih y g (by omega) hB hO hw (by omega) hF
        · refine u_aloadn (k := 42) rfl rfl ?_
          refine a_dup (k := 43) rfl rfl ?_
          refine a_geti (k := 44) rfl fRX8_30 rfl rfl ?_
          rw [hw.1]
          refine a_iconst (k := 45) rfl ?_
          refine u_iadd (k := 46) rfl (by omega) ?_
          refine a_puti (k := 47) rfl pRX8_30 rfl rfl ?_
          refine u_aloadn (k := 48) rfl rfl ?_
          refine u_iload (k := 49) rfl rfl ?_
          refine uv_virt1 (M' := mX8_weigh) (k := 50) rfl lRX8_46 oX8_weigh vX8_weigh ⟨Nat.le_of_ble_eq_true rfl, Nat.le_of_ble_eq_true rfl⟩ rfl rfl (Nat.le_of_ble_eq_true rfl) (x_weigh n y.1 (y.2.1 + 1, y.2.2) _ (by omega) (fun T hT => by simp only [put_apply, Nat.reduceEqDiff, reduceIte, false_and, and_false, true_and, and_true, and_self, if_false, if_true, not_false_eq_true, not_true_eq_false, ne_eq]; exact hB T hT) ⟨by rw [put_eq]; rfl, by simp only [put_apply, Nat.reduceEqDiff, reduceIte, false_and, and_false, true_and, and_true, and_self, if_false, if_true, not_false_eq_true, not_true_eq_false, ne_eq]; exact hw.2.1, by simp only [put_apply, Nat.reduceEqDiff, reduceIte, false_and, and_false, true_and, and_true, and_self, if_false, if_true, not_false_eq_true, not_true_eq_false, ne_eq]; exact hw.2.2.1, by simp only [put_apply, Nat.reduceEqDiff, reduceIte, false_and, and_false, true_and, and_true, and_self, if_false, if_true, not_false_eq_true, not_true_eq_false, ne_eq]; exact hw.2.2.2⟩) (by intro r g hp; exact hp.1) (fun g1 hg1 => ?_)
          obtain ⟨-, b1, b2⟩ := hg1; have hF1 : Fr tsh [] h g1 := (hF.p1 (by simp [tsh])).tr b2 (by simp) (by simp [tsh]); have hR1 : RP j c f s g1 := hR.fr hF1 (by simp [tsh]) (by simp [tsh]) (by simp) (by simp); have hs1 := hR1.2.2.1
          refine u_aloadn (k := 51) rfl rfl ?_
          refine u_aloadn (k := 52) rfl rfl ?_
          refine u_iload (k := 53) rfl rfl ?_
          refine a_iconst (k := 54) rfl ?_
          refine u_aloadn (k := 55) rfl rfl ?_
          refine a_geti (k := 56) rfl fRX8_50 rfl rfl ?_
          rw [hs1]
          refine uv_virt4 (M' := mX3_lookAt) (k := 57) rfl lRX8_53 oX3_lookAt vX3_lookAt ⟨Nat.le_of_ble_eq_true rfl, Nat.le_of_ble_eq_true rfl⟩ rfl rfl (Nat.le_of_ble_eq_true rfl) (x_lookAt j c s n 0 s f g1 hR1 (by omega) (by omega) (by have := hR.2.2.2.1; omega)) (by intro r g hp; exact hp.1) (fun g2 hg2 => ?_)
          obtain ⟨-, b3, b4⟩ := hg2
          refine u_aloadn (k := 58) rfl rfl ?_
          refine u_iload (k := 59) rfl rfl ?_
          refine u_iload (k := 60) rfl rfl ?_
          refine u_iloadn (k := 61) rfl rfl ?_
          refine a_icmp_ne (k := 62) rfl (fun c_107 => ?_) (fun c_107 => ?_)
          · have e9 : (0 : Int) = b01 (decide (n = 2 ^ c - 1)) := by rw [decide_eq_false (by omega)]; rfl
            refine a_iconst (k := 65) rfl ?_
            rw [e9]
            refine fin g2 (by omega) (hF1.tr b4 (by simp [tsh, tml]) (by simp)) ⟨by rw [b4 22 0 2 (by simp [tml]) (by simp)]; exact b1.1, by rw [b4 22 0 3 (by simp [tml]) (by simp)]; exact b1.2.1, by rw [b4 22 0 4 (by simp [tml]) (by simp)]; exact b1.2.2.1, by rw [b4 22 0 5 (by simp [tml]) (by simp)]; exact b1.2.2.2⟩ (fun T hT => ?_) b3
            rw [b4 23 0 T (by simp [tml]) (by simp), b4 24 0 T (by simp [tml]) (by simp), b2 23 0 T (by simp) (by simp), b2 24 0 T (by simp) (by simp), put_ne (by simp), put_ne (by simp)]
            exact hB T hT
          · have e9 : (1 : Int) = b01 (decide (n = 2 ^ c - 1)) := by rw [decide_eq_true (by omega)]; rfl
            refine a_iconst (k := 63) rfl ?_
            refine a_goto (k := 64) rfl ?_
            rw [e9]
            refine fin g2 (by omega) (hF1.tr b4 (by simp [tsh, tml]) (by simp)) ⟨by rw [b4 22 0 2 (by simp [tml]) (by simp)]; exact b1.1, by rw [b4 22 0 3 (by simp [tml]) (by simp)]; exact b1.2.1, by rw [b4 22 0 4 (by simp [tml]) (by simp)]; exact b1.2.2.1, by rw [b4 22 0 5 (by simp [tml]) (by simp)]; exact b1.2.2.2⟩ (fun T hT => ?_) b3
            rw [b4 23 0 T (by simp [tml]) (by simp), b4 24 0 T (by simp [tml]) (by simp), b2 23 0 T (by simp) (by simp), b2 24 0 T (by simp) (by simp), put_ne (by simp), put_ne (by simp)]
            exact hB T hT
  have e255 : iand ((2 ^ c - 1 : Nat) : Int) 255 = ((2 ^ c - 1 : Nat) : Int) := by
    have := iand_nat (a := 2 ^ c - 1) (b := 255) (by omega)
    rw [show ((255 : Nat) : Int) = 255 from rfl] at this
    rw [this, show (255 : Nat) = 2 ^ 8 - 1 from rfl, Nat.and_two_pow_sub_one_eq_mod, Nat.mod_eq_of_lt (by omega)]
  refine u_aloadn (k := 0) rfl rfl ?_
  refine i_virt0 (M' := mX6_everyCrossing) (k := 1) rfl lRX8_18 oX6_everyCrossing vX6_everyCrossing ⟨Nat.le_of_ble_eq_true rfl, Nat.le_of_ble_eq_true rfl⟩ rfl rfl (Nat.le_of_ble_eq_true rfl) (x_every j c h hR.1 hR.2.1) ?_
  refine a_sipush (k := 2) rfl ?_
  refine a_iand (k := 3) rfl ?_
  rw [e255]
  refine a_istoren (k := 4) (lv' := [(3, _), (0, _), (1, _), (2, _)]) rfl (Nat.le_of_ble_eq_true rfl) rfl ?_
  refine u_aloadn (k := 5) rfl rfl ?_
  refine a_getr (k := 6) rfl fRX8_9 rfl rfl rfl ?_
  refine a_iconst (k := 7) rfl ?_
  refine uv_stat2 (M' := mJ7_fill_53178) (k := 8) rfl lRX8_24 oJ7_fill_53178 vJ7_fill_53178 ⟨Nat.le_of_ble_eq_true rfl, Nat.le_of_ble_eq_true rfl⟩ rfl (Nat.le_of_ble_eq_true rfl) (j_fill 23 256 (-1) h rfl rfl (by omega) 0) (by intro r g hp; exact hp.1) (fun g1 hg1 => ?_)
  obtain ⟨-, b1, b2⟩ := hg1
  refine u_aloadn (k := 9) rfl rfl ?_
  refine a_getr (k := 10) rfl fRX8_9 rfl rfl rfl ?_
  refine u_iloadn (k := 11) rfl rfl ?_
  refine a_iconst (k := 12) rfl ?_
  refine u_iast (k := 13) rfl rfl rfl (by omega) ?_
  refine u_aloadn (k := 14) rfl rfl ?_
  refine a_getr (k := 15) rfl fRX8_15 rfl rfl rfl ?_
  refine u_iloadn (k := 16) rfl rfl ?_
  refine a_iconst (k := 17) rfl ?_
  refine u_iast (k := 18) rfl rfl rfl (by omega) ?_
  refine u_aloadn (k := 19) rfl rfl ?_
  refine a_iconst (k := 20) rfl ?_
  refine a_puti (k := 21) rfl pRX8_30 rfl rfl ?_
  refine u_aloadn (k := 22) rfl rfl ?_
  refine u_aloadn (k := 23) rfl rfl ?_
  refine a_geti (k := 24) rfl fRX8_34 rfl rfl ?_
  simp only [put_apply, Nat.reduceEqDiff, reduceIte, false_and, and_false, true_and, and_true, and_self, if_false, if_true, not_false_eq_true, not_true_eq_false, ne_eq]
  rw [b2 5 j 2 (by simp) (by simp), hR.1]
  refine a_puti (k := 25) rfl pRX8_37 rfl rfl ?_
  refine u_aloadn (k := 26) rfl rfl ?_
  refine a_iconst (k := 27) rfl ?_
  refine a_puti (k := 28) rfl pRX8_40 rfl rfl ?_
  refine u_aloadn (k := 29) rfl rfl ?_
  refine a_iconst (k := 30) rfl ?_
  refine a_puti (k := 31) rfl pRX8_43 rfl rfl ?_
  refine u_iloadn (k := 32) rfl rfl ?_
  refine a_istore (k := 33) (lv' := [(4, _), (3, _), (0, _), (1, _), (2, _)]) rfl (Nat.le_of_ble_eq_true rfl) rfl ?_
  refine a_sub [2, 3, 4, 1, 0] rfl ?_
  have e1 : (((2 ^ c - 1 : Nat) : Int)) = ((2 ^ c : Nat) : Int) - 1 := by omega
  refine a_eq (L (2 ^ c) ((ui (fun _ => -1) (2 ^ c - 1) 0, ui (h 24 0) (2 ^ c - 1) (-1)), (0, (c : Int), 0, -1)) _ (Nat.le_refl _) (fun T hT => ?_) (fun T hT => ?_) ⟨by simp only [put_apply, Nat.reduceEqDiff, reduceIte, false_and, and_false, true_and, and_true, and_self, if_false, if_true, not_false_eq_true, not_true_eq_false, ne_eq]; rfl, by simp only [put_apply, Nat.reduceEqDiff, reduceIte, false_and, and_false, true_and, and_true, and_self, if_false, if_true, not_false_eq_true, not_true_eq_false, ne_eq], by simp only [put_apply, Nat.reduceEqDiff, reduceIte, false_and, and_false, true_and, and_true, and_self, if_false, if_true, not_false_eq_true, not_true_eq_false, ne_eq], by simp only [put_apply, Nat.reduceEqDiff, reduceIte, false_and, and_false, true_and, and_true, and_self, if_false, if_true, not_false_eq_true, not_true_eq_false, ne_eq]⟩ (by simp) ?_) rfl (by rw [e1]; rfl) rfl rfl
  · refine ⟨?_, ?_⟩
    · simp only [put_apply, Nat.reduceEqDiff, reduceIte, false_and, and_false, true_and, and_true, and_self, if_false, if_true, not_false_eq_true, not_true_eq_false, ne_eq]
      unfold ui
      by_cases he : T = 2 ^ c - 1
      · simp [he]
      · simp [he]; exact b1 T hT
    · simp only [put_apply, Nat.reduceEqDiff, reduceIte, false_and, and_false, true_and, and_true, and_self, if_false, if_true, not_false_eq_true, not_true_eq_false, ne_eq]
      unfold ui
      by_cases he : T = 2 ^ c - 1
      · simp [he]
      · simp [he]; exact b2 24 0 T (by simp) (by simp)
  · unfold ui
    dsimp only
    split <;> omega
  · exact ((((((b2.mono (by simp [tsh]) (by simp)).p1 (by simp [tsh])).p1 (by simp [tsh])).p1 (by simp [tsh])).p1 (by simp [tsh])).p1 (by simp [tsh])).p1 (by simp [tsh])
end
section
section AWN
variable {M : MD} {P : Option AV → HH → Prop} {lv lv' : LV} {st : List AV} {h : HH} {k pc np tg : Nat}
theorem u_aloadnN {x : Fin 4} (hd : (tb M)[k]? = some (pc, .aload_n x, 1, np, tg)) (hj : lk lv x.val = some vn) (kk : AW M P np lv (vn :: st) h) : AW M P pc lv st h := by
  obtain ⟨j, hj⟩ := lk_at hj
  intro l p e s m args below meth c G A C hl hs hw H locs ls hP hD hS hv
  obtain ⟨d1, rfl, d3, d4⟩ := ok_at C.2.2.2.2.2.2.2.2.1 hd
  refine lv_aload_nN C.1 C.2.1 d1 rfl (lv_get hv hj) ?_
  exact kk l p e s m args below meth c G A C hl (rg_k (lv_rgj hl hj) hs) hw H locs ls hP hD hS hv
theorem u_aloadN {x : Nat} (hd : (tb M)[k]? = some (pc, .aload x, 2, np, tg)) (hj : lk lv x = some vn) (kk : AW M P np lv (vn :: st) h) : AW M P pc lv st h := by
  obtain ⟨j, hj⟩ := lk_at hj
  intro l p e s m args below meth c G A C hl hs hw H locs ls hP hD hS hv
  obtain ⟨d1, rfl, d3, d4⟩ := ok_at C.2.2.2.2.2.2.2.2.1 hd
  refine lv_aloadN C.1 C.2.1 d1 (lv_get hv hj) ?_
  exact kk l p e s m args below meth c G A C hl (rg_k (lv_rgj hl hj) hs) hw H locs ls hP hD hS hv
theorem a_astorenN {x : Fin 4} (hd : (tb M)[k]? = some (pc, .astore_n x, 1, np, tg)) (hn : x.val < M.2.2.1) (hl' : s1 lv x.val vn = lv') (kk : AW M P np lv' st h) : AW M P pc lv (vn :: st) h := by
  intro l p e s m args below meth c G A C hl hs hw H locs ls hP hD hS hv
  obtain ⟨d1, rfl, d3, d4⟩ := ok_at C.2.2.2.2.2.2.2.2.1 hd
  obtain ⟨r1, hs⟩ := rg_c hs
  subst hl'
  refine lv_astore_nN C.1 C.2.1 d1 rfl hv hn (s1_cv G.2.2 lv x.val vn) fun ls' hv' => ?_
  exact kk l p e s m args below meth c G A C (s1_rg r1 hl) hs hw H locs ls' hP hD hS hv'
theorem a_astoreNl {x : Nat} (hd : (tb M)[k]? = some (pc, .astore x, 2, np, tg)) (hn : x < M.2.2.1) (hl' : s1 lv x vn = lv') (kk : AW M P np lv' st h) : AW M P pc lv (vn :: st) h := by
  intro l p e s m args below meth c G A C hl hs hw H locs ls hP hD hS hv
  obtain ⟨d1, rfl, d3, d4⟩ := ok_at C.2.2.2.2.2.2.2.2.1 hd
  obtain ⟨r1, hs⟩ := rg_c hs
  subst hl'
  refine lv_astoreN C.1 C.2.1 d1 hv hn (s1_cv G.2.2 lv x vn) fun ls' hv' => ?_
  exact kk l p e s m args below meth c G A C (s1_rg r1 hl) hs hw H locs ls' hP hD hS hv'
end AWN
end
section
/-! sums over a tray's ropes -/
def sumT (n : Nat) (F : Nat → Nat) : Nat := match n with
  | 0 => 0
  | k + 1 => sumT k F + F k
theorem x_crossingsOfAll (t n : Nat) (C : Nat → Nat) (h : HH) (hn : h 3 t 1 = (n : Int)) (h5 : n ≤ 5) (hC : ∀ k, k < n → h 5 (5 * t + k) 2 = (C k : Int)) (hC8 : ∀ k, k < n → C k ≤ 8) : SpI mX9_crossingsOfAll [vr 3 t] h (sumT n C) h := by
  refine Sp.of rfl kX9_crossingsOfAll (Nat.le_of_ble_eq_true rfl) ?_
  have hb : ∀ k, k ≤ n → sumT k C ≤ 8 * k := by
    intro k
    induction k with
    | zero => intro _; exact Nat.le_refl 0
    | succ k ih => intro hk; have := ih (by omega); have := hC8 k (by omega); unfold sumT; omega
  have L : ∀ (m k : Nat), k + m = n → AW mX9_crossingsOfAll (fun r g => r = some (vi (sumT n C)) ∧ g = h) 4 [(0, vr 3 t), (1, vi (sumT k C)), (2, vi k)] [] h := by
    intro m
    induction m with
    | zero =>
      intro k hk
      have hk : k = n := by omega
      subst hk
      refine u_iloadn (k := 4) rfl rfl ?_
      refine u_aloadn (k := 5) rfl rfl ?_
      refine a_geti (k := 6) rfl fRX9_20 rfl rfl ?_
      refine a_icmp_ge (k := 7) rfl (fun c_9 => ?_) (fun c_9 => ?_)
      · refine u_iloadn (k := 21) rfl rfl ?_
        refine a_ireturn (k := 22) rfl rfl ?_
        exact ⟨rfl, rfl⟩
      · omega
    | succ m ih =>
      intro k hk
      have hc := hC k (by omega)
      have hc8 := hC8 k (by omega)
      have hbk := hb k (by omega)
      refine u_iloadn (k := 4) rfl rfl ?_
      refine u_aloadn (k := 5) rfl rfl ?_
      refine a_geti (k := 6) rfl fRX9_20 rfl rfl ?_
      refine a_icmp_ge (k := 7) rfl (fun c_9 => ?_) (fun c_9 => ?_)
      · omega
      · refine u_iloadn (k := 8) rfl rfl ?_
        refine a_iconst (k := 9) rfl ?_
        refine a_icmp_ge (k := 10) rfl (fun c_14 => ?_) (fun c_14 => ?_)
        · omega
        · refine u_iloadn (k := 11) rfl rfl ?_
          refine u_aloadn (k := 12) rfl rfl ?_
          refine a_getr (k := 13) rfl fRX9_11 rfl rfl rfl ?_
          refine u_iloadn (k := 14) rfl rfl ?_
          refine u_aald (k := 15) rfl rfl rfl (by decide) (by omega) rfl ?_
          refine a_geti (k := 16) rfl fRX9_31 rfl rfl ?_
          rw [hc]
          refine u_iadd (k := 17) rfl (by omega) ?_
          refine a_istoren (k := 18) (lv' := [(1, _), (0, _), (2, _)]) rfl (Nat.le_of_ble_eq_true rfl) rfl ?_
          refine u_iinc (k := 19) (lv' := [(2, _), (1, _), (0, _)]) rfl rfl (Nat.le_of_ble_eq_true rfl) (by omega) rfl ?_
          refine a_goto (k := 20) rfl ?_
          refine a_sub [2, 1, 0] rfl ?_
          exact ih (k + 1) (by omega)
  refine a_iconst (k := 0) rfl ?_
  refine a_istoren (k := 1) (lv' := [(1, _), (0, _)]) rfl (Nat.le_of_ble_eq_true rfl) rfl ?_
  refine a_iconst (k := 2) rfl ?_
  refine a_istoren (k := 3) (lv' := [(2, _), (1, _), (0, _)]) rfl (Nat.le_of_ble_eq_true rfl) rfl ?_
  refine a_sub [2, 1, 0] rfl ?_
  exact L n 0 (by omega)
theorem x_saltedOfAll (t n : Nat) (C : Nat → Nat) (h : HH) (hn : h 3 t 1 = (n : Int)) (h5 : n ≤ 5) (hC : ∀ k, k < n → h 5 (5 * t + k) 3 = (C k : Int)) (hC8 : ∀ k, k < n → C k < 256) : SpI mX9_saltedOfAll [vr 3 t] h (sumT n (fun k => pc_ (C k))) h := by
  refine Sp.of rfl kX9_saltedOfAll (Nat.le_of_ble_eq_true rfl) ?_
  have hb : ∀ k, k ≤ n → sumT k (fun k => pc_ (C k)) ≤ 32 * k := by
    intro k
    induction k with
    | zero => intro _; exact Nat.le_refl 0
    | succ k ih => intro hk; have := ih (by omega); have : pc_ (C k) ≤ 32 := pct_le _ _; unfold sumT; omega
  have L : ∀ (m k : Nat), k + m = n → AW mX9_saltedOfAll (fun r g => r = some (vi (sumT n (fun k => pc_ (C k)))) ∧ g = h) 4 [(0, vr 3 t), (1, vi (sumT k (fun k => pc_ (C k)))), (2, vi k)] [] h := by
    intro m
    induction m with
    | zero =>
      intro k hk
      have hk : k = n := by omega
      subst hk
      refine u_iloadn (k := 4) rfl rfl ?_
      refine u_aloadn (k := 5) rfl rfl ?_
      refine a_geti (k := 6) rfl fRX9_20 rfl rfl ?_
      refine a_icmp_ge (k := 7) rfl (fun c_9 => ?_) (fun c_9 => ?_)
      · refine u_iloadn (k := 22) rfl rfl ?_
        refine a_ireturn (k := 23) rfl rfl ?_
        exact ⟨rfl, rfl⟩
      · omega
    | succ m ih =>
      intro k hk
      have hc := hC k (by omega)
      have hc8 := hC8 k (by omega)
      have hbk := hb k (by omega)
      have hp32 : pc_ (C k) ≤ 32 := pct_le _ _
      refine u_iloadn (k := 4) rfl rfl ?_
      refine u_aloadn (k := 5) rfl rfl ?_
      refine a_geti (k := 6) rfl fRX9_20 rfl rfl ?_
      refine a_icmp_ge (k := 7) rfl (fun c_9 => ?_) (fun c_9 => ?_)
      · omega
      · refine u_iloadn (k := 8) rfl rfl ?_
        refine a_iconst (k := 9) rfl ?_
        refine a_icmp_ge (k := 10) rfl (fun c_14 => ?_) (fun c_14 => ?_)
        · omega
        · refine u_iloadn (k := 11) rfl rfl ?_
          refine u_aloadn (k := 12) rfl rfl ?_
          refine a_getr (k := 13) rfl fRX9_11 rfl rfl rfl ?_
          refine u_iloadn (k := 14) rfl rfl ?_
          refine u_aald (k := 15) rfl rfl rfl (by decide) (by omega) rfl ?_
          refine a_geti (k := 16) rfl fRX9_34 rfl rfl ?_
          rw [hc]
          refine i_stat1 (M' := mJ6_bitCount_0f7a4) (k := 17) rfl lRX9_37 oJ6_bitCount_0f7a4 vJ6_bitCount_0f7a4 ⟨Nat.le_of_ble_eq_true rfl, Nat.le_of_ble_eq_true rfl⟩ rfl (Nat.le_of_ble_eq_true rfl) (j_bitCount (C k) h (by omega)) ?_
          refine u_iadd (k := 18) rfl (by omega) ?_
          refine a_istoren (k := 19) (lv' := [(1, _), (0, _), (2, _)]) rfl (Nat.le_of_ble_eq_true rfl) rfl ?_
          refine u_iinc (k := 20) (lv' := [(2, _), (1, _), (0, _)]) rfl rfl (Nat.le_of_ble_eq_true rfl) (by omega) rfl ?_
          refine a_goto (k := 21) rfl ?_
          refine a_sub [2, 1, 0] rfl ?_
          exact ih (k + 1) (by omega)
  refine a_iconst (k := 0) rfl ?_
  refine a_istoren (k := 1) (lv' := [(1, _), (0, _)]) rfl (Nat.le_of_ble_eq_true rfl) rfl ?_
  refine a_iconst (k := 2) rfl ?_
  refine a_istoren (k := 3) (lv' := [(2, _), (1, _), (0, _)]) rfl (Nat.le_of_ble_eq_true rfl) rfl ?_
  refine a_sub [2, 1, 0] rfl ?_
  exact L n 0 (by omega)
/-- the set of those k below n with p -/
def setT (p : Nat → Bool) : Nat → Nat
  | 0 => 0
  | k + 1 => if p k then setT p k ||| 2 ^ k else setT p k
theorem setT_lt (p : Nat → Bool) : ∀ n, setT p n < 2 ^ n
  | 0 => by unfold setT; omega
  | n + 1 => by
    have := setT_lt p n
    have h2 : 2 ^ n < 2 ^ (n + 1) := Nat.pow_lt_pow_right (by omega) (by omega)
    unfold setT
    split
    · exact Nat.or_lt_two_pow (by omega) h2
    · omega
theorem x_plainOnes (t n : Nat) (C : Nat → Nat) (h : HH) (hn : h 3 t 1 = (n : Int)) (h5 : n ≤ 5) (hC : ∀ k, k < n → h 5 (5 * t + k) 2 = (C k : Int)) : SpI mX9_plainOnes [vr 3 t] h (setT (fun k => decide (C k = 0)) n) h := by
  refine Sp.of rfl kX9_plainOnes (Nat.le_of_ble_eq_true rfl) ?_
  have L : ∀ (m k : Nat), k + m = n → AW mX9_plainOnes (fun r g => r = some (vi (setT (fun k => decide (C k = 0)) n)) ∧ g = h) 4 [(0, vr 3 t), (1, vi (setT (fun k => decide (C k = 0)) k)), (2, vi k)] [] h := by
    intro m
    induction m with
    | zero =>
      intro k hk
      have hk : k = n := by omega
      subst hk
      refine u_iloadn (k := 4) rfl rfl ?_
      refine u_aloadn (k := 5) rfl rfl ?_
      refine a_geti (k := 6) rfl fRX9_20 rfl rfl ?_
      refine a_icmp_ge (k := 7) rfl (fun c_9 => ?_) (fun c_9 => ?_)
      · refine u_iloadn (k := 25) rfl rfl ?_
        refine a_ireturn (k := 26) rfl rfl ?_
        exact ⟨rfl, rfl⟩
      · omega
    | succ m ih =>
      intro k hk
      have hc := hC k (by omega)
      have hb := setT_lt (fun k => decide (C k = 0)) k
      have hk2 : 2 ^ k ≤ 2 ^ 5 := Nat.pow_le_pow_right (by omega) (by omega)
      have hk3 : 2 ^ k < 2 ^ 31 := by omega
      refine u_iloadn (k := 4) rfl rfl ?_
      refine u_aloadn (k := 5) rfl rfl ?_
      refine a_geti (k := 6) rfl fRX9_20 rfl rfl ?_
      refine a_icmp_ge (k := 7) rfl (fun c_9 => ?_) (fun c_9 => ?_)
      · omega
      · refine u_iloadn (k := 8) rfl rfl ?_
        refine a_iconst (k := 9) rfl ?_
        refine a_icmp_ge (k := 10) rfl (fun c_14 => ?_) (fun c_14 => ?_)
        · omega
        · refine u_aloadn (k := 11) rfl rfl ?_
          refine a_getr (k := 12) rfl fRX9_11 rfl rfl rfl ?_
          refine u_iloadn (k := 13) rfl rfl ?_
          refine u_aald (k := 14) rfl rfl rfl (by decide) (by omega) rfl ?_
          refine a_geti (k := 15) rfl fRX9_31 rfl rfl ?_
          rw [hc]
          refine a_if_ne (k := 16) rfl (fun c_26 => ?_) (fun c_26 => ?_)
          · have es : setT (fun k => decide (C k = 0)) (k + 1) = setT (fun k => decide (C k = 0)) k := by unfold setT; rw [if_neg (by simp; omega)]; cases k <;> rfl
            refine u_iinc (k := 23) (lv' := [(2, _), (0, _), (1, _)]) rfl rfl (Nat.le_of_ble_eq_true rfl) (by omega) rfl ?_
            refine a_goto (k := 24) rfl ?_
            refine a_sub [1, 2, 0] rfl ?_
            have := ih (k + 1) (by omega); rw [es] at this; exact this
          · have es : setT (fun k => decide (C k = 0)) (k + 1) = setT (fun k => decide (C k = 0)) k ||| 2 ^ k := by unfold setT; rw [if_pos (by simp; omega)]; cases k <;> rfl
            refine u_iloadn (k := 17) rfl rfl ?_
            refine a_iconst (k := 18) rfl ?_
            refine u_iloadn (k := 19) rfl rfl ?_
            refine a_ishl (k := 20) rfl ?_
            refine a_ior (k := 21) rfl ?_
            rw [shl1 (by omega), ior_nat (by omega) hk3]
            refine a_istoren (k := 22) (lv' := [(1, _), (0, _), (2, _)]) rfl (Nat.le_of_ble_eq_true rfl) rfl ?_
            refine u_iinc (k := 23) (lv' := [(2, _), (1, _), (0, _)]) rfl rfl (Nat.le_of_ble_eq_true rfl) (by omega) rfl ?_
            refine a_goto (k := 24) rfl ?_
            refine a_sub [2, 1, 0] rfl ?_
            have := ih (k + 1) (by omega); rw [es] at this; exact this
  refine a_iconst (k := 0) rfl ?_
  refine a_istoren (k := 1) (lv' := [(1, _), (0, _)]) rfl (Nat.le_of_ble_eq_true rfl) rfl ?_
  refine a_iconst (k := 2) rfl ?_
  refine a_istoren (k := 3) (lv' := [(2, _), (1, _), (0, _)]) rfl (Nat.le_of_ble_eq_true rfl) rfl ?_
  refine a_sub [2, 1, 0] rfl ?_
  exact L n 0 (by omega)
/-- Book.firstWrong: the first entry that is otherwise -/
def fwr (p : Nat → Bool) : Nat → Nat → Int
  | 0, _ => -1
  | m + 1, i => if p i then (i : Int) else fwr p m (i + 1)
theorem x_firstWrong (t n : Nat) (p : Nat → Bool) (h : HH) (hn : h 14 0 2 = (n : Int)) (h15 : n ≤ 15) (hk5 : h 3 t 1 ≤ 5) (hp : ∀ i, i < n → (p i = true ↔ ¬ (0 ≤ h 15 0 i ∧ h 15 0 i < h 3 t 1 ∧ h 5 (5 * t + (h 15 0 i).toNat) 2 = h 16 0 i))) : SpI mX0_firstWrong [vr 14 0, vr 3 t] h (fwr p n 0) h := by
  refine Sp.of rfl kX0_firstWrong (Nat.le_of_ble_eq_true rfl) ?_
  have L : ∀ (m i : Nat), i + m = n → AW mX0_firstWrong (fun r g => r = some (vi (fwr p m i)) ∧ g = h) 2 [(0, vr 14 0), (1, vr 3 t), (2, vi i)] [] h := by
    intro m
    induction m with
    | zero =>
      intro i hi
      refine u_iloadn (k := 2) rfl rfl ?_
      refine u_aloadn (k := 3) rfl rfl ?_
      refine a_geti (k := 4) rfl fRX0_18 rfl rfl ?_
      refine a_icmp_ge (k := 5) rfl (fun c_7 => ?_) (fun c_7 => ?_)
      · refine a_iconst (k := 29) rfl ?_
        refine a_ireturn (k := 30) rfl rfl ?_
        exact ⟨rfl, rfl⟩
      · omega
    | succ m ih =>
      intro i hi
      have hpi := hp i (by omega)
      have e1 : fwr p (m + 1) i = if p i then (i : Int) else fwr p m (i + 1) := rfl
      by_cases hin : 0 ≤ h 15 0 i ∧ h 15 0 i < h 3 t 1
      · obtain ⟨k, hk⟩ : ∃ k : Nat, h 15 0 i = (k : Int) := ⟨(h 15 0 i).toNat, by omega⟩
        rw [hk, Int.toNat_natCast] at hpi
        refine u_iloadn (k := 2) rfl rfl ?_
        refine u_aloadn (k := 3) rfl rfl ?_
        refine a_geti (k := 4) rfl fRX0_18 rfl rfl ?_
        refine a_icmp_ge (k := 5) rfl (fun c_7 => ?_) (fun c_7 => ?_)
        · omega
        · refine u_iloadn (k := 6) rfl rfl ?_
          refine a_bipush (k := 7) rfl ?_
          refine a_icmp_ge (k := 8) rfl (fun c_13 => ?_) (fun c_13 => ?_)
          · omega
          · refine u_aloadn (k := 9) rfl rfl ?_
            refine u_aloadn (k := 10) rfl rfl ?_
            refine a_getr (k := 11) rfl fRX0_9 rfl rfl rfl ?_
            refine u_iloadn (k := 12) rfl rfl ?_
            refine u_iald (k := 13) rfl rfl rfl (by omega) ?_
            rw [hk]
            refine r_virt1 (M' := mX9_ropeOf) (k := 14) rfl lRX0_22 oX9_ropeOf vX9_ropeOf ⟨Nat.le_of_ble_eq_true rfl, Nat.le_of_ble_eq_true rfl⟩ rfl rfl (Nat.le_of_ble_eq_true rfl) (x_ropeOf t k h (by omega) (by omega)) ?_
            refine a_astoren (k := 15) (lv' := [(3, _), (0, _), (1, _), (2, _)]) rfl (Nat.le_of_ble_eq_true rfl) rfl ?_
            refine u_aloadn (k := 16) rfl rfl ?_
            refine a_nullR (k := 17) rfl ?_
            refine u_aloadn (k := 18) rfl rfl ?_
            refine a_geti (k := 19) rfl fRX0_28 rfl rfl ?_
            refine u_aloadn (k := 20) rfl rfl ?_
            refine a_getr (k := 21) rfl fRX0_15 rfl rfl rfl ?_
            refine u_iloadn (k := 22) rfl rfl ?_
            refine u_iald (k := 23) rfl rfl rfl (by omega) ?_
            refine a_icmp_eq (k := 24) rfl (fun c_41 => ?_) (fun c_41 => ?_)
            · have hpf : ¬ p i = true := by rw [hpi]; omega
              refine u_iinc (k := 27) (lv' := [(2, _), (3, _), (0, _), (1, _)]) rfl rfl (Nat.le_of_ble_eq_true rfl) (by omega) rfl ?_
              refine a_goto (k := 28) rfl ?_
              refine a_sub [2, 3, 0] rfl ?_
              rw [e1, if_neg hpf]; exact ih (i + 1) (by omega)
            · have hpf : p i = true := by rw [hpi]; omega
              refine u_iloadn (k := 25) rfl rfl ?_
              refine a_ireturn (k := 26) rfl rfl ?_
              exact ⟨by rw [e1, if_pos hpf], rfl⟩
      · have hpf : p i = true := by rw [hpi]; omega
        refine u_iloadn (k := 2) rfl rfl ?_
        refine u_aloadn (k := 3) rfl rfl ?_
        refine a_geti (k := 4) rfl fRX0_18 rfl rfl ?_
        refine a_icmp_ge (k := 5) rfl (fun c_7 => ?_) (fun c_7 => ?_)
        · omega
        · refine u_iloadn (k := 6) rfl rfl ?_
          refine a_bipush (k := 7) rfl ?_
          refine a_icmp_ge (k := 8) rfl (fun c_13 => ?_) (fun c_13 => ?_)
          · omega
          · refine u_aloadn (k := 9) rfl rfl ?_
            refine u_aloadn (k := 10) rfl rfl ?_
            refine a_getr (k := 11) rfl fRX0_9 rfl rfl rfl ?_
            refine u_iloadn (k := 12) rfl rfl ?_
            refine u_iald (k := 13) rfl rfl rfl (by omega) ?_
            refine r_virt1 (M' := mX9_ropeOf) (k := 14) rfl lRX0_22 oX9_ropeOf vX9_ropeOf ⟨Nat.le_of_ble_eq_true rfl, Nat.le_of_ble_eq_true rfl⟩ rfl rfl (Nat.le_of_ble_eq_true rfl) (x_ropeNo t (h 15 0 i) h (by omega)) ?_
            refine a_astorenN (k := 15) (lv' := [(3, _), (0, _), (1, _), (2, _)]) rfl (Nat.le_of_ble_eq_true rfl) rfl ?_
            refine u_aloadnN (k := 16) rfl rfl ?_
            refine a_nullN (k := 17) rfl ?_
            refine u_iloadn (k := 25) rfl rfl ?_
            refine a_ireturn (k := 26) rfl rfl ?_
            exact ⟨by rw [e1, if_pos hpf], rfl⟩
  refine a_iconst (k := 0) rfl ?_
  refine a_istoren (k := 1) (lv' := [(2, _), (0, _), (1, _)]) rfl (Nat.le_of_ble_eq_true rfl) rfl ?_
  refine a_sub [1, 2, 0] rfl ?_
  exact L n 0 (by omega)
end
section
/-! Rounds -/
def ps (n : Nat) (b : Bool) (q : Nat) : Nat → Nat
  | 0 => q
  | i + 1 => if b then (if ps n b q i = 0 then n - 1 else ps n b q i - 1) else (if ps n b q i + 1 = n then 0 else ps n b q i + 1)
theorem ps_s (n : Nat) (b : Bool) (q i : Nat) : ps n b q (i + 1) = if b then (if ps n b q i = 0 then n - 1 else ps n b q i - 1) else (if ps n b q i + 1 = n then 0 else ps n b q i + 1) := rfl
theorem ps_lt {n : Nat} {b : Bool} {q : Nat} (hq : q < n) : ∀ i, ps n b q i < n
  | 0 => hq
  | i + 1 => by
    have := ps_lt (b := b) hq i
    unfold ps
    split <;> split <;> omega
def gq (f : Nat → Nat) (n : Nat) (b : Bool) (q i : Nat) : Nat := f (ps n b q i)
def ga (f : Nat → Nat) (n : Nat) (b : Bool) (q fl i : Nat) : Nat := 2 * cr (gq f n b q) i + (gq f n b q i % 2 ^^^ fl)
theorem xor01 : ∀ a, a < 2 → ∀ b, b < 2 → a ^^^ b < 2 := by decide
def trn : List (Nat × Nat) := [(1, 0), (2, 0), (32, 0)]
theorem x_goAlong (j c s q fl : Nat) (b : Bool) (f : Nat → Nat) (h : HH) (hR : RP j c f s h) (hq : q < 2 * c) (hfl : fl < 2) :
    Sp mX7_goAlong [vr 31 0, vr 5 j, vi q, vi (b01 b), vi fl] h (fun r g => r = none ∧ (∀ i, i < 2 * c → g 32 0 i = (ga f (2 * c) b q fl i : Int)) ∧ Fr trn [] h g) := by
  refine Sp.of rfl kX7_goAlong (Nat.le_of_ble_eq_true rfl) ?_
  have L : ∀ (m n : Nat) (g : HH), n + m = 2 * c → NM 0 (gq f (2 * c) b q) n g → (∀ i, i < n → g 32 0 i = (ga f (2 * c) b q fl i : Int)) → Fr trn [] h g → AW mX7_goAlong (fun r g => r = none ∧ (∀ i, i < 2 * c → g 32 0 i = (ga f (2 * c) b q fl i : Int)) ∧ Fr trn [] h g) 19 [(0, vr 31 0), (1, vr 5 j), (3, vi (b01 b)), (4, vi fl), (5, vi ((2 * c : Nat) : Int)), (6, vi (ps (2 * c) b q n)), (7, vi n)] [] g := by
    intro m
    induction m with
    | zero =>
      intro n g hn hN hp hF
      have hn : n = 2 * c := by omega
      subst hn
      refine u_iload (k := 10) rfl rfl ?_
      refine u_iload (k := 11) rfl rfl ?_
      refine a_icmp_ge (k := 12) rfl (fun c_23 => ?_) (fun c_23 => ?_)
      · refine a_return (k := 60) rfl rfl ?_
        exact ⟨rfl, hp, hF⟩
      · omega
    | succ m ih =>
      intro n g hn hN hp hF
      have hR' : RP j c f s g := hR.fr hF (by simp [trn]) (by simp [trn]) (by simp) (by simp)
      obtain ⟨r1, r2, r3, r4, r5, r6⟩ := hR'
      have hps := ps_lt (b := b) hq n
      have hfn := r6 _ hps
      have e8 : f (ps (2 * c) b q n) / 2 % 8 = gq f (2 * c) b q n / 2 := by unfold gq; omega
      have epa : (if (0 : Int) ≤ (ps (2 * c) b q n : Int) ∧ (ps (2 * c) b q n : Int) < 2 * (c : Int) then g 6 j (ps (2 * c) b q n : Int).toNat else -1) = (f (ps (2 * c) b q n) : Int) := by
        rw [if_pos (by omega), Int.toNat_natCast, r5 _ hps]
      have hcr := cr_lt (f := gq f (2 * c) b q) n
      have hx2 := xor01 (f (ps (2 * c) b q n) % 2) (by omega) fl hfl
      have nxt : ∀ (g2 : HH) (p2 : Int), NM 0 (gq f (2 * c) b q) (n + 1) g2 → g2 32 0 n = (ga f (2 * c) b q fl n : Int) → (∀ i, i < n → g2 32 0 i = g 32 0 i) → Fr trn [] h g2 → p2 = (ps (2 * c) b q (n + 1) : Int) → AW mX7_goAlong (fun r g => r = none ∧ (∀ i, i < 2 * c → g 32 0 i = (ga f (2 * c) b q fl i : Int)) ∧ Fr trn [] h g) 107 [(0, vr 31 0), (1, vr 5 j), (3, vi (b01 b)), (4, vi fl), (5, vi ((2 * c : Nat) : Int)), (6, vi p2), (7, vi n)] [] g2 := by
        intro g2 p2 hN2 hn2 hk2 hF2 hp2
        subst hp2
        refine u_iinc (k := 58) (lv' := [(7, _), (0, _), (1, _), (3, _), (4, _), (5, _), (6, _)]) rfl rfl (Nat.le_of_ble_eq_true rfl) (by omega) rfl ?_
        refine a_goto (k := 59) rfl ?_
        refine a_sub [1, 2, 3, 4, 5, 6, 0] rfl ?_
        exact ih (n + 1) g2 (by omega) hN2 (fun i hi => by by_cases he : i = n; (subst he; exact hn2); (rw [hk2 i (by omega)]; exact hp i (by omega))) hF2
      refine u_iload (k := 10) rfl rfl ?_
      refine u_iload (k := 11) rfl rfl ?_
      refine a_icmp_ge (k := 12) rfl (fun c_23 => ?_) (fun c_23 => ?_)
      · omega
      · refine u_aloadn (k := 13) rfl rfl ?_
        refine u_iload (k := 14) rfl rfl ?_
        refine i_virt1 (M' := mX6_passAt) (k := 15) rfl lRX7_58 oX6_passAt vX6_passAt ⟨Nat.le_of_ble_eq_true rfl, Nat.le_of_ble_eq_true rfl⟩ rfl rfl (Nat.le_of_ble_eq_true rfl) (x_passAt j c _ g r1 r2) ?_
        rw [epa]
        refine a_istore (k := 16) (lv' := [(8, _), (0, _), (1, _), (3, _), (4, _), (5, _), (6, _), (7, _)]) rfl (Nat.le_of_ble_eq_true rfl) rfl ?_
        refine u_aloadn (k := 17) rfl rfl ?_
        refine a_getr (k := 18) rfl fRX7_15 rfl rfl rfl ?_
        refine u_iload (k := 19) rfl rfl ?_
        refine a_iconst (k := 20) rfl ?_
        refine u_aloadn (k := 21) rfl rfl ?_
        refine a_getr (k := 22) rfl fRX7_9 rfl rfl rfl ?_
        refine u_iload (k := 23) rfl rfl ?_
        refine i_statN1 (M' := mX10_crossingOf) (k := 24) rfl lRX7_62 oX10_crossingOf vX10_crossingOf ⟨Nat.le_of_ble_eq_true rfl, Nat.le_of_ble_eq_true rfl⟩ rfl (Nat.le_of_ble_eq_true rfl) (x_crossingOf (f (ps (2 * c) b q n)) g (by omega)) ?_
        rw [e8]
        refine ui_virt1 (M' := mX4_numberOf) (k := 25) rfl lRX7_65 oX4_numberOf vX4_numberOf ⟨Nat.le_of_ble_eq_true rfl, Nat.le_of_ble_eq_true rfl⟩ rfl rfl (Nat.le_of_ble_eq_true rfl) (x_numberOf 0 (gq f (2 * c) b q) n g hN (by unfold gq; omega) (by omega)) (by intro r g hp; exact ⟨_, hp.1⟩) (fun r g1 hg1 => ?_)
        obtain ⟨e1, hN1, hF1⟩ := hg1; cases e1
        refine u_imul (k := 26) rfl (by omega) ?_
        refine u_iload (k := 27) rfl rfl ?_
        refine a_iconst (k := 28) rfl ?_
        refine a_iand (k := 29) rfl ?_
        rw [iand1 (by omega)]
        refine u_iload (k := 30) rfl rfl ?_
        refine a_ixor (k := 31) rfl ?_
        rw [ixor_nat (by omega) (by omega)]
        refine u_iadd (k := 32) rfl (by omega) ?_
        refine u_iast (k := 33) rfl rfl rfl (by omega) ?_
        refine u_iloadn (k := 34) rfl rfl ?_
        refine a_if_eq (k := 35) rfl (fun c_64 => ?_) (fun c_64 => ?_)
        · have hb : b = false := by cases b <;> simp_all [b01]
          refine u_iload (k := 47) rfl rfl ?_
          refine a_iconst (k := 48) rfl ?_
          refine u_iadd (k := 49) rfl (by omega) ?_
          refine u_iload (k := 50) rfl rfl ?_
          refine a_icmp_ne (k := 51) rfl (fun c_94 => ?_) (fun c_94 => ?_)
          · refine u_iload (k := 54) rfl rfl ?_
            refine a_iconst (k := 55) rfl ?_
            refine u_iadd (k := 56) rfl (by omega) ?_
            refine a_istore (k := 57) (lv' := [(6, _), (8, _), (0, _), (1, _), (3, _), (4, _), (5, _), (7, _)]) rfl (Nat.le_of_ble_eq_true rfl) rfl ?_
            refine a_sub [2, 3, 4, 5, 6, 0, 7] rfl ?_
            refine nxt _ _ (hN1.keep (fun k => by simp only [put_apply, Nat.reduceEqDiff, reduceIte, false_and, and_false, true_and, and_true, and_self, if_false, if_true, not_false_eq_true, not_true_eq_false, ne_eq]) (fun k => by simp only [put_apply, Nat.reduceEqDiff, reduceIte, false_and, and_false, true_and, and_true, and_self, if_false, if_true, not_false_eq_true, not_true_eq_false, ne_eq])) (by rw [put_eq, ga]; unfold gq; push_cast; rfl) (fun i hi => by rw [put_ne (by simp; omega), hF1 32 0 i (by simp) (by simp)]) ((hF.tr hF1 (by simp [trn]) (by simp)).p1 (by simp [trn])) ?_
            rw [ps_s]
            first | (rw [if_pos hb]; split <;> omega) | (rw [if_neg (by rw [hb]; decide)]; split <;> omega)
          · refine a_iconst (k := 52) rfl ?_
            refine a_goto (k := 53) rfl ?_
            refine a_istore (k := 57) (lv' := [(6, _), (8, _), (0, _), (1, _), (3, _), (4, _), (5, _), (7, _)]) rfl (Nat.le_of_ble_eq_true rfl) rfl ?_
            refine a_sub [2, 3, 4, 5, 6, 0, 7] rfl ?_
            refine nxt _ _ (hN1.keep (fun k => by simp only [put_apply, Nat.reduceEqDiff, reduceIte, false_and, and_false, true_and, and_true, and_self, if_false, if_true, not_false_eq_true, not_true_eq_false, ne_eq]) (fun k => by simp only [put_apply, Nat.reduceEqDiff, reduceIte, false_and, and_false, true_and, and_true, and_self, if_false, if_true, not_false_eq_true, not_true_eq_false, ne_eq])) (by rw [put_eq, ga]; unfold gq; push_cast; rfl) (fun i hi => by rw [put_ne (by simp; omega), hF1 32 0 i (by simp) (by simp)]) ((hF.tr hF1 (by simp [trn]) (by simp)).p1 (by simp [trn])) ?_
            rw [ps_s]
            first | (rw [if_pos hb]; split <;> omega) | (rw [if_neg (by rw [hb]; decide)]; split <;> omega)
        · have hb : b = true := by cases b <;> simp_all [b01]
          refine u_iload (k := 36) rfl rfl ?_
          refine a_if_ne (k := 37) rfl (fun c_69 => ?_) (fun c_69 => ?_)
          · refine u_iload (k := 42) rfl rfl ?_
            refine a_iconst (k := 43) rfl ?_
            refine u_isub (k := 44) rfl (by omega) ?_
            refine a_istore (k := 45) (lv' := [(6, _), (8, _), (0, _), (1, _), (3, _), (4, _), (5, _), (7, _)]) rfl (Nat.le_of_ble_eq_true rfl) rfl ?_
            refine a_goto (k := 46) rfl ?_
            refine a_sub [2, 3, 4, 5, 6, 0, 7] rfl ?_
            refine nxt _ _ (hN1.keep (fun k => by simp only [put_apply, Nat.reduceEqDiff, reduceIte, false_and, and_false, true_and, and_true, and_self, if_false, if_true, not_false_eq_true, not_true_eq_false, ne_eq]) (fun k => by simp only [put_apply, Nat.reduceEqDiff, reduceIte, false_and, and_false, true_and, and_true, and_self, if_false, if_true, not_false_eq_true, not_true_eq_false, ne_eq])) (by rw [put_eq, ga]; unfold gq; push_cast; rfl) (fun i hi => by rw [put_ne (by simp; omega), hF1 32 0 i (by simp) (by simp)]) ((hF.tr hF1 (by simp [trn]) (by simp)).p1 (by simp [trn])) ?_
            rw [ps_s]
            first | (rw [if_pos hb]; split <;> omega) | (rw [if_neg (by rw [hb]; decide)]; split <;> omega)
          · refine u_iload (k := 38) rfl rfl ?_
            refine a_iconst (k := 39) rfl ?_
            refine u_isub (k := 40) rfl (by omega) ?_
            refine a_goto (k := 41) rfl ?_
            refine a_istore (k := 45) (lv' := [(6, _), (8, _), (0, _), (1, _), (3, _), (4, _), (5, _), (7, _)]) rfl (Nat.le_of_ble_eq_true rfl) rfl ?_
            refine a_goto (k := 46) rfl ?_
            refine a_sub [2, 3, 4, 5, 6, 0, 7] rfl ?_
            refine nxt _ _ (hN1.keep (fun k => by simp only [put_apply, Nat.reduceEqDiff, reduceIte, false_and, and_false, true_and, and_true, and_self, if_false, if_true, not_false_eq_true, not_true_eq_false, ne_eq]) (fun k => by simp only [put_apply, Nat.reduceEqDiff, reduceIte, false_and, and_false, true_and, and_true, and_self, if_false, if_true, not_false_eq_true, not_true_eq_false, ne_eq])) (by rw [put_eq, ga]; unfold gq; push_cast; rfl) (fun i hi => by rw [put_ne (by simp; omega), hF1 32 0 i (by simp) (by simp)]) ((hF.tr hF1 (by simp [trn]) (by simp)).p1 (by simp [trn])) ?_
            rw [ps_s]
            first | (rw [if_pos hb]; split <;> omega) | (rw [if_neg (by rw [hb]; decide)]; split <;> omega)
  refine u_aloadn (k := 0) rfl rfl ?_
  refine i_virt0 (M' := mX6_length) (k := 1) rfl lRX7_32 oX6_length vX6_length ⟨Nat.le_of_ble_eq_true rfl, Nat.le_of_ble_eq_true rfl⟩ rfl rfl (Nat.le_of_ble_eq_true rfl) (x_length j c h hR.1 hR.2.1) ?_
  refine a_istore (k := 2) (lv' := [(5, _), (0, _), (1, _), (2, _), (3, _), (4, _)]) rfl (Nat.le_of_ble_eq_true rfl) rfl ?_
  refine u_iloadn (k := 3) rfl rfl ?_
  refine a_istore (k := 4) (lv' := [(6, _), (5, _), (0, _), (1, _), (2, _), (3, _), (4, _)]) rfl (Nat.le_of_ble_eq_true rfl) rfl ?_
  refine u_aloadn (k := 5) rfl rfl ?_
  refine a_getr (k := 6) rfl fRX7_9 rfl rfl rfl ?_
  refine v_virt0 (M' := mX4_begin) (k := 7) rfl lRX7_53 oX4_begin vX4_begin ⟨Nat.le_of_ble_eq_true rfl, Nat.le_of_ble_eq_true rfl⟩ rfl rfl (Nat.le_of_ble_eq_true rfl) (x_begin 0 h) ?_
  refine a_iconst (k := 8) rfl ?_
  refine a_istore (k := 9) (lv' := [(7, _), (6, _), (5, _), (0, _), (1, _), (2, _), (3, _), (4, _)]) rfl (Nat.le_of_ble_eq_true rfl) rfl ?_
  refine a_sub [3, 4, 6, 7, 2, 1, 0] rfl ?_
  exact L (2 * c) 0 _ (by omega) (NM.zero (by simp only [put_apply, Nat.reduceEqDiff, reduceIte, false_and, and_false, true_and, and_true, and_self, if_false, if_true, not_false_eq_true, not_true_eq_false, ne_eq]) (by simp only [put_apply, Nat.reduceEqDiff, reduceIte, false_and, and_false, true_and, and_true, and_self, if_false, if_true, not_false_eq_true, not_true_eq_false, ne_eq])) (fun i hi => absurd hi (Nat.not_lt_zero i)) ((Fr.rf.p1 (by simp [trn])).p1 (by simp [trn]))
/-- number by number -/
def cmpL (A B : Nat → Int) : Nat → Nat → Int
  | 0, _ => 0
  | m + 1, i => if A i = B i then cmpL A B m (i + 1) else if A i < B i then -1 else 1
theorem x_compare (t i n : Nat) (A B : Nat → Int) (h : HH) (ho : ko t = none) (hk : ka t = some (0, 16)) (hn : n ≤ 16) (hA : ∀ q, q < n → h 32 0 q = A q) (hB : ∀ q, q < n → h t i q = B q) : SpI mX7_compare [vr 32 0, vr t i, vi n] h (cmpL A B n 0) h := by
  refine Sp.of rfl kX7_compare (Nat.le_of_ble_eq_true rfl) ?_
  have L : ∀ (m q : Nat), q + m = n → AW mX7_compare (fun r g => r = some (vi (cmpL A B n 0)) ∧ g = h) 2 [(0, vr 32 0), (1, vr t i), (2, vi n), (3, vi q)] [] h → True := fun _ _ _ _ => trivial
  have L : ∀ (m q : Nat), q + m = n → cmpL A B n 0 = cmpL A B m q → AW mX7_compare (fun r g => r = some (vi (cmpL A B n 0)) ∧ g = h) 2 [(0, vr 32 0), (1, vr t i), (2, vi n), (3, vi q)] [] h := by
    intro m
    induction m with
    | zero =>
      intro q hq he
      refine u_iloadn (k := 2) rfl rfl ?_
      refine u_iloadn (k := 3) rfl rfl ?_
      refine a_icmp_ge (k := 4) rfl (fun c_4 => ?_) (fun c_4 => ?_)
      · refine a_iconst (k := 33) rfl ?_
        refine a_ireturn (k := 34) rfl rfl ?_
        exact ⟨by rw [he]; rfl, rfl⟩
      · omega
    | succ m ih =>
      intro q hq he
      have e1 : cmpL A B (m + 1) q = if A q = B q then cmpL A B m (q + 1) else if A q < B q then -1 else 1 := rfl
      have ha := hA q (by omega)
      have hb := hB q (by omega)
      rw [e1] at he
      refine u_iloadn (k := 2) rfl rfl ?_
      refine u_iloadn (k := 3) rfl rfl ?_
      refine a_icmp_ge (k := 4) rfl (fun c_4 => ?_) (fun c_4 => ?_)
      · omega
      refine u_iloadn (k := 5) rfl rfl ?_
      refine u_aloadn (k := 6) rfl rfl ?_
      refine a_alen (k := 7) rfl rfl rfl (by decide) (by decide) ?_
      refine a_icmp_ge (k := 8) rfl (fun c_10 => ?_) (fun c_10 => ?_)
      · omega
      refine u_iloadn (k := 9) rfl rfl ?_
      refine u_aloadn (k := 10) rfl rfl ?_
      refine a_alen (k := 11) rfl ho hk (by decide) (by decide) ?_
      refine a_icmp_ge (k := 12) rfl (fun c_16 => ?_) (fun c_16 => ?_)
      · omega
      refine u_aloadn (k := 13) rfl rfl ?_
      refine u_iloadn (k := 14) rfl rfl ?_
      refine u_iald (k := 15) rfl rfl rfl (by omega) ?_
      refine u_aloadn (k := 16) rfl rfl ?_
      refine u_iloadn (k := 17) rfl rfl ?_
      refine u_iald (k := 18) rfl ho hk (by omega) ?_
      rw [ha, hb]
      refine a_icmp_eq (k := 19) rfl (fun c_25 => ?_) (fun c_25 => ?_)
      · rw [if_pos c_25] at he
        refine u_iinc (k := 31) (lv' := [(3, _), (0, _), (1, _), (2, _)]) rfl rfl (Nat.le_of_ble_eq_true rfl) (by omega) rfl ?_
        refine a_goto (k := 32) rfl ?_
        refine a_sub [1, 2, 3, 0] rfl ?_
        exact ih (q + 1) (by omega) he
      · rw [if_neg c_25] at he
        refine u_aloadn (k := 20) rfl rfl ?_
        refine u_iloadn (k := 21) rfl rfl ?_
        refine u_iald (k := 22) rfl rfl rfl (by omega) ?_
        refine u_aloadn (k := 23) rfl rfl ?_
        refine u_iloadn (k := 24) rfl rfl ?_
        refine u_iald (k := 25) rfl ho hk (by omega) ?_
        rw [ha, hb]
        refine a_icmp_ge (k := 26) rfl (fun c_34 => ?_) (fun c_34 => ?_)
        · refine a_iconst (k := 29) rfl ?_
          refine a_ireturn (k := 30) rfl rfl ?_
          exact ⟨by rw [he]; congr 2; split <;> omega, rfl⟩
        · refine a_iconst (k := 27) rfl ?_
          refine a_goto (k := 28) rfl ?_
          refine a_ireturn (k := 30) rfl rfl ?_
          exact ⟨by rw [he]; congr 2; split <;> omega, rfl⟩
  refine a_iconst (k := 0) rfl ?_
  refine a_istoren (k := 1) (lv' := [(3, _), (0, _), (1, _), (2, _)]) rfl (Nat.le_of_ble_eq_true rfl) rfl ?_
  refine a_sub [1, 2, 3, 0] rfl ?_
  exact L n 0 (by omega) rfl
/-- does a rolling of f, gone back (b), flipped (fl), come to f2; from q on, m of them -/
def cmT (f f2 : Nat → Nat) (n : Nat) (b : Bool) (fl : Nat) : Nat → Nat → Bool
  | 0, _ => decide (n = 0)
  | m + 1, q => if cmpL (fun i => (ga f n b q fl i : Int)) (fun i => (f2 i : Int)) n 0 = 0 then true else cmT f f2 n b fl m (q + 1)
theorem x_comesTo (j c s j2 fl : Nat) (b : Bool) (f f2 : Nat → Nat) (h : HH) (hR : RP j c f s h) (hf2 : ∀ i, i < 2 * c → h 6 j2 i = (f2 i : Int)) (hfl : fl < 2) :
    Sp mX7_comesTo [vr 31 0, vr 5 j, vr 5 j2, vi (b01 b), vi fl] h (fun r g => r = some (vi (b01 (cmT f f2 (2 * c) b fl (2 * c) 0))) ∧ Fr trn [] h g) := by
  refine Sp.of rfl kX7_comesTo (Nat.le_of_ble_eq_true rfl) ?_
  have L : ∀ (m q : Nat) (g : HH), q + m = 2 * c → Fr trn [] h g → AW mX7_comesTo (fun r g => r = some (vi (b01 (cmT f f2 (2 * c) b fl m q))) ∧ Fr trn [] h g) 9 [(0, vr 31 0), (1, vr 5 j), (2, vr 5 j2), (3, vi (b01 b)), (4, vi fl), (5, vi ((2 * c : Nat) : Int)), (6, vi q)] [] g := by
    intro m
    induction m with
    | zero =>
      intro q g hq hF
      refine u_iload (k := 5) rfl rfl ?_
      refine u_iload (k := 6) rfl rfl ?_
      refine a_icmp_ge (k := 7) rfl (fun c_13 => ?_) (fun c_13 => ?_)
      · refine u_iload (k := 25) rfl rfl ?_
        refine a_if_ne (k := 26) rfl (fun c_52 => ?_) (fun c_52 => ?_)
        · have e9 : b01 (cmT f f2 (2 * c) b fl 0 q) = 0 := by unfold cmT; rw [decide_eq_false (by omega)]; rfl
          refine a_iconst (k := 29) rfl ?_
          refine a_zreturn (k := 30) rfl rfl (by omega) ?_
          exact ⟨by rw [e9], hF⟩
        · have e9 : b01 (cmT f f2 (2 * c) b fl 0 q) = 1 := by unfold cmT; rw [decide_eq_true (by omega)]; rfl
          refine a_iconst (k := 27) rfl ?_
          refine a_goto (k := 28) rfl ?_
          refine a_zreturn (k := 30) rfl rfl (by omega) ?_
          exact ⟨by rw [e9], hF⟩
      · omega
    | succ m ih =>
      intro q g hq hF
      have hR' : RP j c f s g := hR.fr hF (by simp [trn]) (by simp [trn]) (by simp) (by simp)
      have e1 : cmT f f2 (2 * c) b fl (m + 1) q = if cmpL (fun i => (ga f (2 * c) b q fl i : Int)) (fun i => (f2 i : Int)) (2 * c) 0 = 0 then true else cmT f f2 (2 * c) b fl m (q + 1) := rfl
      have h8 := hR.2.1
      refine u_iload (k := 5) rfl rfl ?_
      refine u_iload (k := 6) rfl rfl ?_
      refine a_icmp_ge (k := 7) rfl (fun c_13 => ?_) (fun c_13 => ?_)
      · omega
      · refine u_aloadn (k := 8) rfl rfl ?_
        refine u_aloadn (k := 9) rfl rfl ?_
        refine u_iload (k := 10) rfl rfl ?_
        refine u_iloadn (k := 11) rfl rfl ?_
        refine u_iload (k := 12) rfl rfl ?_
        refine uv_virt4 (M' := mX7_goAlong) (k := 13) rfl lRX7_36 oX7_goAlong vX7_goAlong ⟨Nat.le_of_ble_eq_true rfl, Nat.le_of_ble_eq_true rfl⟩ rfl rfl (Nat.le_of_ble_eq_true rfl) (x_goAlong j c s q fl b f g hR' (by omega) hfl) (by intro r g hp; exact hp.1) (fun g1 hg1 => ?_)
        obtain ⟨-, b1, b2⟩ := hg1
        refine u_aloadn (k := 14) rfl rfl ?_
        refine a_getr (k := 15) rfl fRX7_15 rfl rfl rfl ?_
        refine u_aloadn (k := 16) rfl rfl ?_
        refine a_getr (k := 17) rfl fRX7_50 rfl rfl rfl ?_
        refine u_iload (k := 18) rfl rfl ?_
        refine i_stat3 (M' := mX7_compare) (k := 19) rfl lRX7_40 oX7_compare vX7_compare ⟨Nat.le_of_ble_eq_true rfl, Nat.le_of_ble_eq_true rfl⟩ rfl (Nat.le_of_ble_eq_true rfl) (x_compare 6 j2 (2 * c) _ (fun i => (f2 i : Int)) g1 rfl rfl (by omega) b1 (fun i hi => by rw [b2 6 j2 i (by simp [trn]) (by simp), hF 6 j2 i (by simp [trn]) (by simp)]; exact hf2 i hi)) ?_
        refine a_if_ne (k := 20) rfl (fun c_39 => ?_) (fun c_39 => ?_)
        · refine u_iinc (k := 23) (lv' := [(6, _), (0, _), (1, _), (2, _), (3, _), (4, _), (5, _)]) rfl rfl (Nat.le_of_ble_eq_true rfl) (by omega) rfl ?_
          refine a_goto (k := 24) rfl ?_
          refine a_sub [1, 2, 3, 4, 5, 6, 0] rfl ?_
          rw [e1, if_neg (by assumption)]; exact ih (q + 1) g1 (by omega) (hF.tr b2 (fun q hq => hq) (by simp))
        · refine a_iconst (k := 21) rfl ?_
          refine a_zreturn (k := 22) rfl rfl (by omega) ?_
          exact ⟨by rw [e1, if_pos (by assumption)]; rfl, hF.tr b2 (fun q hq => hq) (by simp)⟩
  refine u_aloadn (k := 0) rfl rfl ?_
  refine i_virt0 (M' := mX6_length) (k := 1) rfl lRX7_32 oX6_length vX6_length ⟨Nat.le_of_ble_eq_true rfl, Nat.le_of_ble_eq_true rfl⟩ rfl rfl (Nat.le_of_ble_eq_true rfl) (x_length j c h hR.1 hR.2.1) ?_
  refine a_istore (k := 2) (lv' := [(5, _), (0, _), (1, _), (2, _), (3, _), (4, _)]) rfl (Nat.le_of_ble_eq_true rfl) rfl ?_
  refine a_iconst (k := 3) rfl ?_
  refine a_istore (k := 4) (lv' := [(6, _), (5, _), (0, _), (1, _), (2, _), (3, _), (4, _)]) rfl (Nat.le_of_ble_eq_true rfl) rfl ?_
  refine a_sub [2, 3, 4, 5, 6, 1, 0] rfl ?_
  exact L (2 * c) 0 h (by omega) Fr.rf
def wys (f f2 : Nat → Nat) (n : Nat) : Nat → Nat
  | 0 => 0
  | w + 1 => if cmT f f2 n (decide (w % 2 = 1)) (w / 2) n 0 then wys f f2 n w ||| 2 ^ w else wys f f2 n w
theorem wys_lt (f f2 : Nat → Nat) (n : Nat) : ∀ w, wys f f2 n w < 2 ^ w
  | 0 => by unfold wys; omega
  | w + 1 => by
    have := wys_lt f f2 n w
    have h2 : 2 ^ w < 2 ^ (w + 1) := Nat.pow_lt_pow_right (by omega) (by omega)
    unfold wys
    split
    · exact Nat.or_lt_two_pow (by omega) h2
    · omega
theorem x_waysInto (j c s j2 : Nat) (f f2 : Nat → Nat) (h : HH) (hR : RP j c f s h) (hc2 : h 5 j2 2 = (c : Int)) (hf2 : ∀ i, i < 2 * c → h 6 j2 i = (f2 i : Int)) :
    Sp mX7_waysInto [vr 31 0, vr 5 j, vr 5 j2] h (fun r g => r = some (vi (wys f f2 (2 * c) 4)) ∧ Fr trn [] h g) := by
  refine Sp.of rfl kX7_waysInto (Nat.le_of_ble_eq_true rfl) ?_
  have L : ∀ (m w : Nat) (g : HH), w + m = 4 → Fr trn [] h g → AW mX7_waysInto (fun r g => r = some (vi (wys f f2 (2 * c) 4)) ∧ Fr trn [] h g) 18 [(0, vr 31 0), (1, vr 5 j), (2, vr 5 j2), (3, vi (wys f f2 (2 * c) w)), (4, vi w)] [] g := by
    intro m
    induction m with
    | zero =>
      intro w g hw hF
      have hw : w = 4 := by omega
      subst hw
      refine u_iload (k := 11) rfl rfl ?_
      refine a_iconst (k := 12) rfl ?_
      refine a_icmp_ge (k := 13) rfl (fun c_21 => ?_) (fun c_21 => ?_)
      · refine u_iloadn (k := 38) rfl rfl ?_
        refine a_ireturn (k := 39) rfl rfl ?_
        exact ⟨rfl, hF⟩
      · omega
    | succ m ih =>
      intro w g hw hF
      have hR' : RP j c f s g := hR.fr hF (by simp [trn]) (by simp [trn]) (by simp) (by simp)
      have hwl := wys_lt f f2 (2 * c) w
      have hw2 : 2 ^ w ≤ 2 ^ 4 := Nat.pow_le_pow_right (by omega) (by omega)
      have hw3 : 2 ^ w < 2 ^ 31 := by omega
      have e1 : wys f f2 (2 * c) (w + 1) = if cmT f f2 (2 * c) (decide (w % 2 = 1)) (w / 2) (2 * c) 0 then wys f f2 (2 * c) w ||| 2 ^ w else wys f f2 (2 * c) w := rfl
      have es : ishr (w : Int) 1 = ((w / 2 : Nat) : Int) := by
        have := ishr_nat (n := w) (k := 1) (by omega) (by omega)
        rw [Nat.shiftRight_eq_div_pow] at this
        exact this
      have body : AW mX7_waysInto (fun r g => r = some (vi (wys f f2 (2 * c) 4)) ∧ Fr trn [] h g) 40 [(0, vr 31 0), (1, vr 5 j), (2, vr 5 j2), (3, vi (wys f f2 (2 * c) w)), (4, vi w)] [vi (b01 (decide (w % 2 = 1))), vr 5 j2, vr 5 j, vr 31 0] g := by
        refine u_iload (k := 25) rfl rfl ?_
        refine a_iconst (k := 26) rfl ?_
        refine a_ishr (k := 27) rfl ?_
        rw [es]
        refine ui_virt4 (M' := mX7_comesTo) (k := 28) rfl lRX7_28 oX7_comesTo vX7_comesTo ⟨Nat.le_of_ble_eq_true rfl, Nat.le_of_ble_eq_true rfl⟩ rfl rfl (Nat.le_of_ble_eq_true rfl) (x_comesTo j c s j2 (w / 2) (decide (w % 2 = 1)) f f2 g hR' (fun i hi => by rw [hF 6 j2 i (by simp [trn]) (by simp)]; exact hf2 i hi) (by omega)) (by intro r g hp; exact ⟨_, hp.1⟩) (fun r g1 hg1 => ?_)
        obtain ⟨e2, b2⟩ := hg1; cases e2
        refine a_if_eq (k := 29) rfl (fun c_47 => ?_) (fun c_47 => ?_)
        · have hc : ¬ cmT f f2 (2 * c) (decide (w % 2 = 1)) (w / 2) (2 * c) 0 = true := fun z => by rw [z] at c_47; cases c_47
          rw [if_neg hc] at e1
          refine u_iinc (k := 36) (lv' := [(4, _), (0, _), (1, _), (2, _), (3, _)]) rfl rfl (Nat.le_of_ble_eq_true rfl) (by omega) rfl ?_
          refine a_goto (k := 37) rfl ?_
          refine a_sub [1, 2, 3, 4, 0] rfl ?_
          rw [← e1]; exact ih (w + 1) g1 (by omega) (hF.tr b2 (fun q hq => hq) (by simp))
        · have hc : cmT f f2 (2 * c) (decide (w % 2 = 1)) (w / 2) (2 * c) 0 = true := by
            cases hz : cmT f f2 (2 * c) (decide (w % 2 = 1)) (w / 2) (2 * c) 0 with
            | true => rfl
            | false => rw [hz] at c_47; exact absurd rfl c_47
          rw [if_pos hc] at e1
          refine u_iloadn (k := 30) rfl rfl ?_
          refine a_iconst (k := 31) rfl ?_
          refine u_iload (k := 32) rfl rfl ?_
          refine a_ishl (k := 33) rfl ?_
          refine a_ior (k := 34) rfl ?_
          rw [shl1 (by omega), ior_nat (by omega) hw3]
          refine a_istoren (k := 35) (lv' := [(3, _), (0, _), (1, _), (2, _), (4, _)]) rfl (Nat.le_of_ble_eq_true rfl) rfl ?_
          refine u_iinc (k := 36) (lv' := [(4, _), (3, _), (0, _), (1, _), (2, _)]) rfl rfl (Nat.le_of_ble_eq_true rfl) (by omega) rfl ?_
          refine a_goto (k := 37) rfl ?_
          refine a_sub [2, 3, 4, 1, 0] rfl ?_
          rw [← e1]; exact ih (w + 1) g1 (by omega) (hF.tr b2 (fun q hq => hq) (by simp))
      refine u_iload (k := 11) rfl rfl ?_
      refine a_iconst (k := 12) rfl ?_
      refine a_icmp_ge (k := 13) rfl (fun c_21 => ?_) (fun c_21 => ?_)
      · omega
      · refine u_aloadn (k := 14) rfl rfl ?_
        refine u_aloadn (k := 15) rfl rfl ?_
        refine u_aloadn (k := 16) rfl rfl ?_
        refine u_iload (k := 17) rfl rfl ?_
        refine a_iconst (k := 18) rfl ?_
        refine a_iand (k := 19) rfl ?_
        rw [iand1 (by omega)]
        refine a_iconst (k := 20) rfl ?_
        refine a_icmp_ne (k := 21) rfl (fun c_32 => ?_) (fun c_32 => ?_)
        · have e9 : (0 : Int) = b01 (decide (w % 2 = 1)) := by rw [decide_eq_false (by omega)]; rfl
          refine a_iconst (k := 24) rfl ?_
          rw [e9]; exact body
        · have e9 : (1 : Int) = b01 (decide (w % 2 = 1)) := by rw [decide_eq_true (by omega)]; rfl
          refine a_iconst (k := 22) rfl ?_
          refine a_goto (k := 23) rfl ?_
          rw [e9]; exact body
  refine u_aloadn (k := 0) rfl rfl ?_
  refine a_geti (k := 1) rfl fRX7_22 rfl rfl ?_
  refine u_aloadn (k := 2) rfl rfl ?_
  refine a_geti (k := 3) rfl fRX7_22 rfl rfl ?_
  refine a_icmp_eq (k := 4) rfl (fun c_8 => ?_) (fun c_8 => ?_)
  · refine a_iconst (k := 7) rfl ?_
    refine a_istoren (k := 8) (lv' := [(3, _), (0, _), (1, _), (2, _)]) rfl (Nat.le_of_ble_eq_true rfl) rfl ?_
    refine a_iconst (k := 9) rfl ?_
    refine a_istore (k := 10) (lv' := [(4, _), (3, _), (0, _), (1, _), (2, _)]) rfl (Nat.le_of_ble_eq_true rfl) rfl ?_
    refine a_sub [2, 3, 4, 1, 0] rfl ?_
    exact L 4 0 h (by omega) Fr.rf
  · exact absurd (hR.1.trans hc2.symm) c_8
theorem x_waysNo (j j2 : Nat) (h : HH) (hne : ¬ h 5 j 2 = h 5 j2 2) : SpI mX7_waysInto [vr 31 0, vr 5 j, vr 5 j2] h 0 h := by
  refine Sp.of rfl kX7_waysInto (Nat.le_of_ble_eq_true rfl) ?_
  refine u_aloadn (k := 0) rfl rfl ?_
  refine a_geti (k := 1) rfl fRX7_22 rfl rfl ?_
  refine u_aloadn (k := 2) rfl rfl ?_
  refine a_geti (k := 3) rfl fRX7_22 rfl rfl ?_
  refine a_icmp_eq (k := 4) rfl (fun c_8 => ?_) (fun c_8 => ?_)
  · exact absurd c_8 hne
  · refine a_iconst (k := 5) rfl ?_
    refine a_ireturn (k := 6) rfl rfl ?_
    exact ⟨rfl, rfl⟩
/-- the least row, n rollings along -/
def lwd (f : Nat → Nat) (n : Nat) : Nat → Nat → Nat
  | 0 => fun _ => 0
  | q + 1 => if q = 0 ∨ cmpL (fun i => (ga f n false q 0 i : Int)) (fun i => (lwd f n q i : Int)) n 0 < 0 then ga f n false q 0 else lwd f n q
theorem x_leastWord (j c s : Nat) (d : Int) (f : Nat → Nat) (h : HH) (hR : RP j c f s h) :
    Sp mX7_leastWordAt [vr 31 0, vr 5 j, vi d] h (fun r g => r = some (vi (if 0 ≤ d ∧ d < 2 * c then (lwd f (2 * c) (2 * c) d.toNat : Int) else -1)) ∧ Fr [(1, 0), (2, 0), (32, 0), (33, 0)] [] h g) := by
  refine Sp.of rfl kX7_leastWordAt (Nat.le_of_ble_eq_true rfl) ?_
  have h8 := hR.2.1
  have L : ∀ (m q : Nat) (g : HH), q + m = 2 * c → (0 < q → ∀ i, i < 2 * c → g 33 0 i = (lwd f (2 * c) q i : Int)) → Fr [(1, 0), (2, 0), (32, 0), (33, 0)] [] h g → AW mX7_leastWordAt (fun r g => r = some (vi (if 0 ≤ d ∧ d < 2 * c then (lwd f (2 * c) (2 * c) d.toNat : Int) else -1)) ∧ Fr [(1, 0), (2, 0), (32, 0), (33, 0)] [] h g) 8 [(0, vr 31 0), (1, vr 5 j), (2, vi d), (3, vi ((2 * c : Nat) : Int)), (4, vi q)] [] g := by
    intro m
    induction m with
    | zero =>
      intro q g hq hl hF
      have hq : q = 2 * c := by omega
      subst hq
      refine u_iload (k := 5) rfl rfl ?_
      refine u_iloadn (k := 6) rfl rfl ?_
      refine a_icmp_ge (k := 7) rfl (fun c_11 => ?_) (fun c_11 => ?_)
      · refine u_iloadn (k := 33) rfl rfl ?_
        refine a_if_lt (k := 34) rfl (fun c_64 => ?_) (fun c_64 => ?_)
        · refine a_iconst (k := 43) rfl ?_
          refine a_ireturn (k := 44) rfl rfl ?_
          exact ⟨by congr 2; split <;> omega, hF⟩
        · refine u_iloadn (k := 35) rfl rfl ?_
          refine u_iloadn (k := 36) rfl rfl ?_
          refine a_icmp_ge (k := 37) rfl (fun c_69 => ?_) (fun c_69 => ?_)
          · refine a_iconst (k := 43) rfl ?_
            refine a_ireturn (k := 44) rfl rfl ?_
            exact ⟨by congr 2; split <;> omega, hF⟩
          · refine u_aloadn (k := 38) rfl rfl ?_
            refine a_getr (k := 39) rfl fRX7_19 rfl rfl rfl ?_
            refine u_iloadn (k := 40) rfl rfl ?_
            refine a_iald (k := 41) rfl rfl rfl (by omega) (by omega) ?_
            rw [hl (by omega) d.toNat (by omega)]
            refine a_goto (k := 42) rfl ?_
            refine a_ireturn (k := 44) rfl rfl ?_
            exact ⟨by congr 2; split <;> omega, hF⟩
      · omega
    | succ m ih =>
      intro q g hq hl hF
      have hR' : RP j c f s g := hR.fr hF (by simp) (by simp) (by simp) (by simp)
      have e1 : lwd f (2 * c) (q + 1) = if q = 0 ∨ cmpL (fun i => (ga f (2 * c) false q 0 i : Int)) (fun i => (lwd f (2 * c) q i : Int)) (2 * c) 0 < 0 then ga f (2 * c) false q 0 else lwd f (2 * c) q := rfl
      have cp : ∀ g1 : HH, (q = 0 ∨ cmpL (fun i => (ga f (2 * c) false q 0 i : Int)) (fun i => (lwd f (2 * c) q i : Int)) (2 * c) 0 < 0) → (∀ i, i < 2 * c → g1 32 0 i = (ga f (2 * c) false q 0 i : Int)) → Fr [(1, 0), (2, 0), (32, 0), (33, 0)] [] h g1 → AW mX7_leastWordAt (fun r g => r = some (vi (if 0 ≤ d ∧ d < 2 * c then (lwd f (2 * c) (2 * c) d.toNat : Int) else -1)) ∧ Fr [(1, 0), (2, 0), (32, 0), (33, 0)] [] h g) 43 [(0, vr 31 0), (1, vr 5 j), (2, vi d), (3, vi ((2 * c : Nat) : Int)), (4, vi q)] [] g1 := by
        intro g1 hc b1 hF1
        refine u_aloadn (k := 23) rfl rfl ?_
        refine a_getr (k := 24) rfl fRX7_15 rfl rfl rfl ?_
        refine a_iconst (k := 25) rfl ?_
        refine u_aloadn (k := 26) rfl rfl ?_
        refine a_getr (k := 27) rfl fRX7_19 rfl rfl rfl ?_
        refine a_iconst (k := 28) rfl ?_
        refine u_iloadn (k := 29) rfl rfl ?_
        refine a_copy (k := 30) (sp := 0) (dp := 0) (n := 2 * c) rfl nt_l7 rfl rfl rfl rfl (by omega) (by omega) (by decide) (by decide) ⟨by decide +kernel, by decide +kernel⟩ ?_
        refine u_iinc (k := 31) (lv' := [(4, _), (0, _), (1, _), (2, _), (3, _)]) rfl rfl (Nat.le_of_ble_eq_true rfl) (by omega) rfl ?_
        refine a_goto (k := 32) rfl ?_
        refine a_sub [1, 2, 3, 4, 0] rfl ?_
        refine ih (q + 1) _ (by omega) (fun _ i hi => ?_) (fun t2 i2 k2 p1 p2 => ?_)
        · rw [e1, if_pos hc]
          unfold cpy
          rw [if_pos ⟨rfl, rfl, by omega, by omega⟩, show 0 + (i - 0) = i by omega]
          exact b1 i hi
        · rw [cpy_oc _ _ _ _ _ _ _ _ _ _ (fun z => p1 (by simp [z.1, z.2]))]
          exact hF1 t2 i2 k2 p1 p2
      refine u_iload (k := 5) rfl rfl ?_
      refine u_iloadn (k := 6) rfl rfl ?_
      refine a_icmp_ge (k := 7) rfl (fun c_11 => ?_) (fun c_11 => ?_)
      · omega
      · refine u_aloadn (k := 8) rfl rfl ?_
        refine u_aloadn (k := 9) rfl rfl ?_
        refine u_iload (k := 10) rfl rfl ?_
        refine a_iconst (k := 11) rfl ?_
        refine a_iconst (k := 12) rfl ?_
        refine uv_virt4 (M' := mX7_goAlong) (k := 13) rfl lRX7_36 oX7_goAlong vX7_goAlong ⟨Nat.le_of_ble_eq_true rfl, Nat.le_of_ble_eq_true rfl⟩ rfl rfl (Nat.le_of_ble_eq_true rfl) (x_goAlong j c s q 0 false f g hR' (by omega) (by omega)) (by intro r g hp; exact hp.1) (fun g1 hg1 => ?_)
        obtain ⟨-, b1, b2⟩ := hg1; have hF1 : Fr [(1, 0), (2, 0), (32, 0), (33, 0)] [] h g1 := hF.tr b2 (by simp [trn]) (by simp)
        refine u_iload (k := 14) rfl rfl ?_
        refine a_if_eq (k := 15) rfl (fun c_25 => ?_) (fun c_25 => ?_)
        · exact cp g1 (by omega) b1 hF1
        · refine u_aloadn (k := 16) rfl rfl ?_
          refine a_getr (k := 17) rfl fRX7_15 rfl rfl rfl ?_
          refine u_aloadn (k := 18) rfl rfl ?_
          refine a_getr (k := 19) rfl fRX7_19 rfl rfl rfl ?_
          refine u_iloadn (k := 20) rfl rfl ?_
          refine i_stat3 (M' := mX7_compare) (k := 21) rfl lRX7_40 oX7_compare vX7_compare ⟨Nat.le_of_ble_eq_true rfl, Nat.le_of_ble_eq_true rfl⟩ rfl (Nat.le_of_ble_eq_true rfl) (x_compare 33 0 (2 * c) _ (fun i => (lwd f (2 * c) q i : Int)) g1 rfl rfl (by omega) b1 (fun i hi => by rw [b2 33 0 i (by simp [trn]) (by simp)]; exact hl (by omega) i hi)) ?_
          refine a_if_ge (k := 22) rfl (fun c_40 => ?_) (fun c_40 => ?_)
          · refine u_iinc (k := 31) (lv' := [(4, _), (0, _), (1, _), (2, _), (3, _)]) rfl rfl (Nat.le_of_ble_eq_true rfl) (by omega) rfl ?_
            refine a_goto (k := 32) rfl ?_
            refine a_sub [1, 2, 3, 4, 0] rfl ?_
            refine ih (q + 1) g1 (by omega) (fun _ i hi => ?_) hF1
            rw [e1, if_neg (by omega), b2 33 0 i (by simp [trn]) (by simp)]
            exact hl (by omega) i hi
          · exact cp g1 (by omega) b1 hF1
  refine u_aloadn (k := 0) rfl rfl ?_
  refine i_virt0 (M' := mX6_length) (k := 1) rfl lRX7_32 oX6_length vX6_length ⟨Nat.le_of_ble_eq_true rfl, Nat.le_of_ble_eq_true rfl⟩ rfl rfl (Nat.le_of_ble_eq_true rfl) (x_length j c h hR.1 hR.2.1) ?_
  refine a_istoren (k := 2) (lv' := [(3, _), (0, _), (1, _), (2, _)]) rfl (Nat.le_of_ble_eq_true rfl) rfl ?_
  refine a_iconst (k := 3) rfl ?_
  refine a_istore (k := 4) (lv' := [(4, _), (3, _), (0, _), (1, _), (2, _)]) rfl (Nat.le_of_ble_eq_true rfl) rfl ?_
  refine a_sub [2, 3, 4, 1, 0] rfl ?_
  exact L (2 * c) 0 h (by omega) (fun z => absurd z (Nat.not_lt_zero 0)) Fr.rf
end
section
/-! Colours: rows of numbers, solved by m -/
abbrev MT : Type := Nat → Nat → Nat
def MX (c : Nat) (A : MT) (g : HH) : Prop := ∀ r k, r < c → k < 8 → g 27 r k = (A r k : Int)
def um (A : MT) (r k v : Nat) : MT := fun r' k' => if r' = r ∧ k' = k then v else A r' k'
theorem MX.put {c : Nat} {A : MT} {g : HH} {r k v : Nat} {w : Int} (h : MX c A g) (hw : w = (v : Int)) : MX c (um A r k v) (put g 27 r k w) := by
  intro r' k' h1 h2
  unfold um
  by_cases he : r' = r ∧ k' = k
  · rw [he.1, he.2, put_eq, if_pos ⟨rfl, rfl⟩, hw]
  · rw [put_ne (fun z => he ⟨z.2.1, z.2.2⟩), if_neg he]
    exact h r' k' h1 h2
theorem MX.keep {c : Nat} {A : MT} {g g' : HH} (h : MX c A g) (hk : ∀ r k, g' 27 r k = g 27 r k) : MX c A g' := fun r k h1 h2 => by rw [hk]; exact h r k h1 h2
theorem MX.cong {c : Nat} {A B : MT} {g : HH} (h : MX c A g) (hk : ∀ r k, r < c → k < 8 → A r k = B r k) : MX c B g := fun r k h1 h2 => by rw [← hk r k h1 h2]; exact h r k h1 h2
def t27 : List (Nat × Nat) := [(27, 0), (27, 1), (27, 2), (27, 3), (27, 4), (27, 5), (27, 6), (27, 7)]
theorem t27_in {r : Nat} (h : r < 8) : (27, r) ∈ t27 := by
  unfold t27
  rcases (show r = 0 ∨ r = 1 ∨ r = 2 ∨ r = 3 ∨ r = 4 ∨ r = 5 ∨ r = 6 ∨ r = 7 by omega) with rfl | rfl | rfl | rfl | rfl | rfl | rfl | rfl <;> simp
theorem t27_no {t i : Nat} (h : t ≠ 27) : (t, i) ∉ t27 := by
  unfold t27
  simp [h]
def exch (P : Nat) (A : MT) (a b n : Nat) : MT := fun r k => if k < n then (if r = a then A b k else if r = b then A a k else A r k) else A r k
theorem x_exchange (P c a b : Nat) (A : MT) (h : HH) (hP : h 25 0 4 = (P : Int)) (hP8 : P ≤ 8) (hA : MX c A h) (hc8 : c ≤ 8) (ha : a < c) (hb : b < c) :
    Sp mX1_exchangeRows [vr 25 0, vi a, vi b] h (fun r g => r = none ∧ MX c (exch P A a b P) g ∧ Fr t27 [] h g) := by
  refine Sp.of rfl kX1_exchangeRows (Nat.le_of_ble_eq_true rfl) ?_
  have L : ∀ (m n : Nat) (g : HH), n + m = P → MX c (exch P A a b n) g → Fr t27 [] h g → AW mX1_exchangeRows (fun r g => r = none ∧ MX c (exch P A a b P) g ∧ Fr t27 [] h g) 2 [(0, vr 25 0), (1, vi a), (2, vi b), (3, vi n)] [] g := by
    intro m
    induction m with
    | zero =>
      intro n g hn hM hF
      have hn : n = P := by omega
      subst hn
      have hP' : g 25 0 4 = (n : Int) := (hF 25 0 4 (t27_no (by omega)) (by simp)).trans hP
      refine u_iloadn (k := 2) rfl rfl ?_
      refine u_aloadn (k := 3) rfl rfl ?_
      refine a_geti (k := 4) rfl fRX1_34 rfl rfl ?_
      refine a_icmp_ge (k := 5) rfl (fun c_7 => ?_) (fun c_7 => ?_)
      · refine a_return (k := 34) rfl rfl ?_
        exact ⟨rfl, hM, hF⟩
      · omega
    | succ m ih =>
      intro n g hn hM hF
      have hP' : g 25 0 4 = (P : Int) := (hF 25 0 4 (t27_no (by omega)) (by simp)).trans hP
      have e1 : g 27 a n = (A a n : Int) := by rw [hM a n ha (by omega)]; simp [exch]
      have e2 : g 27 b n = (A b n : Int) := by rw [hM b n hb (by omega)]; simp [exch]
      refine u_iloadn (k := 2) rfl rfl ?_
      refine u_aloadn (k := 3) rfl rfl ?_
      refine a_geti (k := 4) rfl fRX1_34 rfl rfl ?_
      refine a_icmp_ge (k := 5) rfl (fun c_7 => ?_) (fun c_7 => ?_)
      · omega
      · refine u_aloadn (k := 6) rfl rfl ?_
        refine a_getr (k := 7) rfl fRX1_11 rfl rfl rfl ?_
        refine u_iloadn (k := 8) rfl rfl ?_
        refine u_aald (k := 9) rfl rfl rfl (by decide) (by omega) rfl ?_
        refine u_iloadn (k := 10) rfl rfl ?_
        refine u_iald (k := 11) rfl rfl rfl (by omega) ?_
        rw [e1]
        refine a_istore (k := 12) (lv' := [(4, _), (0, _), (1, _), (2, _), (3, _)]) rfl (Nat.le_of_ble_eq_true rfl) rfl ?_
        refine u_aloadn (k := 13) rfl rfl ?_
        refine a_getr (k := 14) rfl fRX1_11 rfl rfl rfl ?_
        refine u_iloadn (k := 15) rfl rfl ?_
        refine u_aald (k := 16) rfl rfl rfl (by decide) (by omega) rfl ?_
        refine u_iloadn (k := 17) rfl rfl ?_
        refine u_aloadn (k := 18) rfl rfl ?_
        refine a_getr (k := 19) rfl fRX1_11 rfl rfl rfl ?_
        refine u_iloadn (k := 20) rfl rfl ?_
        refine u_aald (k := 21) rfl rfl rfl (by decide) (by omega) rfl ?_
        refine u_iloadn (k := 22) rfl rfl ?_
        refine u_iald (k := 23) rfl rfl rfl (by omega) ?_
        rw [e2]
        refine u_iast (k := 24) rfl rfl rfl (by omega) ?_
        refine u_aloadn (k := 25) rfl rfl ?_
        refine a_getr (k := 26) rfl fRX1_11 rfl rfl rfl ?_
        refine u_iloadn (k := 27) rfl rfl ?_
        refine u_aald (k := 28) rfl rfl rfl (by decide) (by omega) rfl ?_
        refine u_iloadn (k := 29) rfl rfl ?_
        refine u_iload (k := 30) rfl rfl ?_
        refine u_iast (k := 31) rfl rfl rfl (by omega) ?_
        refine u_iinc (k := 32) (lv' := [(3, _), (4, _), (0, _), (1, _), (2, _)]) rfl rfl (Nat.le_of_ble_eq_true rfl) (by omega) rfl ?_
        refine a_goto (k := 33) rfl ?_
        refine a_sub [2, 3, 4, 0] rfl ?_
        refine ih (n + 1) _ (by omega) (((hM.put rfl).put rfl).cong (fun r k h1 h2 => ?_)) ((hF.p1 (t27_in (by omega))).p1 (t27_in (by omega)))
        unfold um exch
        by_cases hk : k = n
        · subst hk
          by_cases hra : r = a
          · subst hra
            by_cases hrb : r = b
            · subst hrb; simp
            · simp [hrb]
          · by_cases hrb : r = b
            · subst hrb; simp [hra]
            · simp [hra, hrb]
        · by_cases hlt : k < n
          · simp [hk, hlt, show k < n + 1 by omega]
          · simp [hk, hlt, show ¬ k < n + 1 by omega]
  refine a_iconst (k := 0) rfl ?_
  refine a_istoren (k := 1) (lv' := [(3, _), (0, _), (1, _), (2, _)]) rfl (Nat.le_of_ble_eq_true rfl) rfl ?_
  refine a_sub [1, 2, 3, 0] rfl ?_
  exact L P 0 h (by omega) (hA.cong (fun r k _ _ => by simp [exch])) Fr.rf
/-- the first row from r on, of m rows, with something at k -/
def rwt (A : MT) (k : Nat) : Nat → Nat → Option Nat
  | 0, _ => none
  | m + 1, r => if A r k = 0 then rwt A k m (r + 1) else some r
def oi (o : Option Nat) : Int := match o with
  | some r => (r : Int)
  | none => -1
theorem rwt_some {A : MT} {k : Nat} : ∀ {m r q : Nat}, rwt A k m r = some q → r ≤ q ∧ q < r + m ∧ A q k ≠ 0 ∧ ∀ i, r ≤ i → i < q → A i k = 0
  | 0, r, q, h => by cases h
  | m + 1, r, q, h => by
    unfold rwt at h
    split at h
    · rename_i h0
      obtain ⟨h1, h2, h3, h4⟩ := rwt_some h
      refine ⟨by omega, by omega, h3, fun i hi hq => ?_⟩
      by_cases he : i = r
      · subst he; exact h0
      · exact h4 i (by omega) hq
    · rename_i h0
      cases h
      exact ⟨Nat.le_refl _, by omega, h0, fun i h1 h2 => by omega⟩
theorem rwt_none {A : MT} {k : Nat} : ∀ {m r : Nat}, rwt A k m r = none → ∀ i, r ≤ i → i < r + m → A i k = 0
  | 0, r, _, i, h1, h2 => by omega
  | m + 1, r, h, i, h1, h2 => by
    unfold rwt at h
    split at h
    · rename_i h0
      by_cases he : i = r
      · subst he; exact h0
      · exact rwt_none h i (by omega) (by omega)
    · cases h
theorem x_rowWith (k c rk : Nat) (A : MT) (h : HH) (hr : h 25 0 5 = (rk : Int)) (hA : MX c A h) (hc : c ≤ 8) (hk : k < 8) (hrc : rk ≤ c) : SpI mX1_rowWith [vr 25 0, vi k, vi c] h (oi (rwt A k (c - rk) rk)) h := by
  refine Sp.of rfl kX1_rowWith (Nat.le_of_ble_eq_true rfl) ?_
  have L : ∀ (m r : Nat), r + m = c → rk ≤ r → AW mX1_rowWith (fun z g => z = some (vi (oi (rwt A k m r))) ∧ g = h) 5 [(0, vr 25 0), (1, vi k), (2, vi c), (3, vi r)] [] h := by
    intro m
    induction m with
    | zero =>
      intro r hrm hr2
      refine u_iloadn (k := 3) rfl rfl ?_
      refine u_iloadn (k := 4) rfl rfl ?_
      refine a_icmp_ge (k := 5) rfl (fun c_7 => ?_) (fun c_7 => ?_)
      · refine a_iconst (k := 17) rfl ?_
        refine a_ireturn (k := 18) rfl rfl ?_
        exact ⟨rfl, rfl⟩
      · omega
    | succ m ih =>
      intro r hrm hr2
      have e1 : rwt A k (m + 1) r = if A r k = 0 then rwt A k m (r + 1) else some r := rfl
      refine u_iloadn (k := 3) rfl rfl ?_
      refine u_iloadn (k := 4) rfl rfl ?_
      refine a_icmp_ge (k := 5) rfl (fun c_7 => ?_) (fun c_7 => ?_)
      · omega
      · refine u_aloadn (k := 6) rfl rfl ?_
        refine a_getr (k := 7) rfl fRX1_11 rfl rfl rfl ?_
        refine u_iloadn (k := 8) rfl rfl ?_
        refine u_aald (k := 9) rfl rfl rfl (by decide) (by omega) rfl ?_
        refine u_iloadn (k := 10) rfl rfl ?_
        refine u_iald (k := 11) rfl rfl rfl (by omega) ?_
        rw [hA r k (by omega) hk]
        refine a_if_eq (k := 12) rfl (fun c_18 => ?_) (fun c_18 => ?_)
        · refine u_iinc (k := 15) (lv' := [(3, _), (0, _), (1, _), (2, _)]) rfl rfl (Nat.le_of_ble_eq_true rfl) (by omega) rfl ?_
          refine a_goto (k := 16) rfl ?_
          refine a_sub [1, 2, 3, 0] rfl ?_
          rw [e1, if_pos (by omega)]; exact ih (r + 1) (by omega) (by omega)
        · refine u_iloadn (k := 13) rfl rfl ?_
          refine a_ireturn (k := 14) rfl rfl ?_
          exact ⟨by rw [e1, if_neg (by omega)]; rfl, rfl⟩
  refine u_aloadn (k := 0) rfl rfl ?_
  refine a_geti (k := 1) rfl fRX1_30 rfl rfl ?_
  rw [hr]
  refine a_istoren (k := 2) (lv' := [(3, _), (0, _), (1, _), (2, _)]) rfl (Nat.le_of_ble_eq_true rfl) rfl ?_
  refine a_sub [1, 2, 3, 0] rfl ?_
  exact L (c - rk) rk (by omega) (Nat.le_refl _)
/-- what makes a 1 of v by m -/
def fct (v m : Nat) : Nat → Nat → Nat
  | 0, q => q
  | n + 1, q => if v * q % m = 1 then q else fct v m n (q + 1)
theorem fct_le (v m : Nat) : ∀ n q, fct v m n q ≤ q + n
  | 0, q => Nat.le_refl _
  | n + 1, q => by
    unfold fct
    split
    · omega
    · have := fct_le v m n (q + 1); omega
def scl (A : MT) (r q m n : Nat) : MT := fun r' k => if r' = r ∧ k < n then A r' k * q % m else A r' k
theorem x_scaleRow (P c r k m : Nat) (A : MT) (h : HH) (hP : h 25 0 4 = (P : Int)) (hP8 : P ≤ 8) (hA : MX c A h) (hc8 : c ≤ 8) (hr : r < c) (hk : k < P) (hm : 2 ≤ m) (hm5 : m ≤ 5) (hlt : ∀ r k, r < c → k < 8 → A r k < m) :
    Sp mX1_scaleRow [vr 25 0, vi r, vi k, vi m] h (fun z g => z = none ∧ MX c (scl A r (fct (A r k) m (m - 1) 1) m P) g ∧ Fr t27 [] h g) := by
  refine Sp.of rfl kX1_scaleRow (Nat.le_of_ble_eq_true rfl) ?_
  have hq5 := fct_le (A r k) m (m - 1) 1
  have L2 : ∀ (d n : Nat) (g : HH), n + d = P → MX c (scl A r (fct (A r k) m (m - 1) 1) m n) g → Fr t27 [] h g → AW mX1_scaleRow (fun z g => z = none ∧ MX c (scl A r (fct (A r k) m (m - 1) 1) m P) g ∧ Fr t27 [] h g) 37 [(0, vr 25 0), (1, vi r), (3, vi m), (4, vi (fct (A r k) m (m - 1) 1)), (5, vi n)] [] g := by
    intro d
    generalize fct (A r k) m (m - 1) 1 = q at hq5
    induction d with
    | zero =>
      intro n g hn hM hF
      have hn : n = P := by omega
      subst hn
      have hP' : g 25 0 4 = (n : Int) := (hF 25 0 4 (t27_no (by omega)) (by simp)).trans hP
      refine u_iload (k := 21) rfl rfl ?_
      refine u_aloadn (k := 22) rfl rfl ?_
      refine a_geti (k := 23) rfl fRX1_34 rfl rfl ?_
      refine a_icmp_ge (k := 24) rfl (fun c_43 => ?_) (fun c_43 => ?_)
      · refine a_return (k := 43) rfl rfl ?_
        exact ⟨rfl, hM, hF⟩
      · omega
    | succ d ih =>
      intro n g hn hM hF
      have hP' : g 25 0 4 = (P : Int) := (hF 25 0 4 (t27_no (by omega)) (by simp)).trans hP
      have e1 : g 27 r n = (A r n : Int) := by rw [hM r n hr (by omega)]; simp [scl]
      have hl := hlt r n hr (by omega)
      have hmul : A r n * q ≤ 5 * 5 := Nat.mul_le_mul (by omega) (by omega)
      have e2 : (A r n : Int) * (q : Int) = ((A r n * q : Nat) : Int) := by push_cast; rfl
      refine u_iload (k := 21) rfl rfl ?_
      refine u_aloadn (k := 22) rfl rfl ?_
      refine a_geti (k := 23) rfl fRX1_34 rfl rfl ?_
      refine a_icmp_ge (k := 24) rfl (fun c_43 => ?_) (fun c_43 => ?_)
      · omega
      · refine u_aloadn (k := 25) rfl rfl ?_
        refine a_getr (k := 26) rfl fRX1_11 rfl rfl rfl ?_
        refine u_iloadn (k := 27) rfl rfl ?_
        refine u_aald (k := 28) rfl rfl rfl (by decide) (by omega) rfl ?_
        refine u_iload (k := 29) rfl rfl ?_
        refine u_aloadn (k := 30) rfl rfl ?_
        refine a_getr (k := 31) rfl fRX1_11 rfl rfl rfl ?_
        refine u_iloadn (k := 32) rfl rfl ?_
        refine u_aald (k := 33) rfl rfl rfl (by decide) (by omega) rfl ?_
        refine u_iload (k := 34) rfl rfl ?_
        refine u_iald (k := 35) rfl rfl rfl (by omega) ?_
        refine u_iload (k := 36) rfl rfl ?_
        rw [e1]
        refine u_imul (k := 37) rfl (by rw [e2]; omega) ?_
        refine u_iloadn (k := 38) rfl rfl ?_
        rw [e2]
        refine i_statN2 (M' := mX10_leftOver) (k := 39) rfl lRX1_37 oX10_leftOver vX10_leftOver ⟨Nat.le_of_ble_eq_true rfl, Nat.le_of_ble_eq_true rfl⟩ rfl (Nat.le_of_ble_eq_true rfl) (x_leftOver (A r n * q) m g (by omega)) ?_
        refine u_iast (k := 40) rfl rfl rfl (by omega) ?_
        refine u_iinc (k := 41) (lv' := [(5, _), (0, _), (1, _), (3, _), (4, _)]) rfl rfl (Nat.le_of_ble_eq_true rfl) (by omega) rfl ?_
        refine a_goto (k := 42) rfl ?_
        refine a_sub [1, 2, 3, 4, 0] rfl ?_
        refine ih (n + 1) _ (by omega) ((hM.put rfl).cong (fun r' k' h1 h2 => ?_)) (hF.p1 (t27_in (by omega)))
        unfold um scl
        by_cases hrr : r' = r
        · subst hrr
          by_cases hk : k' = n
          · subst hk; simp
          · by_cases hlt : k' < n
            · simp [hk, hlt, show k' < n + 1 by omega]
            · simp [hk, hlt, show ¬ k' < n + 1 by omega]
        · simp [hrr]
  have hkk := hA r k hr (by omega)
  have hl := hlt r k hr (by omega)
  have L1 : ∀ (d q : Nat), q + d = m → fct (A r k) m (m - 1) 1 = fct (A r k) m d q → AW mX1_scaleRow (fun z g => z = none ∧ MX c (scl A r (fct (A r k) m (m - 1) 1) m P) g ∧ Fr t27 [] h g) 3 [(0, vr 25 0), (1, vi r), (2, vi k), (3, vi m), (4, vi q)] [] h := by
    intro d
    induction d with
    | zero =>
      intro q hq he
      refine u_iload (k := 2) rfl rfl ?_
      refine u_iloadn (k := 3) rfl rfl ?_
      refine a_icmp_ge (k := 4) rfl (fun c_6 => ?_) (fun c_6 => ?_)
      · refine a_iconst (k := 19) rfl ?_
        refine a_istore (k := 20) (lv' := [(5, _), (0, _), (1, _), (2, _), (3, _), (4, _)]) rfl (Nat.le_of_ble_eq_true rfl) rfl ?_
        refine a_sub [1, 2, 4, 5, 0] rfl ?_
        have := L2 P 0 h (by omega) (hA.cong (fun r' k' _ _ => by simp [scl])) Fr.rf; rw [he] at this ⊢; exact this
      · omega
    | succ d ih =>
      intro q hq he
      have e1 : fct (A r k) m (d + 1) q = if A r k * q % m = 1 then q else fct (A r k) m d (q + 1) := rfl
      have hmul : A r k * q ≤ 5 * 5 := Nat.mul_le_mul (by omega) (by omega)
      have e2 : (A r k : Int) * (q : Int) = ((A r k * q : Nat) : Int) := by push_cast; rfl
      refine u_iload (k := 2) rfl rfl ?_
      refine u_iloadn (k := 3) rfl rfl ?_
      refine a_icmp_ge (k := 4) rfl (fun c_6 => ?_) (fun c_6 => ?_)
      · omega
      · refine u_aloadn (k := 5) rfl rfl ?_
        refine a_getr (k := 6) rfl fRX1_11 rfl rfl rfl ?_
        refine u_iloadn (k := 7) rfl rfl ?_
        refine u_aald (k := 8) rfl rfl rfl (by decide) (by omega) rfl ?_
        refine u_iloadn (k := 9) rfl rfl ?_
        refine u_iald (k := 10) rfl rfl rfl (by omega) ?_
        rw [hkk]
        refine u_iload (k := 11) rfl rfl ?_
        refine u_imul (k := 12) rfl (by rw [e2]; omega) ?_
        refine u_iloadn (k := 13) rfl rfl ?_
        rw [e2]
        refine i_statN2 (M' := mX10_leftOver) (k := 14) rfl lRX1_37 oX10_leftOver vX10_leftOver ⟨Nat.le_of_ble_eq_true rfl, Nat.le_of_ble_eq_true rfl⟩ rfl (Nat.le_of_ble_eq_true rfl) (x_leftOver (A r k * q) m h (by omega)) ?_
        refine a_iconst (k := 15) rfl ?_
        refine a_icmp_eq (k := 16) rfl (fun c_25 => ?_) (fun c_25 => ?_)
        · refine a_iconst (k := 19) rfl ?_
          refine a_istore (k := 20) (lv' := [(5, _), (0, _), (1, _), (2, _), (3, _), (4, _)]) rfl (Nat.le_of_ble_eq_true rfl) rfl ?_
          refine a_sub [1, 2, 4, 5, 0] rfl ?_
          have := L2 P 0 h (by omega) (hA.cong (fun r' k' _ _ => by simp [scl])) Fr.rf; rw [e1, if_pos (by omega)] at he; rw [he] at this ⊢; exact this
        · refine u_iinc (k := 17) (lv' := [(4, _), (0, _), (1, _), (2, _), (3, _)]) rfl rfl (Nat.le_of_ble_eq_true rfl) (by omega) rfl ?_
          refine a_goto (k := 18) rfl ?_
          refine a_sub [1, 2, 3, 4, 0] rfl ?_
          rw [e1, if_neg (by omega)] at he; exact ih (q + 1) (by omega) he
  refine a_iconst (k := 0) rfl ?_
  refine a_istore (k := 1) (lv' := [(4, _), (0, _), (1, _), (2, _), (3, _)]) rfl (Nat.le_of_ble_eq_true rfl) rfl ?_
  refine a_sub [1, 2, 3, 4, 0] rfl ?_
  exact L1 (m - 1) 1 (by omega) rfl
end
section
/-- row r of A changed by times t of row p, k below n -/
def adr (A : MT) (p r t m n : Nat) : MT := fun r' k => if r' = r ∧ k < n then (A r' k + t * A p k) % m else A r' k
/-- all rows but p cleared at k: rows below n done -/
def clr (A : MT) (p k m P n : Nat) : MT := fun r j => if r < n ∧ r ≠ p ∧ j < P then (A r j + (m - A r k) * A p j) % m else A r j
theorem x_clearOthers (P p k c m : Nat) (A : MT) (h : HH) (hP : h 25 0 4 = (P : Int)) (hP8 : P ≤ 8) (hA : MX c A h) (hp : p < c) (hk : k < P) (hc : c ≤ 8) (hm : 2 ≤ m) (hm5 : m ≤ 5) (hlt : ∀ r k, r < c → k < 8 → A r k < m) :
    Sp mX1_clearOthers [vr 25 0, vi p, vi k, vi c, vi m] h (fun z g => z = none ∧ MX c (clr A p k m P c) g ∧ Fr t27 [] h g) := by
  refine Sp.of rfl kX1_clearOthers (Nat.le_of_ble_eq_true rfl) ?_
  have L : ∀ (d n : Nat) (g : HH), n + d = c → MX c (clr A p k m P n) g → Fr t27 [] h g → AW mX1_clearOthers (fun z g => z = none ∧ MX c (clr A p k m P c) g ∧ Fr t27 [] h g) 3 [(0, vr 25 0), (1, vi p), (2, vi k), (3, vi c), (4, vi m), (5, vi n)] [] g := by
    intro d
    induction d with
    | zero =>
      intro n g hn hM hF
      have hn : n = c := by omega
      subst hn
      refine u_iload (k := 2) rfl rfl ?_
      refine u_iloadn (k := 3) rfl rfl ?_
      refine a_icmp_ge (k := 4) rfl (fun c_6 => ?_) (fun c_6 => ?_)
      · refine a_return (k := 54) rfl rfl ?_
        exact ⟨rfl, hM, hF⟩
      · omega
    | succ d ih =>
      intro n g hn hM hF
      have hP' : g 25 0 4 = (P : Int) := (hF 25 0 4 (t27_no (by omega)) (by simp)).trans hP
      have enk : g 27 n k = (A n k : Int) := by rw [hM n k (by omega) (by omega)]; simp [clr]
      have hnk := hlt n k (by omega) (by omega)
      have In : ∀ (d2 j : Nat) (g : HH), n ≠ p → j + d2 = P → MX c (adr (clr A p k m P n) p n (m - A n k) m j) g → Fr t27 [] h g → AW mX1_clearOthers (fun z g => z = none ∧ MX c (clr A p k m P c) g ∧ Fr t27 [] h g) 36 [(0, vr 25 0), (1, vi p), (2, vi k), (3, vi c), (4, vi m), (5, vi n), (6, vi ((m - A n k : Nat) : Int)), (7, vi j)] [] g := by
        intro d2
        induction d2 with
        | zero =>
          intro j g hne hj hM hF
          have hj : j = P := by omega
          subst hj
          have hP' : g 25 0 4 = (j : Int) := (hF 25 0 4 (t27_no (by omega)) (by simp)).trans hP
          refine u_iload (k := 21) rfl rfl ?_
          refine u_aloadn (k := 22) rfl rfl ?_
          refine a_geti (k := 23) rfl fRX1_34 rfl rfl ?_
          refine a_icmp_ge (k := 24) rfl (fun c_42 => ?_) (fun c_42 => ?_)
          · refine u_iinc (k := 52) (lv' := [(5, _), (0, _), (1, _), (2, _), (3, _), (4, _), (6, _), (7, _)]) rfl rfl (Nat.le_of_ble_eq_true rfl) (by omega) rfl ?_
            refine a_goto (k := 53) rfl ?_
            refine a_sub [1, 2, 3, 4, 5, 0] rfl ?_
            refine ih (n + 1) g (by omega) (hM.cong (fun r q h1 h2 => ?_)) hF
            unfold adr clr
            by_cases hr : r = n
            · subst hr
              by_cases hq : q < j
              · simp [hq, hne]
              · simp [hq]
            · by_cases hlt : r < n
              · simp [hr, hlt, show r < n + 1 by omega]
              · simp [hr, hlt, show ¬ r < n + 1 by omega]
          · omega
        | succ d2 ih2 =>
          intro j g hne hj hM hF
          have hP' : g 25 0 4 = (P : Int) := (hF 25 0 4 (t27_no (by omega)) (by simp)).trans hP
          have e1 : g 27 n j = (A n j : Int) := by rw [hM n j (by omega) (by omega)]; simp [adr, clr]
          have e2 : g 27 p j = (A p j : Int) := by rw [hM p j hp (by omega)]; simp [adr, clr, Ne.symm hne]
          have l1 := hlt n j (by omega) (by omega)
          have l2 := hlt p j hp (by omega)
          have hmul : (m - A n k) * A p j ≤ 5 * 5 := Nat.mul_le_mul (by omega) (by omega)
          have e3 : ((m - A n k : Nat) : Int) * (A p j : Int) = (((m - A n k) * A p j : Nat) : Int) := by push_cast; rfl
          have e4 : (A n j : Int) + (((m - A n k) * A p j : Nat) : Int) = ((A n j + (m - A n k) * A p j : Nat) : Int) := by push_cast; rfl
          refine u_iload (k := 21) rfl rfl ?_
          refine u_aloadn (k := 22) rfl rfl ?_
          refine a_geti (k := 23) rfl fRX1_34 rfl rfl ?_
          refine a_icmp_ge (k := 24) rfl (fun c_42 => ?_) (fun c_42 => ?_)
          · omega
          · refine u_iload (k := 25) rfl rfl ?_
            refine a_if_eq (k := 26) rfl (fun c_47 => ?_) (fun c_47 => ?_)
            · omega
            · refine u_aloadn (k := 27) rfl rfl ?_
              refine a_getr (k := 28) rfl fRX1_11 rfl rfl rfl ?_
              refine u_iload (k := 29) rfl rfl ?_
              refine u_aald (k := 30) rfl rfl rfl (by decide) (by omega) rfl ?_
              refine u_iload (k := 31) rfl rfl ?_
              refine u_aloadn (k := 32) rfl rfl ?_
              refine a_getr (k := 33) rfl fRX1_11 rfl rfl rfl ?_
              refine u_iload (k := 34) rfl rfl ?_
              refine u_aald (k := 35) rfl rfl rfl (by decide) (by omega) rfl ?_
              refine u_iload (k := 36) rfl rfl ?_
              refine u_iald (k := 37) rfl rfl rfl (by omega) ?_
              rw [e1]
              refine u_iload (k := 38) rfl rfl ?_
              refine u_aloadn (k := 39) rfl rfl ?_
              refine a_getr (k := 40) rfl fRX1_11 rfl rfl rfl ?_
              refine u_iloadn (k := 41) rfl rfl ?_
              refine u_aald (k := 42) rfl rfl rfl (by decide) (by omega) rfl ?_
              refine u_iload (k := 43) rfl rfl ?_
              refine u_iald (k := 44) rfl rfl rfl (by omega) ?_
              rw [e2]
              refine u_imul (k := 45) rfl (by rw [e3]; omega) ?_
              rw [e3]
              refine u_iadd (k := 46) rfl (by omega) ?_
              rw [e4]
              refine u_iload (k := 47) rfl rfl ?_
              refine i_statN2 (M' := mX10_leftOver) (k := 48) rfl lRX1_37 oX10_leftOver vX10_leftOver ⟨Nat.le_of_ble_eq_true rfl, Nat.le_of_ble_eq_true rfl⟩ rfl (Nat.le_of_ble_eq_true rfl) (x_leftOver (A n j + (m - A n k) * A p j) m g (by omega)) ?_
              refine u_iast (k := 49) rfl rfl rfl (by omega) ?_
              refine u_iinc (k := 50) (lv' := [(7, _), (0, _), (1, _), (2, _), (3, _), (4, _), (5, _), (6, _)]) rfl rfl (Nat.le_of_ble_eq_true rfl) (by omega) rfl ?_
              refine a_goto (k := 51) rfl ?_
              refine a_sub [1, 2, 3, 4, 5, 6, 7, 0] rfl ?_
              refine ih2 (j + 1) _ hne (by omega) ((hM.put rfl).cong (fun r q h1 h2 => ?_)) (hF.p1 (t27_in (by omega)))
              unfold um adr
              by_cases hr : r = n
              · subst hr
                by_cases hq : q = j
                · subst hq; simp [clr, Ne.symm hne]
                · by_cases hlt : q < j
                  · simp [hq, hlt, show q < j + 1 by omega]
                  · simp [hq, hlt, show ¬ q < j + 1 by omega]
              · simp [hr]
      by_cases hnp : n = p
      · refine u_iload (k := 2) rfl rfl ?_
        refine u_iloadn (k := 3) rfl rfl ?_
        refine a_icmp_ge (k := 4) rfl (fun c_6 => ?_) (fun c_6 => ?_)
        · omega
        · refine u_iload (k := 5) rfl rfl ?_
          refine u_iloadn (k := 6) rfl rfl ?_
          refine a_icmp_ne (k := 7) rfl (fun c_12 => ?_) (fun c_12 => ?_)
          · omega
          · refine a_iconst (k := 8) rfl ?_
            refine a_goto (k := 9) rfl ?_
            refine a_istore (k := 18) (lv' := [(6, _), (0, _), (1, _), (2, _), (3, _), (4, _), (5, _)]) rfl (Nat.le_of_ble_eq_true rfl) rfl ?_
            refine a_iconst (k := 19) rfl ?_
            refine a_istore (k := 20) (lv' := [(7, _), (6, _), (0, _), (1, _), (2, _), (3, _), (4, _), (5, _)]) rfl (Nat.le_of_ble_eq_true rfl) rfl ?_
            refine u_iload (k := 21) rfl rfl ?_
            refine u_aloadn (k := 22) rfl rfl ?_
            refine a_geti (k := 23) rfl fRX1_34 rfl rfl ?_
            refine a_icmp_ge (k := 24) rfl (fun c_42 => ?_) (fun c_42 => ?_)
            · refine u_iinc (k := 52) (lv' := [(5, _), (7, _), (6, _), (0, _), (1, _), (2, _), (3, _), (4, _)]) rfl rfl (Nat.le_of_ble_eq_true rfl) (by omega) rfl ?_
              refine a_goto (k := 53) rfl ?_
              refine a_sub [3, 4, 5, 6, 7, 0] rfl ?_
              refine ih (n + 1) g (by omega) (hM.cong (fun r q h1 h2 => ?_)) hF
              unfold clr
              by_cases hr : r = n
              · simp [hr, hnp]
              · by_cases hlt : r < n
                · simp [hlt, show r < n + 1 by omega]
                · simp [hlt, show ¬ r < n + 1 by omega]
            · refine u_iload (k := 25) rfl rfl ?_
              refine a_if_eq (k := 26) rfl (fun c_47 => ?_) (fun c_47 => ?_)
              · refine u_iinc (k := 52) (lv' := [(5, _), (7, _), (6, _), (0, _), (1, _), (2, _), (3, _), (4, _)]) rfl rfl (Nat.le_of_ble_eq_true rfl) (by omega) rfl ?_
                refine a_goto (k := 53) rfl ?_
                refine a_sub [3, 4, 5, 6, 7, 0] rfl ?_
                refine ih (n + 1) g (by omega) (hM.cong (fun r q h1 h2 => ?_)) hF
                unfold clr
                by_cases hr : r = n
                · simp [hr, hnp]
                · by_cases hlt : r < n
                  · simp [hlt, show r < n + 1 by omega]
                  · simp [hlt, show ¬ r < n + 1 by omega]
              · omega
      · have e5 : (m : Int) - (A n k : Int) = ((m - A n k : Nat) : Int) := by omega
        refine u_iload (k := 2) rfl rfl ?_
        refine u_iloadn (k := 3) rfl rfl ?_
        refine a_icmp_ge (k := 4) rfl (fun c_6 => ?_) (fun c_6 => ?_)
        · omega
        · refine u_iload (k := 5) rfl rfl ?_
          refine u_iloadn (k := 6) rfl rfl ?_
          refine a_icmp_ne (k := 7) rfl (fun c_12 => ?_) (fun c_12 => ?_)
          · refine u_iload (k := 10) rfl rfl ?_
            refine u_aloadn (k := 11) rfl rfl ?_
            refine a_getr (k := 12) rfl fRX1_11 rfl rfl rfl ?_
            refine u_iload (k := 13) rfl rfl ?_
            refine u_aald (k := 14) rfl rfl rfl (by decide) (by omega) rfl ?_
            refine u_iloadn (k := 15) rfl rfl ?_
            refine u_iald (k := 16) rfl rfl rfl (by omega) ?_
            rw [enk]
            refine u_isub (k := 17) rfl (by omega) ?_
            rw [e5]
            refine a_istore (k := 18) (lv' := [(6, _), (0, _), (1, _), (2, _), (3, _), (4, _), (5, _)]) rfl (Nat.le_of_ble_eq_true rfl) rfl ?_
            refine a_iconst (k := 19) rfl ?_
            refine a_istore (k := 20) (lv' := [(7, _), (6, _), (0, _), (1, _), (2, _), (3, _), (4, _), (5, _)]) rfl (Nat.le_of_ble_eq_true rfl) rfl ?_
            refine a_sub [2, 3, 4, 5, 6, 7, 1, 0] rfl ?_
            exact In P 0 g hnp (by omega) (hM.cong (fun r q _ _ => by simp [adr])) hF
          · omega
  refine a_iconst (k := 0) rfl ?_
  refine a_istore (k := 1) (lv' := [(5, _), (0, _), (1, _), (2, _), (3, _), (4, _)]) rfl (Nat.le_of_ble_eq_true rfl) rfl ?_
  refine a_sub [1, 2, 3, 4, 5, 0] rfl ?_
  exact L c 0 h (by omega) (hA.cong (fun r q _ _ => by simp [clr])) Fr.rf
theorem x_addTo (r p a m v : Nat) (h : HH) (hr : r < 8) (hp : p < 8) (hm : 0 < m) (hv : h 27 r p = (v : Int)) (hb : v + a < 1000) : SpV mX1_addTo [vr 25 0, vi r, vi p, vi a, vi m] h (put h 27 r p (((v + a) % m : Nat) : Int)) := by
  refine Sp.of rfl kX1_addTo (Nat.le_of_ble_eq_true rfl) ?_
  have e1 : (v : Int) + (a : Int) = ((v + a : Nat) : Int) := by omega
  refine u_iloadn (k := 0) rfl rfl ?_
  refine a_if_lt (k := 1) rfl (fun c_1 => ?_) (fun c_1 => ?_)
  · omega
  · refine u_iloadn (k := 2) rfl rfl ?_
    refine a_bipush (k := 3) rfl ?_
    refine a_icmp_ge (k := 4) rfl (fun c_7 => ?_) (fun c_7 => ?_)
    · omega
    · refine u_aloadn (k := 5) rfl rfl ?_
      refine a_getr (k := 6) rfl fRX1_11 rfl rfl rfl ?_
      refine u_iloadn (k := 7) rfl rfl ?_
      refine u_aald (k := 8) rfl rfl rfl (by decide) (by omega) rfl ?_
      refine u_iloadn (k := 9) rfl rfl ?_
      refine u_aloadn (k := 10) rfl rfl ?_
      refine a_getr (k := 11) rfl fRX1_11 rfl rfl rfl ?_
      refine u_iloadn (k := 12) rfl rfl ?_
      refine u_aald (k := 13) rfl rfl rfl (by decide) (by omega) rfl ?_
      refine u_iloadn (k := 14) rfl rfl ?_
      refine u_iald (k := 15) rfl rfl rfl (by omega) ?_
      rw [hv]
      refine u_iloadn (k := 16) rfl rfl ?_
      refine u_iadd (k := 17) rfl (by omega) ?_
      rw [e1]
      refine u_iload (k := 18) rfl rfl ?_
      refine i_statN2 (M' := mX10_leftOver) (k := 19) rfl lRX1_37 oX10_leftOver vX10_leftOver ⟨Nat.le_of_ble_eq_true rfl, Nat.le_of_ble_eq_true rfl⟩ rfl (Nat.le_of_ble_eq_true rfl) (x_leftOver (v + a) m h hm) ?_
      refine u_iast (k := 20) rfl rfl rfl (by omega) ?_
      refine a_return (k := 21) rfl rfl ?_
      exact ⟨rfl, rfl⟩
/-- how many unders are ahead of pass n -/
def bg (f : Nat → Nat) : Nat → Nat
  | 0 => 0
  | n + 1 => bg f n + (if f n % 2 = 0 then 1 else 0)
theorem bg_le (f : Nat → Nat) : ∀ n, bg f n ≤ n
  | 0 => Nat.le_refl 0
  | n + 1 => by
    have := bg_le f n
    unfold bg
    split <;> omega
/-- which part goes over, which begins: by pass i of f -/
def opp (f : Nat → Nat) (P i : Nat) : Nat := if bg f i = 0 then P - 1 else bg f i - 1
def PO (f : Nat → Nat) (P n : Nat) (g : HH) : Prop := ∀ i, i < n → (f i % 2 = 1 → g 28 0 (f i / 2) = (opp f P i : Int)) ∧ (f i % 2 = 0 → g 29 0 (f i / 2) = (bg f i : Int))
def pts (c : Nat) : Nat := if c = 0 then 1 else c
theorem x_findParts (j c s : Nat) (f : Nat → Nat) (h : HH) (hR : RP j c f s h) (hinj : ∀ i k, i < 2 * c → k < 2 * c → f i = f k → i = k) :
    Sp mX1_findParts [vr 25 0, vr 5 j] h (fun z g => z = none ∧ g 25 0 4 = (pts c : Int) ∧ PO f (pts c) (2 * c) g ∧ Fr [(28, 0), (29, 0)] [(25, 0, 4)] h g) := by
  refine Sp.of rfl kX1_findParts (Nat.le_of_ble_eq_true rfl) ?_
  have h8 := hR.2.1
  have hpt : pts c ≤ 8 ∧ 1 ≤ pts c := by unfold pts; split <;> omega
  have L : ∀ (m n : Nat) (g : HH), n + m = 2 * c → g 25 0 4 = (pts c : Int) → PO f (pts c) n g → Fr [(28, 0), (29, 0)] [(25, 0, 4)] h g → AW mX1_findParts (fun z g => z = none ∧ g 25 0 4 = (pts c : Int) ∧ PO f (pts c) (2 * c) g ∧ Fr [(28, 0), (29, 0)] [(25, 0, 4)] h g) 16 [(0, vr 25 0), (1, vr 5 j), (2, vi (bg f n)), (3, vi n)] [] g := by
    intro m
    induction m with
    | zero =>
      intro n g hn hP hO hF
      have hn : n = 2 * c := by omega
      subst hn
      have hR' : RP j c f s g := hR.fr hF (by simp) (by simp) (by simp) (by simp)
      refine u_iloadn (k := 10) rfl rfl ?_
      refine u_aloadn (k := 11) rfl rfl ?_
      refine i_virt0 (M' := mX6_length) (k := 12) rfl lRX1_73 oX6_length vX6_length ⟨Nat.le_of_ble_eq_true rfl, Nat.le_of_ble_eq_true rfl⟩ rfl rfl (Nat.le_of_ble_eq_true rfl) (x_length j c g hR'.1 h8) ?_
      refine a_icmp_ge (k := 13) rfl (fun c_21 => ?_) (fun c_21 => ?_)
      · refine a_return (k := 50) rfl rfl ?_
        exact ⟨rfl, hP, hO, hF⟩
      · omega
    | succ m ih =>
      intro n g hn hP hO hF
      have hR' : RP j c f s g := hR.fr hF (by simp) (by simp) (by simp) (by simp)
      obtain ⟨r1, r2, r3, r4, r5, r6⟩ := hR'
      have hfn := r6 n (by omega)
      have e8 : f n / 2 % 8 = f n / 2 := by omega
      have hbg := bg_le f n
      have ebg : bg f (n + 1) = bg f n + (if f n % 2 = 0 then 1 else 0) := rfl
      have oth : ∀ i, i < n → f i % 2 = f n % 2 → f i / 2 ≠ f n / 2 := fun i hi h1 h2 => by
        have := hinj i n (by omega) (by omega) (by omega)
        omega
      refine u_iloadn (k := 10) rfl rfl ?_
      refine u_aloadn (k := 11) rfl rfl ?_
      refine i_virt0 (M' := mX6_length) (k := 12) rfl lRX1_73 oX6_length vX6_length ⟨Nat.le_of_ble_eq_true rfl, Nat.le_of_ble_eq_true rfl⟩ rfl rfl (Nat.le_of_ble_eq_true rfl) (x_length j c g r1 h8) ?_
      refine a_icmp_ge (k := 13) rfl (fun c_21 => ?_) (fun c_21 => ?_)
      · omega
      · refine u_aloadn (k := 14) rfl rfl ?_
        refine a_getr (k := 15) rfl fRX1_77 rfl rfl rfl ?_
        refine u_iloadn (k := 16) rfl rfl ?_
        refine u_iald (k := 17) rfl rfl rfl (by omega) ?_
        rw [r5 n (by omega)]
        refine a_istore (k := 18) (lv' := [(4, _), (0, _), (1, _), (2, _), (3, _)]) rfl (Nat.le_of_ble_eq_true rfl) rfl ?_
        refine u_iload (k := 19) rfl rfl ?_
        refine i_statN1 (M' := mX10_crossingOf) (k := 20) rfl lRX1_80 oX10_crossingOf vX10_crossingOf ⟨Nat.le_of_ble_eq_true rfl, Nat.le_of_ble_eq_true rfl⟩ rfl (Nat.le_of_ble_eq_true rfl) (x_crossingOf (f n) g (by omega)) ?_
        rw [e8]
        refine a_istore (k := 21) (lv' := [(5, _), (4, _), (0, _), (1, _), (2, _), (3, _)]) rfl (Nat.le_of_ble_eq_true rfl) rfl ?_
        refine u_iload (k := 22) rfl rfl ?_
        refine a_iconst (k := 23) rfl ?_
        refine a_iand (k := 24) rfl ?_
        rw [iand1 (by omega)]
        refine a_iconst (k := 25) rfl ?_
        refine a_icmp_ne (k := 26) rfl (fun c_44 => ?_) (fun c_44 => ?_)
        · have hev : f n % 2 = 0 := by omega
          rw [if_pos hev] at ebg
          refine u_aloadn (k := 42) rfl rfl ?_
          refine a_getr (k := 43) rfl fRX1_20 rfl rfl rfl ?_
          refine u_iload (k := 44) rfl rfl ?_
          refine u_iloadn (k := 45) rfl rfl ?_
          refine u_iast (k := 46) rfl rfl rfl (by omega) ?_
          refine u_iinc (k := 47) (lv' := [(2, _), (5, _), (4, _), (0, _), (1, _), (3, _)]) rfl rfl (Nat.le_of_ble_eq_true rfl) (by omega) rfl ?_
          refine u_iinc (k := 48) (lv' := [(3, _), (2, _), (5, _), (4, _), (0, _), (1, _)]) rfl rfl (Nat.le_of_ble_eq_true rfl) (by omega) rfl ?_
          refine a_goto (k := 49) rfl ?_
          refine a_sub [4, 5, 1, 0] rfl ?_
          first
            | (have h0 : bg f n = 0 := by omega
               have := ih (n + 1) (put g 28 0 (f n / 2) ((pts c : Int) - 1)) (by omega) (by simp only [put_apply, Nat.reduceEqDiff, reduceIte, false_and, and_false, true_and, and_true, and_self, if_false, if_true, not_false_eq_true, not_true_eq_false, ne_eq]; exact hP) (fun i hi => ⟨fun h1 => by
                 by_cases he : i = n
                 · subst he; rw [put_eq, opp, if_pos h0]; omega
                 · rw [put_ne (by have := oth i (by omega) (by omega); simp [this])]; exact (hO i (by omega)).1 h1, fun h1 => by
                 by_cases he : i = n
                 · subst he; omega
                 · rw [put_ne (by simp)]; exact (hO i (by omega)).2 h1⟩) (hF.p1 (by simp))
               rw [ebg] at this; exact this)
            | (have h0 : ¬ bg f n = 0 := by omega
               have := ih (n + 1) (put g 28 0 (f n / 2) ((bg f n : Int) - 1)) (by omega) (by simp only [put_apply, Nat.reduceEqDiff, reduceIte, false_and, and_false, true_and, and_true, and_self, if_false, if_true, not_false_eq_true, not_true_eq_false, ne_eq]; exact hP) (fun i hi => ⟨fun h1 => by
                 by_cases he : i = n
                 · subst he; rw [put_eq, opp, if_neg h0]; omega
                 · rw [put_ne (by have := oth i (by omega) (by omega); simp [this])]; exact (hO i (by omega)).1 h1, fun h1 => by
                 by_cases he : i = n
                 · subst he; omega
                 · rw [put_ne (by simp)]; exact (hO i (by omega)).2 h1⟩) (hF.p1 (by simp))
               rw [ebg] at this; exact this)
            | (have := ih (n + 1) (put g 29 0 (f n / 2) (bg f n : Int)) (by omega) (by simp only [put_apply, Nat.reduceEqDiff, reduceIte, false_and, and_false, true_and, and_true, and_self, if_false, if_true, not_false_eq_true, not_true_eq_false, ne_eq]; exact hP) (fun i hi => ⟨fun h1 => by
                 by_cases he : i = n
                 · subst he; omega
                 · rw [put_ne (by simp)]; exact (hO i (by omega)).1 h1, fun h1 => by
                 by_cases he : i = n
                 · subst he; rw [put_eq]
                 · rw [put_ne (by have := oth i (by omega) (by omega); simp [this])]; exact (hO i (by omega)).2 h1⟩) (hF.p1 (by simp))
               rw [ebg] at this; exact this)
        · have hod : f n % 2 = 1 := by omega
          rw [if_neg (by omega)] at ebg
          refine u_aloadn (k := 27) rfl rfl ?_
          refine a_getr (k := 28) rfl fRX1_16 rfl rfl rfl ?_
          refine u_iload (k := 29) rfl rfl ?_
          refine u_iloadn (k := 30) rfl rfl ?_
          refine a_if_ne (k := 31) rfl (fun c_54 => ?_) (fun c_54 => ?_)
          · refine u_iloadn (k := 37) rfl rfl ?_
            refine a_iconst (k := 38) rfl ?_
            refine u_isub (k := 39) rfl (by omega) ?_
            refine u_iast (k := 40) rfl rfl rfl (by omega) ?_
            refine a_goto (k := 41) rfl ?_
            refine u_iinc (k := 48) (lv' := [(3, _), (5, _), (4, _), (0, _), (1, _), (2, _)]) rfl rfl (Nat.le_of_ble_eq_true rfl) (by omega) rfl ?_
            refine a_goto (k := 49) rfl ?_
            refine a_sub [3, 4, 5, 0] rfl ?_
            first
              | (have h0 : bg f n = 0 := by omega
                 have := ih (n + 1) (put g 28 0 (f n / 2) ((pts c : Int) - 1)) (by omega) (by simp only [put_apply, Nat.reduceEqDiff, reduceIte, false_and, and_false, true_and, and_true, and_self, if_false, if_true, not_false_eq_true, not_true_eq_false, ne_eq]; exact hP) (fun i hi => ⟨fun h1 => by
                   by_cases he : i = n
                   · subst he; rw [put_eq, opp, if_pos h0]; omega
                   · rw [put_ne (by have := oth i (by omega) (by omega); simp [this])]; exact (hO i (by omega)).1 h1, fun h1 => by
                   by_cases he : i = n
                   · subst he; omega
                   · rw [put_ne (by simp)]; exact (hO i (by omega)).2 h1⟩) (hF.p1 (by simp))
                 rw [ebg] at this; exact this)
              | (have h0 : ¬ bg f n = 0 := by omega
                 have := ih (n + 1) (put g 28 0 (f n / 2) ((bg f n : Int) - 1)) (by omega) (by simp only [put_apply, Nat.reduceEqDiff, reduceIte, false_and, and_false, true_and, and_true, and_self, if_false, if_true, not_false_eq_true, not_true_eq_false, ne_eq]; exact hP) (fun i hi => ⟨fun h1 => by
                   by_cases he : i = n
                   · subst he; rw [put_eq, opp, if_neg h0]; omega
                   · rw [put_ne (by have := oth i (by omega) (by omega); simp [this])]; exact (hO i (by omega)).1 h1, fun h1 => by
                   by_cases he : i = n
                   · subst he; omega
                   · rw [put_ne (by simp)]; exact (hO i (by omega)).2 h1⟩) (hF.p1 (by simp))
                 rw [ebg] at this; exact this)
              | (have := ih (n + 1) (put g 29 0 (f n / 2) (bg f n : Int)) (by omega) (by simp only [put_apply, Nat.reduceEqDiff, reduceIte, false_and, and_false, true_and, and_true, and_self, if_false, if_true, not_false_eq_true, not_true_eq_false, ne_eq]; exact hP) (fun i hi => ⟨fun h1 => by
                   by_cases he : i = n
                   · subst he; omega
                   · rw [put_ne (by simp)]; exact (hO i (by omega)).1 h1, fun h1 => by
                   by_cases he : i = n
                   · subst he; rw [put_eq]
                   · rw [put_ne (by have := oth i (by omega) (by omega); simp [this])]; exact (hO i (by omega)).2 h1⟩) (hF.p1 (by simp))
                 rw [ebg] at this; exact this)
          · refine u_aloadn (k := 32) rfl rfl ?_
            refine a_geti (k := 33) rfl fRX1_34 rfl rfl ?_
            rw [hP]
            refine a_iconst (k := 34) rfl ?_
            refine u_isub (k := 35) rfl (by omega) ?_
            refine a_goto (k := 36) rfl ?_
            refine u_iast (k := 40) rfl rfl rfl (by omega) ?_
            refine a_goto (k := 41) rfl ?_
            refine u_iinc (k := 48) (lv' := [(3, _), (5, _), (4, _), (0, _), (1, _), (2, _)]) rfl rfl (Nat.le_of_ble_eq_true rfl) (by omega) rfl ?_
            refine a_goto (k := 49) rfl ?_
            refine a_sub [3, 4, 5, 0] rfl ?_
            first
              | (have h0 : bg f n = 0 := by omega
                 have := ih (n + 1) (put g 28 0 (f n / 2) ((pts c : Int) - 1)) (by omega) (by simp only [put_apply, Nat.reduceEqDiff, reduceIte, false_and, and_false, true_and, and_true, and_self, if_false, if_true, not_false_eq_true, not_true_eq_false, ne_eq]; exact hP) (fun i hi => ⟨fun h1 => by
                   by_cases he : i = n
                   · subst he; rw [put_eq, opp, if_pos h0]; omega
                   · rw [put_ne (by have := oth i (by omega) (by omega); simp [this])]; exact (hO i (by omega)).1 h1, fun h1 => by
                   by_cases he : i = n
                   · subst he; omega
                   · rw [put_ne (by simp)]; exact (hO i (by omega)).2 h1⟩) (hF.p1 (by simp))
                 rw [ebg] at this; exact this)
              | (have h0 : ¬ bg f n = 0 := by omega
                 have := ih (n + 1) (put g 28 0 (f n / 2) ((bg f n : Int) - 1)) (by omega) (by simp only [put_apply, Nat.reduceEqDiff, reduceIte, false_and, and_false, true_and, and_true, and_self, if_false, if_true, not_false_eq_true, not_true_eq_false, ne_eq]; exact hP) (fun i hi => ⟨fun h1 => by
                   by_cases he : i = n
                   · subst he; rw [put_eq, opp, if_neg h0]; omega
                   · rw [put_ne (by have := oth i (by omega) (by omega); simp [this])]; exact (hO i (by omega)).1 h1, fun h1 => by
                   by_cases he : i = n
                   · subst he; omega
                   · rw [put_ne (by simp)]; exact (hO i (by omega)).2 h1⟩) (hF.p1 (by simp))
                 rw [ebg] at this; exact this)
              | (have := ih (n + 1) (put g 29 0 (f n / 2) (bg f n : Int)) (by omega) (by simp only [put_apply, Nat.reduceEqDiff, reduceIte, false_and, and_false, true_and, and_true, and_self, if_false, if_true, not_false_eq_true, not_true_eq_false, ne_eq]; exact hP) (fun i hi => ⟨fun h1 => by
                   by_cases he : i = n
                   · subst he; omega
                   · rw [put_ne (by simp)]; exact (hO i (by omega)).1 h1, fun h1 => by
                   by_cases he : i = n
                   · subst he; rw [put_eq]
                   · rw [put_ne (by have := oth i (by omega) (by omega); simp [this])]; exact (hO i (by omega)).2 h1⟩) (hF.p1 (by simp))
                 rw [ebg] at this; exact this)
  have emx : (if h 5 j 2 ≤ 1 then (1 : Int) else h 5 j 2) = (pts c : Int) := by rw [hR.1]; unfold pts; split <;> split <;> omega
  refine u_aloadn (k := 0) rfl rfl ?_
  refine a_iconst (k := 1) rfl ?_
  refine u_aloadn (k := 2) rfl rfl ?_
  refine a_geti (k := 3) rfl fRX1_48 rfl rfl ?_
  refine i_stat2 (M' := mJ9_max_7cf53) (k := 4) rfl lRX1_68 oJ9_max_7cf53 vJ9_max_7cf53 ⟨Nat.le_of_ble_eq_true rfl, Nat.le_of_ble_eq_true rfl⟩ rfl (Nat.le_of_ble_eq_true rfl) (x_max 1 (h 5 j 2) h) ?_
  rw [emx]
  refine a_puti (k := 5) rfl pRX1_34 rfl rfl ?_
  refine a_iconst (k := 6) rfl ?_
  refine a_istoren (k := 7) (lv' := [(2, _), (0, _), (1, _)]) rfl (Nat.le_of_ble_eq_true rfl) rfl ?_
  refine a_iconst (k := 8) rfl ?_
  refine a_istoren (k := 9) (lv' := [(3, _), (2, _), (0, _), (1, _)]) rfl (Nat.le_of_ble_eq_true rfl) rfl ?_
  refine a_sub [2, 3, 1, 0] rfl ?_
  exact L (2 * c) 0 _ (by omega) (by rw [put_eq]) (fun i hi => absurd hi (Nat.not_lt_zero i)) (Fr.rf.p2 (by simp))
end
section
def adt (R : Nat → Nat) (p a m : Nat) : Nat → Nat := fun k => if k = p then (R k + a) % m else R k
def enp (P b : Nat) : Nat := if b = 0 then P - 1 else b - 1
def mx0 (O B : Nat → Nat) (P m : Nat) : MT := fun r => adt (adt (adt (fun _ => 0) (O r) 2 m) (B r) (m - 1) m) (enp P (B r)) (m - 1) m
theorem adt_lt {R : Nat → Nat} {p a m : Nat} (hm : 0 < m) (h : ∀ k, R k < m) : ∀ k, adt R p a m k < m := fun k => by
  unfold adt
  split
  · exact Nat.mod_lt _ hm
  · exact h k
theorem mx0_lt {O B : Nat → Nat} {P m : Nat} (hm : 0 < m) (r k : Nat) : mx0 O B P m r k < m := adt_lt hm (adt_lt hm (adt_lt hm (fun _ => hm))) k
theorem put_adt {g : HH} {r p a m v : Nat} {R : Nat → Nat} (hR : ∀ k, k < 8 → g 27 r k = (R k : Int)) (hp : p < 8) (hv : v = R p) : ∀ k, k < 8 → put g 27 r p (((v + a) % m : Nat) : Int) 27 r k = (adt R p a m k : Int) := fun k hk => by
  unfold adt
  by_cases he : k = p
  · subst he; rw [put_eq, if_pos rfl, hv]
  · rw [put_ne (by simp [he]), if_neg he]; exact hR k hk
theorem x_writeRows (j c P m : Nat) (O B : Nat → Nat) (h : HH) (hc : h 5 j 2 = (c : Int)) (h8 : c ≤ 8) (hP : h 25 0 4 = (P : Int)) (hP8 : P ≤ 8) (hP0 : 1 ≤ P) (hO : ∀ r, r < c → h 28 0 r = (O r : Int) ∧ O r < 8) (hB : ∀ r, r < c → h 29 0 r = (B r : Int) ∧ B r < 8) (hm : 2 ≤ m) (hm5 : m ≤ 5) :
    Sp mX1_writeRows [vr 25 0, vr 5 j, vi m] h (fun z g => z = none ∧ MX c (mx0 O B P m) g ∧ Fr t27 [] h g) := by
  refine Sp.of rfl kX1_writeRows (Nat.le_of_ble_eq_true rfl) ?_
  have L : ∀ (d n : Nat) (g : HH), n + d = c → MX n (mx0 O B P m) g → Fr t27 [] h g → AW mX1_writeRows (fun z g => z = none ∧ MX c (mx0 O B P m) g ∧ Fr t27 [] h g) 2 [(0, vr 25 0), (1, vr 5 j), (2, vi m), (3, vi n)] [] g := by
    intro d
    induction d with
    | zero =>
      intro n g hn hM hF
      have hn : n = c := by omega
      subst hn
      have hc' : g 5 j 2 = (n : Int) := (hF 5 j 2 (t27_no (by omega)) (by simp)).trans hc
      refine u_iloadn (k := 2) rfl rfl ?_
      refine u_aloadn (k := 3) rfl rfl ?_
      refine a_geti (k := 4) rfl fRX1_48 rfl rfl ?_
      refine a_icmp_ge (k := 5) rfl (fun c_7 => ?_) (fun c_7 => ?_)
      · refine a_return (k := 55) rfl rfl ?_
        exact ⟨rfl, hM, hF⟩
      · omega
    | succ d ih =>
      intro n g hn hM hF
      have hc' : g 5 j 2 = (c : Int) := (hF 5 j 2 (t27_no (by omega)) (by simp)).trans hc
      have hP' : g 25 0 4 = (P : Int) := (hF 25 0 4 (t27_no (by omega)) (by simp)).trans hP
      obtain ⟨o1, o2⟩ := hO n (by omega)
      obtain ⟨b1, b2⟩ := hB n (by omega)
      have o1' : g 28 0 n = (O n : Int) := (hF 28 0 n (t27_no (by omega)) (by simp)).trans o1
      have b1' : g 29 0 n = (B n : Int) := (hF 29 0 n (t27_no (by omega)) (by simp)).trans b1
      have em : (m : Int) - 1 = ((m - 1 : Nat) : Int) := by omega
      have hen : enp P (B n) < 8 := by unfold enp; split <;> omega
      have body : AW mX1_writeRows (fun z g => z = none ∧ MX c (mx0 O B P m) g ∧ Fr t27 [] h g) 36 [(0, vr 25 0), (1, vr 5 j), (2, vi m), (3, vi n), (4, vi (B n))] [vi (enp P (B n))] g := by
        refine a_istore (k := 21) (lv' := [(5, _), (0, _), (1, _), (2, _), (3, _), (4, _)]) rfl (Nat.le_of_ble_eq_true rfl) rfl ?_
        refine u_aloadn (k := 22) rfl rfl ?_
        refine a_getr (k := 23) rfl fRX1_11 rfl rfl rfl ?_
        refine u_iloadn (k := 24) rfl rfl ?_
        refine u_aald (k := 25) rfl rfl rfl (by decide) (by omega) rfl ?_
        refine a_iconst (k := 26) rfl ?_
        refine uv_stat2 (M' := mJ7_fill_53178) (k := 27) rfl lRX1_84 oJ7_fill_53178 vJ7_fill_53178 ⟨Nat.le_of_ble_eq_true rfl, Nat.le_of_ble_eq_true rfl⟩ rfl (Nat.le_of_ble_eq_true rfl) (j_fill 27 8 0 g rfl rfl (by omega) n) (by intro r g hp; exact hp.1) (fun g1 hg1 => ?_)
        obtain ⟨-, q1, q2⟩ := hg1; have z0 : ∀ k, k < 8 → g1 27 n k = (((fun _ => 0 : Nat → Nat) k : Nat) : Int) := q1
        refine u_aloadn (k := 28) rfl rfl ?_
        refine u_iloadn (k := 29) rfl rfl ?_
        refine u_aloadn (k := 30) rfl rfl ?_
        refine a_getr (k := 31) rfl fRX1_16 rfl rfl rfl ?_
        refine u_iloadn (k := 32) rfl rfl ?_
        refine u_iald (k := 33) rfl rfl rfl (by omega) ?_
        rw [q2 28 0 n (by simp) (by simp), o1']
        refine a_iconst (k := 34) rfl ?_
        refine u_iloadn (k := 35) rfl rfl ?_
        refine v_virt4 (M' := mX1_addTo) (k := 36) rfl lRX1_90 oX1_addTo vX1_addTo ⟨Nat.le_of_ble_eq_true rfl, Nat.le_of_ble_eq_true rfl⟩ rfl rfl (Nat.le_of_ble_eq_true rfl) (x_addTo n (O n) 2 m 0 g1 (by omega) o2 (by omega) (by rw [z0 _ o2]) (by omega)) ?_
        refine u_aloadn (k := 37) rfl rfl ?_
        refine u_iloadn (k := 38) rfl rfl ?_
        refine u_iload (k := 39) rfl rfl ?_
        refine u_iloadn (k := 40) rfl rfl ?_
        refine a_iconst (k := 41) rfl ?_
        refine u_isub (k := 42) rfl (by omega) ?_
        rw [em]
        refine u_iloadn (k := 43) rfl rfl ?_
        refine v_virt4 (M' := mX1_addTo) (k := 44) rfl lRX1_90 oX1_addTo vX1_addTo ⟨Nat.le_of_ble_eq_true rfl, Nat.le_of_ble_eq_true rfl⟩ rfl rfl (Nat.le_of_ble_eq_true rfl) (x_addTo n (B n) (m - 1) m _ _ (by omega) b2 (by omega) (put_adt z0 o2 rfl _ b2) (by have := adt_lt (p := O n) (a := 2) (m := m) (by omega) (fun _ => (show 0 < m by omega) : ∀ k, (fun _ => 0 : Nat → Nat) k < m) (B n); omega)) ?_
        refine u_aloadn (k := 45) rfl rfl ?_
        refine u_iloadn (k := 46) rfl rfl ?_
        refine u_iload (k := 47) rfl rfl ?_
        refine u_iloadn (k := 48) rfl rfl ?_
        refine a_iconst (k := 49) rfl ?_
        refine u_isub (k := 50) rfl (by omega) ?_
        rw [em]
        refine u_iloadn (k := 51) rfl rfl ?_
        refine v_virt4 (M' := mX1_addTo) (k := 52) rfl lRX1_90 oX1_addTo vX1_addTo ⟨Nat.le_of_ble_eq_true rfl, Nat.le_of_ble_eq_true rfl⟩ rfl rfl (Nat.le_of_ble_eq_true rfl) (x_addTo n (enp P (B n)) (m - 1) m _ _ (by omega) hen (by omega) (put_adt (put_adt z0 o2 rfl) b2 rfl _ hen) (by have := adt_lt (p := B n) (a := m - 1) (m := m) (by omega) (adt_lt (p := O n) (a := 2) (m := m) (by omega) (fun _ => (show 0 < m by omega) : ∀ k, (fun _ => 0 : Nat → Nat) k < m)) (enp P (B n)); omega)) ?_
        refine u_iinc (k := 53) (lv' := [(3, _), (5, _), (0, _), (1, _), (2, _), (4, _)]) rfl rfl (Nat.le_of_ble_eq_true rfl) (by omega) rfl ?_
        refine a_goto (k := 54) rfl ?_
        refine a_sub [2, 3, 4, 0] rfl ?_
        refine ih (n + 1) _ (by omega) (fun r k h1 h2 => ?_) ((((hF.tr q2 (fun q hq => by rw [List.mem_singleton.mp hq]; exact t27_in (by omega)) (by simp)).p1 (t27_in (by omega))).p1 (t27_in (by omega))).p1 (t27_in (by omega)))
        by_cases he : r = n
        · subst he
          exact put_adt (put_adt (put_adt z0 o2 rfl) b2 rfl) hen rfl k h2
        · rw [put_ne (by simp [he]), put_ne (by simp [he]), put_ne (by simp [he]), q2 27 r k (by simp [he]) (by simp)]
          exact hM r k (by omega) h2
      refine u_iloadn (k := 2) rfl rfl ?_
      refine u_aloadn (k := 3) rfl rfl ?_
      refine a_geti (k := 4) rfl fRX1_48 rfl rfl ?_
      refine a_icmp_ge (k := 5) rfl (fun c_7 => ?_) (fun c_7 => ?_)
      · omega
      · refine u_aloadn (k := 6) rfl rfl ?_
        refine a_getr (k := 7) rfl fRX1_20 rfl rfl rfl ?_
        refine u_iloadn (k := 8) rfl rfl ?_
        refine u_iald (k := 9) rfl rfl rfl (by omega) ?_
        rw [b1']
        refine a_istore (k := 10) (lv' := [(4, _), (0, _), (1, _), (2, _), (3, _)]) rfl (Nat.le_of_ble_eq_true rfl) rfl ?_
        refine u_iload (k := 11) rfl rfl ?_
        refine a_if_ne (k := 12) rfl (fun c_20 => ?_) (fun c_20 => ?_)
        · have ee : (B n : Int) - 1 = (enp P (B n) : Int) := by unfold enp; rw [if_neg (by omega)]; omega
          refine u_iload (k := 18) rfl rfl ?_
          refine a_iconst (k := 19) rfl ?_
          refine u_isub (k := 20) rfl (by omega) ?_
          refine a_sub [1, 2, 3, 4, 0] rfl ?_
          rw [ee]; exact body
        · have ee : (P : Int) - 1 = (enp P (B n) : Int) := by unfold enp; rw [if_pos (by omega)]; omega
          refine u_aloadn (k := 13) rfl rfl ?_
          refine a_geti (k := 14) rfl fRX1_34 rfl rfl ?_
          rw [hP']
          refine a_iconst (k := 15) rfl ?_
          refine u_isub (k := 16) rfl (by omega) ?_
          refine a_goto (k := 17) rfl ?_
          refine a_sub [1, 2, 3, 4, 0] rfl ?_
          rw [ee]; exact body
  refine a_iconst (k := 0) rfl ?_
  refine a_istoren (k := 1) (lv' := [(3, _), (0, _), (1, _), (2, _)]) rfl (Nat.le_of_ble_eq_true rfl) rfl ?_
  refine a_sub [1, 2, 3, 0] rfl ?_
  exact L c 0 h (by omega) (fun r k h1 _ => absurd h1 (Nat.not_lt_zero r)) Fr.rf
/-- rows, rank, pivots -/
abbrev SV : Type := MT × Nat × (Nat → Int)
def svs (c P m k : Nat) (x : SV) : SV := match rwt x.1 k (c - x.2.1) x.2.1 with
  | none => (x.1, x.2.1, ui x.2.2 k (-1))
  | some r => (clr (scl (exch P x.1 r x.2.1 P) x.2.1 (fct (exch P x.1 r x.2.1 P x.2.1 k) m (m - 1) 1) m P) x.2.1 k m P c, x.2.1 + 1, ui x.2.2 k (x.2.1 : Int))
def svl (c P m : Nat) : Nat → SV → SV
  | 0, x => x
  | k + 1, x => svl c P m k (svs c P m k x)
def SVH (c : Nat) (x : SV) (g : HH) : Prop := MX c x.1 g ∧ g 25 0 5 = (x.2.1 : Int) ∧ ∀ k, k < 8 → g 30 0 k = x.2.2 k
def tcl : List (Nat × Nat) := [(25, 0), (27, 0), (27, 1), (27, 2), (27, 3), (27, 4), (27, 5), (27, 6), (27, 7), (28, 0), (29, 0), (30, 0)]
theorem t27_cl : ∀ q ∈ t27, q ∈ tcl := by decide
theorem exch_lt {c P a b m n : Nat} {A : MT} (h : ∀ r k, r < c → k < 8 → A r k < m) (ha : a < c) (hb : b < c) : ∀ r k, r < c → k < 8 → exch P A a b n r k < m := fun r k h1 h2 => by
  unfold exch
  split
  · split
    · exact h b k hb h2
    · split
      · exact h a k ha h2
      · exact h r k h1 h2
  · exact h r k h1 h2
theorem scl_lt {c r q m n : Nat} {A : MT} (hm : 0 < m) (h : ∀ r k, r < c → k < 8 → A r k < m) : ∀ r' k, r' < c → k < 8 → scl A r q m n r' k < m := fun r' k h1 h2 => by
  unfold scl
  split
  · exact Nat.mod_lt _ hm
  · exact h r' k h1 h2
theorem clr_lt {c p k m P n : Nat} {A : MT} (hm : 0 < m) (h : ∀ r k, r < c → k < 8 → A r k < m) : ∀ r j, r < c → j < 8 → clr A p k m P n r j < m := fun r j h1 h2 => by
  unfold clr
  split
  · exact Nat.mod_lt _ hm
  · exact h r j h1 h2
theorem x_solve (j c s m : Nat) (f : Nat → Nat) (O B : Nat → Nat) (h : HH) (hR : RP j c f s h) (hinj : ∀ i k, i < 2 * c → k < 2 * c → f i = f k → i = k) (hm : 2 ≤ m) (hm5 : m ≤ 5) (hOB : ∀ r, r < c → ∃ i k, i < 2 * c ∧ k < 2 * c ∧ f i = 2 * r + 1 ∧ f k = 2 * r ∧ O r = opp f (pts c) i ∧ B r = bg f k ∧ O r < 8 ∧ B r < 8) :
    Sp mX1_solve [vr 25 0, vr 5 j, vi m] h (fun z g => z = none ∧ g 25 0 4 = (pts c : Int) ∧ SVH c (svl c (pts c) m (pts c) (mx0 O B (pts c) m, 0, h 30 0)) g ∧ Fr tcl [] h g) := by
  refine Sp.of rfl kX1_solve (Nat.le_of_ble_eq_true rfl) ?_
  have h8 := hR.2.1
  have hpt : pts c ≤ 8 ∧ 1 ≤ pts c := by unfold pts; split <;> omega
  have L : ∀ (n : Nat) (x : SV) (g : HH), n ≤ pts c → (∀ r k, r < c → k < 8 → x.1 r k < m) → x.2.1 ≤ c → g 25 0 4 = (pts c : Int) → SVH c x g → Fr tcl [] h g → AW mX1_solve (fun z g => z = none ∧ g 25 0 4 = (pts c : Int) ∧ SVH c (svl c (pts c) m n x) g ∧ Fr tcl [] h g) 23 [(0, vr 25 0), (1, vr 5 j), (2, vi m), (3, vi ((n : Int) - 1))] [] g := by
    intro n
    induction n with
    | zero =>
      intro x g hn hlt hrk hP hH hF
      refine u_iloadn (k := 15) rfl rfl ?_
      refine a_if_lt (k := 16) rfl (fun c_24 => ?_) (fun c_24 => ?_)
      · refine a_return (k := 64) rfl rfl ?_
        exact ⟨rfl, hP, hH, hF⟩
      · omega
    | succ n ih =>
      intro x g hn hlt hrk hP hH hF
      obtain ⟨h1, h2, h3⟩ := hH
      have ec : g 5 j 2 = (c : Int) := (hF 5 j 2 (by simp [tcl]) (by simp)).trans hR.1
      have em : ((n + 1 : Nat) : Int) - 1 = (n : Int) := by omega
      have e0 : svl c (pts c) m (n + 1) x = svl c (pts c) m n (svs c (pts c) m n x) := rfl
      rw [em, e0]
      cases hq : rwt x.1 n (c - x.2.1) x.2.1 with
      | none =>
        have es : svs c (pts c) m n x = (x.1, x.2.1, ui x.2.2 n (-1)) := by simp [svs, hq]
        refine u_iloadn (k := 15) rfl rfl ?_
        refine a_if_lt (k := 16) rfl (fun c_24 => ?_) (fun c_24 => ?_)
        · omega
        · refine u_aloadn (k := 17) rfl rfl ?_
          refine u_iloadn (k := 18) rfl rfl ?_
          refine u_aloadn (k := 19) rfl rfl ?_
          refine a_geti (k := 20) rfl fRX1_48 rfl rfl ?_
          rw [ec]
          refine i_virt2 (M' := mX1_rowWith) (k := 21) rfl lRX1_53 oX1_rowWith vX1_rowWith ⟨Nat.le_of_ble_eq_true rfl, Nat.le_of_ble_eq_true rfl⟩ rfl rfl (Nat.le_of_ble_eq_true rfl) (x_rowWith n c x.2.1 x.1 g h2 h1 h8 (by omega) hrk) ?_
          rw [hq]
          show AW _ _ _ _ [vi (-1)] _
          refine a_istore (k := 22) (lv' := [(4, _), (0, _), (1, _), (2, _), (3, _)]) rfl (Nat.le_of_ble_eq_true rfl) rfl ?_
          refine u_aloadn (k := 23) rfl rfl ?_
          refine a_getr (k := 24) rfl fRX1_23 rfl rfl rfl ?_
          refine u_iloadn (k := 25) rfl rfl ?_
          refine u_iload (k := 26) rfl rfl ?_
          refine a_iconst (k := 27) rfl ?_
          refine a_icmp_ne (k := 28) rfl (fun c_46 => ?_) (fun c_46 => ?_)
          · omega
          · refine a_iconst (k := 29) rfl ?_
            refine a_goto (k := 30) rfl ?_
            refine u_iast (k := 33) rfl rfl rfl (by omega) ?_
            refine u_iload (k := 34) rfl rfl ?_
            refine a_iconst (k := 35) rfl ?_
            refine a_icmp_eq (k := 36) rfl (fun c_61 => ?_) (fun c_61 => ?_)
            · refine u_iinc (k := 62) (lv' := [(3, _), (4, _), (0, _), (1, _), (2, _)]) rfl rfl (Nat.le_of_ble_eq_true rfl) (by omega) rfl ?_
              refine a_goto (k := 63) rfl ?_
              refine a_sub [2, 3, 4, 0] rfl ?_
              rw [es]; exact ih _ _ (by omega) hlt hrk (by simp only [put_apply, Nat.reduceEqDiff, reduceIte, false_and, and_false, true_and, and_true, and_self, if_false, if_true, not_false_eq_true, not_true_eq_false, ne_eq]; exact hP) ⟨h1.keep (fun r k => by simp only [put_apply, Nat.reduceEqDiff, reduceIte, false_and, and_false, true_and, and_true, and_self, if_false, if_true, not_false_eq_true, not_true_eq_false, ne_eq]), by simp only [put_apply, Nat.reduceEqDiff, reduceIte, false_and, and_false, true_and, and_true, and_self, if_false, if_true, not_false_eq_true, not_true_eq_false, ne_eq]; exact h2, fun k hk => by dsimp only; unfold ui; by_cases he : k = n; (subst he; rw [put_eq, if_pos rfl]); (rw [put_ne (by simp [he]), if_neg he]; exact h3 k hk)⟩ (hF.p1 (by simp [tcl]))
            · omega
      | some r =>
        obtain ⟨q1, q2, q3, -⟩ := rwt_some hq
        have es : svs c (pts c) m n x = (clr (scl (exch (pts c) x.1 r x.2.1 (pts c)) x.2.1 (fct (exch (pts c) x.1 r x.2.1 (pts c) x.2.1 n) m (m - 1) 1) m (pts c)) x.2.1 n m (pts c) c, x.2.1 + 1, ui x.2.2 n (x.2.1 : Int)) := by simp [svs, hq]
        have l1 := exch_lt (P := pts c) (n := pts c) (a := r) (b := x.2.1) hlt (by omega) (by omega)
        have l2 := scl_lt (r := x.2.1) (q := fct (exch (pts c) x.1 r x.2.1 (pts c) x.2.1 n) m (m - 1) 1) (n := pts c) (show 0 < m by omega) l1
        have l3 := clr_lt (p := x.2.1) (k := n) (P := pts c) (n := c) (show 0 < m by omega) l2
        refine u_iloadn (k := 15) rfl rfl ?_
        refine a_if_lt (k := 16) rfl (fun c_24 => ?_) (fun c_24 => ?_)
        · omega
        · refine u_aloadn (k := 17) rfl rfl ?_
          refine u_iloadn (k := 18) rfl rfl ?_
          refine u_aloadn (k := 19) rfl rfl ?_
          refine a_geti (k := 20) rfl fRX1_48 rfl rfl ?_
          rw [ec]
          refine i_virt2 (M' := mX1_rowWith) (k := 21) rfl lRX1_53 oX1_rowWith vX1_rowWith ⟨Nat.le_of_ble_eq_true rfl, Nat.le_of_ble_eq_true rfl⟩ rfl rfl (Nat.le_of_ble_eq_true rfl) (x_rowWith n c x.2.1 x.1 g h2 h1 h8 (by omega) hrk) ?_
          rw [hq]
          show AW _ _ _ _ [vi (r : Int)] _
          refine a_istore (k := 22) (lv' := [(4, _), (0, _), (1, _), (2, _), (3, _)]) rfl (Nat.le_of_ble_eq_true rfl) rfl ?_
          refine u_aloadn (k := 23) rfl rfl ?_
          refine a_getr (k := 24) rfl fRX1_23 rfl rfl rfl ?_
          refine u_iloadn (k := 25) rfl rfl ?_
          refine u_iload (k := 26) rfl rfl ?_
          refine a_iconst (k := 27) rfl ?_
          refine a_icmp_ne (k := 28) rfl (fun c_46 => ?_) (fun c_46 => ?_)
          · refine u_aloadn (k := 31) rfl rfl ?_
            refine a_geti (k := 32) rfl fRX1_30 rfl rfl ?_
            rw [h2]
            refine u_iast (k := 33) rfl rfl rfl (by omega) ?_
            refine u_iload (k := 34) rfl rfl ?_
            refine a_iconst (k := 35) rfl ?_
            refine a_icmp_eq (k := 36) rfl (fun c_61 => ?_) (fun c_61 => ?_)
            · omega
            · refine u_aloadn (k := 37) rfl rfl ?_
              refine u_iload (k := 38) rfl rfl ?_
              refine u_aloadn (k := 39) rfl rfl ?_
              refine a_geti (k := 40) rfl fRX1_30 rfl rfl ?_
              rw [put_ne (by simp), h2]
              refine uv_virt2 (M' := mX1_exchangeRows) (k := 41) rfl lRX1_56 oX1_exchangeRows vX1_exchangeRows ⟨Nat.le_of_ble_eq_true rfl, Nat.le_of_ble_eq_true rfl⟩ rfl rfl (Nat.le_of_ble_eq_true rfl) (x_exchange (pts c) c r x.2.1 x.1 _ (by simp only [put_apply, Nat.reduceEqDiff, reduceIte, false_and, and_false, true_and, and_true, and_self, if_false, if_true, not_false_eq_true, not_true_eq_false, ne_eq]; exact hP) hpt.1 (h1.keep (fun r k => by simp only [put_apply, Nat.reduceEqDiff, reduceIte, false_and, and_false, true_and, and_true, and_self, if_false, if_true, not_false_eq_true, not_true_eq_false, ne_eq])) h8 (by omega) (by omega)) (by intro r g hp; exact hp.1) (fun g1 hg1 => ?_)
              obtain ⟨-, a1, a2⟩ := hg1; have p1 : g1 25 0 4 = (pts c : Int) := by rw [a2 25 0 4 (t27_no (by omega)) (by simp), put_ne (by simp)]; exact hP
              refine u_aloadn (k := 42) rfl rfl ?_
              refine u_aloadn (k := 43) rfl rfl ?_
              refine a_geti (k := 44) rfl fRX1_30 rfl rfl ?_
              rw [a2 25 0 5 (t27_no (by omega)) (by simp), put_ne (by simp), h2]
              refine u_iloadn (k := 45) rfl rfl ?_
              refine u_iloadn (k := 46) rfl rfl ?_
              refine uv_virt3 (M' := mX1_scaleRow) (k := 47) rfl lRX1_60 oX1_scaleRow vX1_scaleRow ⟨Nat.le_of_ble_eq_true rfl, Nat.le_of_ble_eq_true rfl⟩ rfl rfl (Nat.le_of_ble_eq_true rfl) (x_scaleRow (pts c) c x.2.1 n m _ g1 p1 hpt.1 a1 h8 (by omega) (by omega) hm hm5 l1) (by intro r g hp; exact hp.1) (fun g2 hg2 => ?_)
              obtain ⟨-, a3, a4⟩ := hg2; have p2 : g2 25 0 4 = (pts c : Int) := (a4 25 0 4 (t27_no (by omega)) (by simp)).trans p1
              refine u_aloadn (k := 48) rfl rfl ?_
              refine u_aloadn (k := 49) rfl rfl ?_
              refine a_geti (k := 50) rfl fRX1_30 rfl rfl ?_
              rw [a4 25 0 5 (t27_no (by omega)) (by simp), a2 25 0 5 (t27_no (by omega)) (by simp), put_ne (by simp), h2]
              refine u_iloadn (k := 51) rfl rfl ?_
              refine u_aloadn (k := 52) rfl rfl ?_
              refine a_geti (k := 53) rfl fRX1_48 rfl rfl ?_
              rw [a4 5 j 2 (t27_no (by omega)) (by simp), a2 5 j 2 (t27_no (by omega)) (by simp), put_ne (by simp), ec]
              refine u_iloadn (k := 54) rfl rfl ?_
              refine uv_virt4 (M' := mX1_clearOthers) (k := 55) rfl lRX1_64 oX1_clearOthers vX1_clearOthers ⟨Nat.le_of_ble_eq_true rfl, Nat.le_of_ble_eq_true rfl⟩ rfl rfl (Nat.le_of_ble_eq_true rfl) (x_clearOthers (pts c) x.2.1 n c m _ g2 p2 hpt.1 a3 (by omega) (by omega) h8 hm hm5 l2) (by intro r g hp; exact hp.1) (fun g3 hg3 => ?_)
              obtain ⟨-, a5, a6⟩ := hg3; have p3 : g3 25 0 4 = (pts c : Int) := (a6 25 0 4 (t27_no (by omega)) (by simp)).trans p2; have p4 : g3 25 0 5 = (x.2.1 : Int) := by rw [a6 25 0 5 (t27_no (by omega)) (by simp), a4 25 0 5 (t27_no (by omega)) (by simp), a2 25 0 5 (t27_no (by omega)) (by simp), put_ne (by simp), h2]
              refine u_aloadn (k := 56) rfl rfl ?_
              refine a_dup (k := 57) rfl rfl ?_
              refine a_geti (k := 58) rfl fRX1_30 rfl rfl ?_
              rw [p4]
              refine a_iconst (k := 59) rfl ?_
              refine u_iadd (k := 60) rfl (by omega) ?_
              refine a_puti (k := 61) rfl pRX1_30 rfl rfl ?_
              refine u_iinc (k := 62) (lv' := [(3, _), (4, _), (0, _), (1, _), (2, _)]) rfl rfl (Nat.le_of_ble_eq_true rfl) (by omega) rfl ?_
              refine a_goto (k := 63) rfl ?_
              refine a_sub [2, 3, 4, 0] rfl ?_
              rw [es]
              refine ih _ _ (by omega) l3 (by dsimp only; omega) (by simp only [put_apply, Nat.reduceEqDiff, reduceIte, false_and, and_false, true_and, and_true, and_self, if_false, if_true, not_false_eq_true, not_true_eq_false, ne_eq]; exact p3) ⟨a5.keep (fun r k => by simp only [put_apply, Nat.reduceEqDiff, reduceIte, false_and, and_false, true_and, and_true, and_self, if_false, if_true, not_false_eq_true, not_true_eq_false, ne_eq]), by rw [put_eq]; rfl, fun k hk => ?_⟩ (((((hF.p1 (by simp [tcl])).tr a2 t27_cl (by simp)).tr a4 t27_cl (by simp)).tr a6 t27_cl (by simp)).p1 (by simp [tcl]))
              dsimp only
              rw [put_ne (by simp), a6 30 0 k (t27_no (by omega)) (by simp), a4 30 0 k (t27_no (by omega)) (by simp), a2 30 0 k (t27_no (by omega)) (by simp)]
              unfold ui
              by_cases he : k = n
              · subst he; rw [put_eq, if_pos rfl]
              · rw [put_ne (by simp [he]), if_neg he]; exact h3 k hk
          · omega
  refine u_aloadn (k := 0) rfl rfl ?_
  refine u_aloadn (k := 1) rfl rfl ?_
  refine uv_virt1 (M' := mX1_findParts) (k := 2) rfl lRX1_41 oX1_findParts vX1_findParts ⟨Nat.le_of_ble_eq_true rfl, Nat.le_of_ble_eq_true rfl⟩ rfl rfl (Nat.le_of_ble_eq_true rfl) (x_findParts j c s f h hR hinj) (by intro r g hp; exact hp.1) (fun g1 hg1 => ?_)
  obtain ⟨-, b1, b2, b3⟩ := hg1
  refine u_aloadn (k := 3) rfl rfl ?_
  refine u_aloadn (k := 4) rfl rfl ?_
  refine u_iloadn (k := 5) rfl rfl ?_
  refine uv_virt2 (M' := mX1_writeRows) (k := 6) rfl lRX1_45 oX1_writeRows vX1_writeRows ⟨Nat.le_of_ble_eq_true rfl, Nat.le_of_ble_eq_true rfl⟩ rfl rfl (Nat.le_of_ble_eq_true rfl) (x_writeRows j c (pts c) m O B g1 (by rw [b3 5 j 2 (by simp) (by simp)]; exact hR.1) h8 b1 hpt.1 hpt.2 (fun r hr => by obtain ⟨i, k, h1, h2, h3, h4, h5, h6, h7, h9⟩ := hOB r hr; refine ⟨?_, h7⟩; have := (b2 i h1).1 (by omega); rw [show f i / 2 = r by omega] at this; rw [this, h5]) (fun r hr => by obtain ⟨i, k, h1, h2, h3, h4, h5, h6, h7, h9⟩ := hOB r hr; refine ⟨?_, h9⟩; have := (b2 k h2).2 (by omega); rw [show f k / 2 = r by omega] at this; rw [this, h6]) hm hm5) (by intro r g hp; exact hp.1) (fun g2 hg2 => ?_)
  obtain ⟨-, b4, b5⟩ := hg2
  refine u_aloadn (k := 7) rfl rfl ?_
  refine a_iconst (k := 8) rfl ?_
  refine a_puti (k := 9) rfl pRX1_30 rfl rfl ?_
  refine u_aloadn (k := 10) rfl rfl ?_
  refine a_geti (k := 11) rfl fRX1_34 rfl rfl ?_
  rw [put_ne (by simp), b5 25 0 4 (t27_no (by omega)) (by simp), b1]
  refine a_iconst (k := 12) rfl ?_
  refine u_isub (k := 13) rfl (by omega) ?_
  refine a_istoren (k := 14) (lv' := [(3, _), (0, _), (1, _), (2, _)]) rfl (Nat.le_of_ble_eq_true rfl) rfl ?_
  refine a_sub [1, 2, 3, 0] rfl ?_
  exact L (pts c) (mx0 O B (pts c) m, 0, h 30 0) _ (Nat.le_refl _) (fun r k _ _ => mx0_lt (by omega) r k) (Nat.zero_le _) (by rw [put_ne (by simp), b5 25 0 4 (t27_no (by omega)) (by simp), b1]) ⟨b4.keep (fun r k => by simp only [put_apply, Nat.reduceEqDiff, reduceIte, false_and, and_false, true_and, and_true, and_self, if_false, if_true, not_false_eq_true, not_true_eq_false, ne_eq]), by rw [put_eq]; rfl, fun k hk => by rw [put_ne (by simp), b5 30 0 k (t27_no (by omega)) (by simp), b3 30 0 k (by simp) (by simp)]⟩ (((b3.mono (by simp [tcl]) (by simp [tcl])).tr b5 t27_cl (by simp)).p1 (by simp [tcl]))
end
section
def OBok (f : Nat → Nat) (c : Nat) (O B : Nat → Nat) : Prop := ∀ r, r < c → ∃ i k, i < 2 * c ∧ k < 2 * c ∧ f i = 2 * r + 1 ∧ f k = 2 * r ∧ O r = opp f (pts c) i ∧ B r = bg f k ∧ O r < 8 ∧ B r < 8
def inj2 (f : Nat → Nat) (n : Nat) : Prop := ∀ i k, i < n → k < n → f i = f k → i = k
theorem pow5 {m n : Nat} (hm : 2 ≤ m) (hm5 : m ≤ 5) (hn : n ≤ 8) : m ^ n ≤ 390625 := Nat.le_trans (Nat.pow_le_pow_left hm5 n) (Nat.le_trans (Nat.pow_le_pow_right (by omega) hn) (by decide))
theorem svs_ok {c P m n : Nat} (hm : 0 < m) (x : SV) (h1 : ∀ r k, r < c → k < 8 → x.1 r k < m) (h2 : x.2.1 ≤ c) (h3 : ∀ k, n + 1 ≤ k → k < P → -1 ≤ x.2.2 k ∧ x.2.2 k < c) : (∀ r k, r < c → k < 8 → (svs c P m n x).1 r k < m) ∧ (svs c P m n x).2.1 ≤ c ∧ (∀ k, n ≤ k → k < P → -1 ≤ (svs c P m n x).2.2 k ∧ (svs c P m n x).2.2 k < c) := by
  unfold svs
  cases hq : rwt x.1 n (c - x.2.1) x.2.1 with
  | none =>
    refine ⟨h1, h2, fun k hk hP => ?_⟩
    dsimp only
    unfold ui
    split
    · omega
    · exact h3 k (by omega) hP
  | some r =>
    obtain ⟨q1, q2, -, -⟩ := rwt_some hq
    refine ⟨clr_lt hm (scl_lt hm (exch_lt h1 (by omega) (by omega))), by dsimp only; omega, fun k hk hP => ?_⟩
    dsimp only
    unfold ui
    split
    · omega
    · exact h3 k (by omega) hP
theorem svl_ok {c P m : Nat} (hm : 0 < m) : ∀ (n : Nat) (x : SV), (∀ r k, r < c → k < 8 → x.1 r k < m) → x.2.1 ≤ c → (∀ k, n ≤ k → k < P → -1 ≤ x.2.2 k ∧ x.2.2 k < c) → (∀ r k, r < c → k < 8 → (svl c P m n x).1 r k < m) ∧ (svl c P m n x).2.1 ≤ c ∧ (∀ k, k < P → -1 ≤ (svl c P m n x).2.2 k ∧ (svl c P m n x).2.2 k < c)
  | 0, x, h1, h2, h3 => ⟨h1, h2, fun k hk => h3 k (Nat.zero_le k) hk⟩
  | n + 1, x, h1, h2, h3 => by
    obtain ⟨a, b, d⟩ := svs_ok (n := n) hm x h1 h2 h3
    exact svl_ok hm n (svs c P m n x) a b d
theorem x_waysBy (j c s m : Nat) (f O B : Nat → Nat) (h : HH) (hR : RP j c f s h) (hinj : inj2 f (2 * c)) (hm : 2 ≤ m) (hm5 : m ≤ 5) (hOB : OBok f c O B) :
    Sp mX1_waysBy [vr 25 0, vr 5 j, vi m] h (fun z g => z = some (vi ((m ^ (pts c - (svl c (pts c) m (pts c) (mx0 O B (pts c) m, 0, h 30 0)).2.1) : Nat) : Int)) ∧ Fr tcl [] h g) := by
  refine Sp.of rfl kX1_waysBy (Nat.le_of_ble_eq_true rfl) ?_
  have hpt : pts c ≤ 8 ∧ 1 ≤ pts c := by have := hR.2.1; unfold pts; split <;> omega
  generalize hx : svl c (pts c) m (pts c) (mx0 O B (pts c) m, 0, h 30 0) = x
  have L : ∀ (d i : Nat) (g : HH), g 25 0 4 = (pts c : Int) → (i + d = pts c ∨ (d = 0 ∧ pts c ≤ i)) → x.2.1 ≤ i → i < 1000 → (i ≤ pts c ∨ i = x.2.1) → Fr tcl [] h g → AW mX1_waysBy (fun z g => z = some (vi ((m ^ (pts c - x.2.1) : Nat) : Int)) ∧ Fr tcl [] h g) 14 [(0, vr 25 0), (2, vi m), (3, vi ((m ^ (i - x.2.1) : Nat) : Int)), (4, vi i)] [] g := by
    intro d
    induction d with
    | zero =>
      intro i g hP hi h1 h2 h3 hF
      refine u_iload (k := 9) rfl rfl ?_
      refine u_aloadn (k := 10) rfl rfl ?_
      refine a_geti (k := 11) rfl fRX1_34 rfl rfl ?_
      refine a_icmp_ge (k := 12) rfl (fun c_20 => ?_) (fun c_20 => ?_)
      · refine u_iloadn (k := 19) rfl rfl ?_
        refine a_ireturn (k := 20) rfl rfl ?_
        exact ⟨by rw [show i - x.2.1 = pts c - x.2.1 by omega], hF⟩
      · omega
    | succ d ih =>
      intro i g hP hi h1 h2 h3 hF
      have hp := pow5 (n := i + 1 - x.2.1) hm hm5 (by omega)
      have e1 : ((m ^ (i - x.2.1) : Nat) : Int) * (m : Int) = ((m ^ (i + 1 - x.2.1) : Nat) : Int) := by rw [show i + 1 - x.2.1 = (i - x.2.1) + 1 by omega, Nat.pow_succ]; push_cast; rfl
      refine u_iload (k := 9) rfl rfl ?_
      refine u_aloadn (k := 10) rfl rfl ?_
      refine a_geti (k := 11) rfl fRX1_34 rfl rfl ?_
      refine a_icmp_ge (k := 12) rfl (fun c_20 => ?_) (fun c_20 => ?_)
      · omega
      · refine u_iloadn (k := 13) rfl rfl ?_
        refine u_iloadn (k := 14) rfl rfl ?_
        refine u_imul (k := 15) rfl (by rw [e1]; omega) ?_
        rw [e1]
        refine a_istoren (k := 16) (lv' := [(3, _), (0, _), (2, _), (4, _)]) rfl (Nat.le_of_ble_eq_true rfl) rfl ?_
        refine u_iinc (k := 17) (lv' := [(4, _), (3, _), (0, _), (2, _)]) rfl rfl (Nat.le_of_ble_eq_true rfl) (by omega) rfl ?_
        refine a_goto (k := 18) rfl ?_
        refine a_sub [2, 3, 1, 0] rfl ?_
        exact ih (i + 1) g hP (by omega) (by omega) (by omega) (by omega) hF
  refine u_aloadn (k := 0) rfl rfl ?_
  refine u_aloadn (k := 1) rfl rfl ?_
  refine u_iloadn (k := 2) rfl rfl ?_
  refine uv_virt2 (M' := mX1_solve) (k := 3) rfl lRX1_26 oX1_solve vX1_solve ⟨Nat.le_of_ble_eq_true rfl, Nat.le_of_ble_eq_true rfl⟩ rfl rfl (Nat.le_of_ble_eq_true rfl) (x_solve j c s m f O B h hR hinj hm hm5 hOB) (by intro r g hp; exact hp.1) (fun g1 hg1 => ?_)
  obtain ⟨-, b1, b2, b3⟩ := hg1; rw [hx] at b2
  refine a_iconst (k := 4) rfl ?_
  refine a_istoren (k := 5) (lv' := [(3, _), (0, _), (1, _), (2, _)]) rfl (Nat.le_of_ble_eq_true rfl) rfl ?_
  refine u_aloadn (k := 6) rfl rfl ?_
  refine a_geti (k := 7) rfl fRX1_30 rfl rfl ?_
  rw [b2.2.1]
  refine a_istore (k := 8) (lv' := [(4, _), (3, _), (0, _), (1, _), (2, _)]) rfl (Nat.le_of_ble_eq_true rfl) rfl ?_
  refine a_sub [2, 4, 1, 0] rfl ?_
  have hrk : x.2.1 ≤ c := by rw [← hx]; exact (svl_ok (by omega) (pts c) _ (fun r k _ _ => mx0_lt (by omega) r k) (Nat.zero_le _) (fun k h1 h2 => by omega)).2.1
  have hcp : c ≤ pts c := by unfold pts; split <;> omega
  have := L (pts c - x.2.1) x.2.1 g1 b1 (by omega) (Nat.le_refl _) (by omega) (Or.inr rfl) b3
  rw [Nat.sub_self, Nat.pow_zero] at this
  exact this
/-- the last free part -/
def frp (V : Nat → Int) : Nat → Nat
  | 0 => 0
  | k + 1 => if V (k + 1) = -1 then k + 1 else frp V k
theorem frp_le (V : Nat → Int) : ∀ n, frp V n ≤ n
  | 0 => Nat.le_refl 0
  | n + 1 => by
    unfold frp
    split
    · omega
    · have := frp_le V n; omega
def fcl (x : SV) (P p : Nat) : Int := if frp x.2.2 (P - 1) = 0 then -1 else if x.2.2 p < 0 then (if p = frp x.2.2 (P - 1) then 1 else 0) else (((3 - x.1 (x.2.2 p).toNat (frp x.2.2 (P - 1))) % 3 : Nat) : Int)
theorem x_firstColour (j c s : Nat) (d : Int) (f O B : Nat → Nat) (h : HH) (hR : RP j c f s h) (hinj : inj2 f (2 * c)) (hOB : OBok f c O B) (x : SV) (hx : svl c (pts c) 3 (pts c) (mx0 O B (pts c) 3, 0, h 30 0) = x) (hV : ∀ k, k < pts c → -1 ≤ x.2.2 k ∧ x.2.2 k < c) (hlt : ∀ r k, r < c → k < 8 → x.1 r k < 3) :
    Sp mX1_firstColourOf [vr 25 0, vr 5 j, vi d] h (fun z g => z = some (vi (if 0 ≤ d ∧ d < pts c then fcl x (pts c) d.toNat else -1)) ∧ Fr tcl [] h g) := by
  refine Sp.of rfl kX1_firstColourOf (Nat.le_of_ble_eq_true rfl) ?_
  have h8 := hR.2.1
  have hpt : pts c ≤ 8 ∧ 1 ≤ pts c := by unfold pts; split <;> omega
  have F2 : ∀ (g : HH) (p : Nat), p < pts c → SVH c x g → g 25 0 4 = (pts c : Int) → Fr tcl [] h g → AW mX1_firstColourOf (fun z g => z = some (vi (fcl x (pts c) p)) ∧ Fr tcl [] h g) 47 [(0, vr 25 0), (2, vi p), (3, vi (frp x.2.2 (pts c - 1)))] [] g := by
    intro g p hp hH hP hF
    have hfr := frp_le x.2.2 (pts c - 1)
    have hvp := hV p hp
    have e30 := hH.2.2 p (by omega)
    by_cases hneg : x.2.2 p < 0
    · refine u_iloadn (k := 27) rfl rfl ?_
      refine a_if_gt (k := 28) rfl (fun c_48 => ?_) (fun c_48 => ?_)
      · refine u_aloadn (k := 31) rfl rfl ?_
        refine a_getr (k := 32) rfl fRX1_23 rfl rfl rfl ?_
        refine u_iloadn (k := 33) rfl rfl ?_
        refine u_iald (k := 34) rfl rfl rfl (by omega) ?_
        rw [e30]
        refine a_istore (k := 35) (lv' := [(4, _), (0, _), (2, _), (3, _)]) rfl (Nat.le_of_ble_eq_true rfl) rfl ?_
        refine u_iload (k := 36) rfl rfl ?_
        refine a_if_lt (k := 37) rfl (fun c_63 => ?_) (fun c_63 => ?_)
        · refine u_iloadn (k := 41) rfl rfl ?_
          refine u_iloadn (k := 42) rfl rfl ?_
          refine a_icmp_ne (k := 43) rfl (fun c_75 => ?_) (fun c_75 => ?_)
          · refine a_iconst (k := 46) rfl ?_
            refine a_ireturn (k := 47) rfl rfl ?_
            exact ⟨by unfold fcl; rw [if_neg (by omega), if_pos hneg]; congr 2; split <;> omega, hF⟩
          · refine a_iconst (k := 44) rfl ?_
            refine a_goto (k := 45) rfl ?_
            refine a_ireturn (k := 47) rfl rfl ?_
            exact ⟨by unfold fcl; rw [if_neg (by omega), if_pos hneg]; congr 2; split <;> omega, hF⟩
        · omega
      · refine a_iconst (k := 29) rfl ?_
        refine a_ireturn (k := 30) rfl rfl ?_
        exact ⟨by unfold fcl; rw [if_pos (by omega)], hF⟩
    · obtain ⟨r, hr⟩ : ∃ r : Nat, x.2.2 p = (r : Int) := ⟨(x.2.2 p).toNat, by omega⟩
      have hl := hlt r (frp x.2.2 (pts c - 1)) (by omega) (by omega)
      have em := hH.1 r (frp x.2.2 (pts c - 1)) (by omega) (by omega)
      have e3 : (3 : Int) - (x.1 r (frp x.2.2 (pts c - 1)) : Int) = ((3 - x.1 r (frp x.2.2 (pts c - 1)) : Nat) : Int) := by omega
      refine u_iloadn (k := 27) rfl rfl ?_
      refine a_if_gt (k := 28) rfl (fun c_48 => ?_) (fun c_48 => ?_)
      · refine u_aloadn (k := 31) rfl rfl ?_
        refine a_getr (k := 32) rfl fRX1_23 rfl rfl rfl ?_
        refine u_iloadn (k := 33) rfl rfl ?_
        refine u_iald (k := 34) rfl rfl rfl (by omega) ?_
        rw [e30, hr]
        refine a_istore (k := 35) (lv' := [(4, _), (0, _), (2, _), (3, _)]) rfl (Nat.le_of_ble_eq_true rfl) rfl ?_
        refine u_iload (k := 36) rfl rfl ?_
        refine a_if_lt (k := 37) rfl (fun c_63 => ?_) (fun c_63 => ?_)
        · omega
        · refine u_iload (k := 38) rfl rfl ?_
          refine a_bipush (k := 39) rfl ?_
          refine a_icmp_lt (k := 40) rfl (fun c_70 => ?_) (fun c_70 => ?_)
          · refine a_iconst (k := 48) rfl ?_
            refine u_aloadn (k := 49) rfl rfl ?_
            refine a_getr (k := 50) rfl fRX1_11 rfl rfl rfl ?_
            refine u_iload (k := 51) rfl rfl ?_
            refine u_aald (k := 52) rfl rfl rfl (by decide) (by omega) rfl ?_
            refine u_iloadn (k := 53) rfl rfl ?_
            refine u_iald (k := 54) rfl rfl rfl (by omega) ?_
            rw [em]
            refine u_isub (k := 55) rfl (by omega) ?_
            rw [e3]
            refine a_iconst (k := 56) rfl ?_
            refine i_statN2 (M' := mX10_leftOver) (k := 57) rfl lRX1_37 oX10_leftOver vX10_leftOver ⟨Nat.le_of_ble_eq_true rfl, Nat.le_of_ble_eq_true rfl⟩ rfl (Nat.le_of_ble_eq_true rfl) (x_leftOver (3 - x.1 r (frp x.2.2 (pts c - 1))) 3 g (by omega)) ?_
            refine a_ireturn (k := 58) rfl rfl ?_
            exact ⟨by unfold fcl; rw [if_neg (by omega), if_neg hneg, hr, Int.toNat_natCast], hF⟩
          · omega
      · refine a_iconst (k := 29) rfl ?_
        refine a_ireturn (k := 30) rfl rfl ?_
        exact ⟨by unfold fcl; rw [if_pos (by omega)], hF⟩
  have L : ∀ (n : Nat) (g : HH) (p : Nat), p < pts c → n ≤ pts c - 1 → frp x.2.2 (pts c - 1) = frp x.2.2 n → SVH c x g → g 25 0 4 = (pts c : Int) → Fr tcl [] h g → AW mX1_firstColourOf (fun z g => z = some (vi (fcl x (pts c) p)) ∧ Fr tcl [] h g) 27 [(0, vr 25 0), (2, vi p), (3, vi n)] [] g := by
    intro n
    induction n with
    | zero =>
      intro g p hp hn he hH hP hF
      refine u_iloadn (k := 17) rfl rfl ?_
      refine a_if_le (k := 18) rfl (fun c_28 => ?_) (fun c_28 => ?_)
      · have := F2 g p hp hH hP hF; rw [he] at this; exact this
      · omega
    | succ n ih =>
      intro g p hp hn he hH hP hF
      have e30 := hH.2.2 (n + 1) (by omega)
      have e1 : frp x.2.2 (n + 1) = if x.2.2 (n + 1) = -1 then n + 1 else frp x.2.2 n := rfl
      have em : ((n + 1 : Nat) : Int) + (-1) = (n : Int) := by omega
      refine u_iloadn (k := 17) rfl rfl ?_
      refine a_if_le (k := 18) rfl (fun c_28 => ?_) (fun c_28 => ?_)
      · omega
      · refine u_aloadn (k := 19) rfl rfl ?_
        refine a_getr (k := 20) rfl fRX1_23 rfl rfl rfl ?_
        refine u_iloadn (k := 21) rfl rfl ?_
        refine u_iald (k := 22) rfl rfl rfl (by omega) ?_
        rw [e30]
        refine a_iconst (k := 23) rfl ?_
        refine a_icmp_eq (k := 24) rfl (fun c_38 => ?_) (fun c_38 => ?_)
        · rw [e1, if_pos (by assumption)] at he; have := F2 g p hp hH hP hF; rw [he] at this; exact this
        · refine u_iinc (k := 25) (lv' := [(3, _), (0, _), (2, _)]) rfl rfl (Nat.le_of_ble_eq_true rfl) (by omega) rfl ?_
          refine a_goto (k := 26) rfl ?_
          refine a_sub [1, 2, 0] rfl ?_
          rw [em]; rw [e1, if_neg (by assumption)] at he; exact ih g p hp (by omega) he hH hP hF
  refine u_aloadn (k := 0) rfl rfl ?_
  refine u_aloadn (k := 1) rfl rfl ?_
  refine a_iconst (k := 2) rfl ?_
  refine uv_virt2 (M' := mX1_solve) (k := 3) rfl lRX1_26 oX1_solve vX1_solve ⟨Nat.le_of_ble_eq_true rfl, Nat.le_of_ble_eq_true rfl⟩ rfl rfl (Nat.le_of_ble_eq_true rfl) (x_solve j c s 3 f O B h hR hinj (by omega) (by omega) hOB) (by intro r g hp; exact hp.1) (fun g1 hg1 => ?_)
  obtain ⟨-, b1, b2, b3⟩ := hg1; rw [hx] at b2
  refine u_iloadn (k := 4) rfl rfl ?_
  refine a_if_lt (k := 5) rfl (fun c_7 => ?_) (fun c_7 => ?_)
  · refine a_iconst (k := 10) rfl ?_
    refine a_ireturn (k := 11) rfl rfl ?_
    exact ⟨by rw [if_neg (by omega)], b3⟩
  · refine u_iloadn (k := 6) rfl rfl ?_
    refine u_aloadn (k := 7) rfl rfl ?_
    refine a_geti (k := 8) rfl fRX1_34 rfl rfl ?_
    refine a_icmp_lt (k := 9) rfl (fun c_15 => ?_) (fun c_15 => ?_)
    · refine u_aloadn (k := 12) rfl rfl ?_
      refine a_geti (k := 13) rfl fRX1_34 rfl rfl ?_
      rw [b1]
      refine a_iconst (k := 14) rfl ?_
      refine u_isub (k := 15) rfl (by omega) ?_
      refine a_istoren (k := 16) (lv' := [(3, _), (0, _), (1, _), (2, _)]) rfl (Nat.le_of_ble_eq_true rfl) rfl ?_
      refine a_sub [1, 3, 0] rfl ?_
      obtain ⟨p, hp⟩ : ∃ p : Nat, d = (p : Int) := ⟨d.toNat, by omega⟩
      subst hp
      rw [if_pos (by omega), Int.toNat_natCast, show ((pts c : Nat) : Int) - 1 = ((pts c - 1 : Nat) : Int) by omega]
      exact L (pts c - 1) g1 p (by omega) (Nat.le_refl _) rfl b2 b1 b3
    · refine a_iconst (k := 10) rfl ?_
      refine a_ireturn (k := 11) rfl rfl ?_
      exact ⟨by rw [if_neg (by omega)], b3⟩
end
section
/-! numbering anew: what it keeps -/
theorem fb_holes_ : ∀ (m n : Nat) (f : Nat → Nat), (∀ i, i < n → f i < m) → (∀ i j, i < j → j < n → f i ≠ f j) → n ≤ m
  | 0, n, f, h, _ => by
    rcases Nat.eq_zero_or_pos n with h0 | h0
    · omega
    · exact absurd (h 0 h0) (Nat.not_lt_zero _)
  | m + 1, n, f, h, hd => by
    rcases Nat.eq_zero_or_pos n with h0 | h0
    · omega
    · by_cases hx : ∃ i, i < n ∧ f i = m
      · obtain ⟨i, hi, hm⟩ := hx
        have := fb_holes_ m (n - 1) (fun k => if k = i then f (n - 1) else f k) (fun k hk => by
            split
            · have h1 := h (n - 1) (by omega)
              have h2 : f (n - 1) ≠ m := fun z => by
                by_cases hin : i = n - 1
                · omega
                · exact hd i (n - 1) (by omega) (by omega) (by rw [hm, z])
              omega
            · rename_i hk2
              have h1 := h k (by omega)
              have h2 : f k ≠ m := fun z => by
                rcases Nat.lt_or_gt_of_ne hk2 with q | q
                · exact hd k i q hi (by rw [hm, z])
                · exact hd i k q (by omega) (by rw [hm, z])
              omega) (fun a b hab hb => by
            split
            · split
              · omega
              · exact Ne.symm (hd b (n - 1) (by omega) (by omega))
            · split
              · exact hd a (n - 1) (by omega) (by omega)
              · exact hd a b hab (by omega))
        omega
      · have := fb_holes_ m n f (fun i hi => by
          have h1 := h i hi
          have h2 : f i ≠ m := fun z => hx ⟨i, hi, z⟩
          omega) hd
        omega
theorem num_mono {f : Nat → Nat} {x v n : Nat} (h : num f x n = some v) : ∀ m, num f x (n + m) = some v
  | 0 => h
  | m + 1 => num_old (num_mono h m)
theorem num_le {f : Nat → Nat} {x v n m : Nat} (h : num f x n = some v) (hm : n ≤ m) : num f x m = some v := by
  have := num_mono h (m - n)
  rwa [show n + (m - n) = m by omega] at this
theorem mny_mono {f : Nat → Nat} {n : Nat} : ∀ m, mny f n ≤ mny f (n + m)
  | 0 => Nat.le_refl _
  | m + 1 => by
    have := mny_mono (f := f) (n := n) m
    rw [← Nat.add_assoc]
    show _ ≤ mny f (n + m) + _
    omega
theorem num_inj {f : Nat → Nat} {x y : Nat} : ∀ {n v : Nat}, num f x n = some v → num f y n = some v → x = y
  | 0, v, h, _ => by cases h
  | n + 1, v, h1, h2 => by
    cases hx : num f x n with
    | some a =>
      rw [num_old hx] at h1
      cases h1
      cases hy : num f y n with
      | some b =>
        rw [num_old hy] at h2
        cases h2
        exact num_inj hx hy
      | none =>
        by_cases he : f n / 2 = y
        · subst he
          rw [num_new hy] at h2
          cases h2
          have := num_lt hx
          omega
        · rw [num_oth he, hy] at h2
          cases h2
    | none =>
      by_cases hex : f n / 2 = x
      · subst hex
        rw [num_new hx] at h1
        cases h1
        cases hy : num f y n with
        | some b =>
          rw [num_old hy] at h2
          cases h2
          have := num_lt hy
          omega
        | none =>
          by_cases he : f n / 2 = y
          · exact he
          · rw [num_oth he, hy] at h2
            cases h2
      · rw [num_oth hex, hx] at h1
        cases h1
theorem num_cr (f : Nat → Nat) (i : Nat) : num f (f i / 2) (i + 1) = some (cr f i) := by
  cases h : num f (f i / 2) i with
  | some v => rw [num_old h, cr_old h]
  | none => rw [num_new h, cr_new h]
theorem num_cr2 {f : Nat → Nat} {i n : Nat} (h : i < n) : num f (f i / 2) n = some (cr f i) := num_le (num_cr f i) h
theorem cr_inj {f : Nat → Nat} {i j : Nat} (h : cr f i = cr f j) : f i / 2 = f j / 2 := by
  have h1 := num_cr2 (f := f) (show i < i + j + 1 by omega)
  have h2 := num_cr2 (f := f) (show j < i + j + 1 by omega)
  rw [h] at h1
  exact num_inj h1 h2
theorem cr_eq {f : Nat → Nat} {i j : Nat} (h : f i / 2 = f j / 2) : cr f i = cr f j := by
  have h1 := num_cr2 (f := f) (show i < i + j + 1 by omega)
  have h2 := num_cr2 (f := f) (show j < i + j + 1 by omega)
  rw [h, h2] at h1
  exact (Option.some.inj h1).symm
theorem cr_mny {f : Nat → Nat} {i n : Nat} (h : i < n) : cr f i < mny f n := num_lt (num_cr2 h)
theorem rn_inj {f : Nat → Nat} {i j : Nat} (h : rn f i = rn f j) : f i = f j := by
  unfold rn at h
  have h1 : cr f i = cr f j := by omega
  have := cr_inj h1
  omega
theorem len_mny {f : Nat → Nat} {n : Nat} (h : inj2 f n) : n ≤ 2 * mny f n := by
  refine fb_holes_ (2 * mny f n) n (rn f) (fun i hi => ?_) (fun i j hij hj he => ?_)
  · have := cr_mny (f := f) hi
    unfold rn
    omega
  · have := h i j (by omega) hj (rn_inj he)
    omega
/-- every number below many is had by a pass -/
theorem mny_has {f : Nat → Nat} : ∀ {n v : Nat}, v < mny f n → ∃ i, i < n ∧ cr f i = v
  | 0, v, h => absurd h (Nat.not_lt_zero v)
  | n + 1, v, h => by
    cases hc : num f (f n / 2) n with
    | some w =>
      rw [mny_old hc] at h
      obtain ⟨i, hi, he⟩ := mny_has h
      exact ⟨i, by omega, he⟩
    | none =>
      rw [mny_new hc] at h
      by_cases hv : v = mny f n
      · exact ⟨n, by omega, by rw [cr_new hc, hv]⟩
      · obtain ⟨i, hi, he⟩ := mny_has (show v < mny f n by omega)
        exact ⟨i, by omega, he⟩
/-- every pass has its other one -/
def prd (f : Nat → Nat) (n : Nat) : Prop := ∀ i, i < n → ∃ k, k < n ∧ f k / 2 = f i / 2 ∧ f k % 2 ≠ f i % 2
theorem mny_len {f : Nat → Nat} {n : Nat} (h : prd f n) : 2 * mny f n ≤ n := by
  have hex : ∀ v, v < 2 * mny f n → ∃ i, i < n ∧ rn f i = v := by
    intro v hv
    obtain ⟨i, hi, he⟩ := mny_has (show v / 2 < mny f n by omega)
    by_cases hp : f i % 2 = v % 2
    · exact ⟨i, hi, by unfold rn; omega⟩
    · obtain ⟨k, hk, h1, h2⟩ := h i hi
      have := cr_eq h1
      exact ⟨k, hk, by unfold rn; omega⟩
  classical
  refine fb_holes_ n (2 * mny f n) (fun v => if hv : v < 2 * mny f n then (hex v hv).choose else 0) (fun v hv => ?_) (fun a b hab hb he => ?_)
  · rw [dif_pos hv]
    exact (hex v hv).choose_spec.1
  · rw [dif_pos (by omega), dif_pos hb] at he
    have h1 := (hex a (by omega)).choose_spec.2
    have h2 := (hex b hb).choose_spec.2
    rw [he, h2] at h1
    omega
/-- a thread: c crossings, each once over, once under -/
def VT (c : Nat) (f : Nat → Nat) : Prop := (∀ i, i < 2 * c → f i < 2 * c) ∧ inj2 f (2 * c)
/-- raw: distinct passes, each with its other one -/
def RT (n : Nat) (f : Nat → Nat) : Prop := inj2 f n ∧ prd f n
theorem RT_mny {n : Nat} {f : Nat → Nat} (h : RT n f) : n = 2 * mny f n := by
  have h1 := len_mny h.1
  have h2 := mny_len h.2
  omega
theorem RT_rn {c : Nat} {f : Nat → Nat} (h : RT (2 * c) f) : VT c (rn f) := by
  have hm := RT_mny h
  refine ⟨fun i hi => ?_, fun i k hi hk he => h.1 i k hi hk (rn_inj he)⟩
  have := cr_mny (f := f) hi
  unfold rn
  omega
end
section
theorem x_lay (j n : Nat) (R : Nat → Nat) (h : HH) (hn : n ≤ 8) (hR : ∀ i, i < 2 * n → h 9 0 i = (R i : Int)) : Sp mX6_lay [vr 5 j, vr 9 0, vi n] h (fun r g => r = none ∧ g 5 j 2 = (n : Int) ∧ g 5 j 3 = 0 ∧ (∀ i, i < 2 * n → g 6 j i = (R i : Int)) ∧ Fr [(5, j), (6, j)] [] h g) := by
  refine Sp.of rfl kX6_lay (Nat.le_of_ble_eq_true rfl) ?_
  have L : ∀ (m q : Nat) (g : HH), q + m = 2 * n → g 5 j 3 = 0 → (∀ i, i < q → g 6 j i = (R i : Int)) → Fr [(5, j), (6, j)] [] h g → AW mX6_lay (fun r g => r = none ∧ g 5 j 2 = (n : Int) ∧ g 5 j 3 = 0 ∧ (∀ i, i < 2 * n → g 6 j i = (R i : Int)) ∧ Fr [(5, j), (6, j)] [] h g) 6 [(0, vr 5 j), (1, vr 9 0), (2, vi n), (3, vi q)] [] g := by
    intro m
    induction m with
    | zero =>
      intro q g hq h3 hp hF
      have hq : q = 2 * n := by omega
      subst hq
      refine u_iloadn (k := 4) rfl rfl ?_
      refine a_iconst (k := 5) rfl ?_
      refine u_iloadn (k := 6) rfl rfl ?_
      refine u_imul (k := 7) rfl (by omega) ?_
      refine a_icmp_ge (k := 8) rfl (fun c_10 => ?_) (fun c_10 => ?_)
      · refine u_aloadn (k := 25) rfl rfl ?_
        refine u_iloadn (k := 26) rfl rfl ?_
        refine a_bipush (k := 27) rfl ?_
        refine i_stat2 (M' := mJ9_min_7cf53) (k := 28) rfl lRX6_39 oJ9_min_7cf53 vJ9_min_7cf53 ⟨Nat.le_of_ble_eq_true rfl, Nat.le_of_ble_eq_true rfl⟩ rfl (Nat.le_of_ble_eq_true rfl) (x_min n 8 g) ?_
        refine a_puti (k := 29) rfl pRX6_19 rfl rfl ?_
        refine a_return (k := 30) rfl rfl ?_
        exact ⟨rfl, by rw [put_eq, if_pos (by omega)], by simp only [put_apply, Nat.reduceEqDiff, reduceIte, false_and, and_false, true_and, and_true, and_self, if_false, if_true, not_false_eq_true, not_true_eq_false, ne_eq]; exact h3, fun i hi => by simp only [put_apply, Nat.reduceEqDiff, reduceIte, false_and, and_false, true_and, and_true, and_self, if_false, if_true, not_false_eq_true, not_true_eq_false, ne_eq]; exact hp i hi, hF.p1 (by simp)⟩
      · omega
    | succ m ih =>
      intro q g hq h3 hp hF
      have h9 : g 9 0 q = (R q : Int) := by rw [hF 9 0 q (by simp) (by simp)]; exact hR q (by omega)
      refine u_iloadn (k := 4) rfl rfl ?_
      refine a_iconst (k := 5) rfl ?_
      refine u_iloadn (k := 6) rfl rfl ?_
      refine u_imul (k := 7) rfl (by omega) ?_
      refine a_icmp_ge (k := 8) rfl (fun c_10 => ?_) (fun c_10 => ?_)
      · omega
      · refine u_iloadn (k := 9) rfl rfl ?_
        refine a_bipush (k := 10) rfl ?_
        refine a_icmp_ge (k := 11) rfl (fun c_16 => ?_) (fun c_16 => ?_)
        · omega
        · refine u_iloadn (k := 12) rfl rfl ?_
          refine u_aloadn (k := 13) rfl rfl ?_
          refine a_alen (k := 14) rfl rfl rfl (by decide) (by decide) ?_
          refine a_icmp_ge (k := 15) rfl (fun c_22 => ?_) (fun c_22 => ?_)
          · omega
          · refine u_aloadn (k := 16) rfl rfl ?_
            refine a_getr (k := 17) rfl fRX6_15 rfl rfl rfl ?_
            refine u_iloadn (k := 18) rfl rfl ?_
            refine u_aloadn (k := 19) rfl rfl ?_
            refine u_iloadn (k := 20) rfl rfl ?_
            refine u_iald (k := 21) rfl rfl rfl (by omega) ?_
            rw [h9]
            refine u_iast (k := 22) rfl rfl rfl (by omega) ?_
            refine u_iinc (k := 23) (lv' := [(3, _), (0, _), (1, _), (2, _)]) rfl rfl (Nat.le_of_ble_eq_true rfl) (by omega) rfl ?_
            refine a_goto (k := 24) rfl ?_
            refine a_sub [1, 2, 3, 0] rfl ?_
            exact ih (q + 1) _ (by omega) (by simp only [put_apply, Nat.reduceEqDiff, reduceIte, false_and, and_false, true_and, and_true, and_self, if_false, if_true, not_false_eq_true, not_true_eq_false, ne_eq]; exact h3) (fun i hi => by by_cases he : i = q; (subst he; rw [put_eq]); (rw [put_ne (by simp [he])]; exact hp i (by omega))) (hF.p1 (by simp))
  refine u_aloadn (k := 0) rfl rfl ?_
  refine v_virt0 (M' := mX6_makePlain) (k := 1) rfl lRX6_36 oX6_makePlain vX6_makePlain ⟨Nat.le_of_ble_eq_true rfl, Nat.le_of_ble_eq_true rfl⟩ rfl rfl (Nat.le_of_ble_eq_true rfl) (x_makePlain j h) ?_
  refine a_iconst (k := 2) rfl ?_
  refine a_istoren (k := 3) (lv' := [(3, _), (0, _), (1, _), (2, _)]) rfl (Nat.le_of_ble_eq_true rfl) rfl ?_
  refine a_sub [1, 2, 3, 0] rfl ?_
  exact L (2 * n) 0 _ (by omega) (by rw [put_eq]) (fun i hi => absurd hi (Nat.not_lt_zero i)) ((Fr.rf.p1 (by simp)).p1 (by simp))
/-! the text: a machine over its letters -/
/-- place, figures, first figure, grains, (pretzels, threads), (passes, thread) -/
abbrev PS : Type := Nat × Nat × Nat × Nat × (Nat × (Nat → Nat × (Nat → Nat))) × (Nat × (Nat → Nat))
def un {α : Type} (F : Nat → α) (k : Nat) (v : α) : Nat → α := fun j => if j = k then v else F j
/-- is v among the first n of f -/
def isn (f : Nat → Nat) (n v : Nat) : Bool := (List.range n).any fun i => f i == v
theorem isn_iff {f : Nat → Nat} {n v : Nat} : isn f n v = true ↔ ∃ i, i < n ∧ f i = v := by
  unfold isn
  rw [List.any_eq_true]
  constructor
  · rintro ⟨i, hi, he⟩
    exact ⟨i, List.mem_range.mp hi, by simpa using he⟩
  · rintro ⟨i, hi, he⟩
    exact ⟨i, List.mem_range.mpr hi, by simpa using he⟩
def isd (l : Nat) : Bool := decide (48 ≤ l) && decide (l ≤ 57)
def rpass (p : PS) (x o : Nat) : PS ⊕ Nat :=
  if isn p.2.2.2.2.2.2 p.2.2.2.2.2.1 (2 * x + o) then .inr 4
  else if num p.2.2.2.2.2.2 x p.2.2.2.2.2.1 = none ∧ 8 ≤ mny p.2.2.2.2.2.2 p.2.2.2.2.2.1 then .inr 3
  else .inl (p.1, p.2.1, p.2.2.1, p.2.2.2.1, p.2.2.2.2.1, (p.2.2.2.2.2.1 + 1, un p.2.2.2.2.2.2 p.2.2.2.2.2.1 (2 * x + o)))
/-- as many over as under: the same names -/
def clos (f : Nat → Nat) (n : Nat) : Bool := (List.range 26).all fun x => isn f n (2 * x + 1) == isn f n (2 * x)
def rend (p : PS) : PS ⊕ Nat := if clos p.2.2.2.2.2.2 p.2.2.2.2.2.1 then .inl (4, p.2.1, p.2.2.1, p.2.2.2.1, (p.2.2.2.2.1.1 + 1, un p.2.2.2.2.1.2 p.2.2.2.2.1.1 p.2.2.2.2.2), p.2.2.2.2.2) else .inr 5
def rnum (p : PS) (l : Nat) : PS ⊕ Nat := if l = 59 then .inl (4, p.2) else .inr 1
def rs (p : PS) (l q : Nat) : PS ⊕ Nat :=
  if l = 32 then .inl (if p.1 = 2 then (3, p.2) else p)
  else if p.1 = 0 then (if l = 117 then .inl (1, p.2) else .inr 1)
  else if p.1 = 1 then (if isd l then .inl (2, 1, q, l - 48, p.2.2.2.2) else .inr 1)
  else if p.1 = 2 then (if isd l then (if 3 < p.2.1 + 1 ∨ 99 < 10 * p.2.2.2.1 + (l - 48) then .inr 2 else .inl (2, p.2.1 + 1, p.2.2.1, 10 * p.2.2.2.1 + (l - 48), p.2.2.2.2)) else rnum p l)
  else if p.1 = 3 then rnum p l
  else if p.1 = 4 then (if l = 117 then .inr 3 else if ¬ l = 107 then .inr 1 else if 5 ≤ p.2.2.2.2.1.1 then .inr 3 else .inl (5, p.2.1, p.2.2.1, p.2.2.2.1, p.2.2.2.2.1, (0, p.2.2.2.2.2.2)))
  else if 65 ≤ l ∧ l ≤ 90 then rpass p (l - 65) 1
  else if 97 ≤ l ∧ l ≤ 122 then rpass p (l - 97) 0
  else if l = 59 then rend p else .inr 1
/-- the class's reader holds p -/
def XR (p : PS) (g : HH) : Prop := p.1 ≤ 5 ∧ g 7 0 5 = (p.1 : Int) ∧ g 7 0 6 = (p.2.1 : Int) ∧ p.2.1 ≤ 3 ∧ g 7 0 7 = (p.2.2.1 : Int) ∧ g 3 0 2 = (p.2.2.2.1 : Int) ∧ p.2.2.2.1 ≤ 99 ∧ g 3 0 1 = (p.2.2.2.2.1.1 : Int) ∧ p.2.2.2.2.1.1 ≤ 5 ∧ (∀ k, k < p.2.2.2.2.1.1 → g 5 k 2 = (((p.2.2.2.2.1.2 k).1 / 2 : Nat) : Int) ∧ g 5 k 3 = 0 ∧ ∀ i, i < (p.2.2.2.2.1.2 k).1 → g 6 k i = (rn (p.2.2.2.2.1.2 k).2 i : Int)) ∧
  (p.1 = 5 → NM 1 p.2.2.2.2.2.2 p.2.2.2.2.2.1 g ∧ inj2 p.2.2.2.2.2.2 p.2.2.2.2.2.1 ∧ mny p.2.2.2.2.2.2 p.2.2.2.2.2.1 ≤ 8 ∧ (∀ i, i < p.2.2.2.2.2.1 → p.2.2.2.2.2.2 i < 52) ∧ (∀ i, i < p.2.2.2.2.2.1 → g 9 0 i = (rn p.2.2.2.2.2.2 i : Int)) ∧ p.2.2.2.2.1.1 < 5 ∧
    ∃ U V : Nat, g 7 0 8 = (U : Int) ∧ g 7 0 9 = (V : Int) ∧ U < 2 ^ 26 ∧ V < 2 ^ 26 ∧ (∀ x, U.testBit x = isn p.2.2.2.2.2.2 p.2.2.2.2.2.1 (2 * x + 1)) ∧ (∀ x, V.testBit x = isn p.2.2.2.2.2.2 p.2.2.2.2.2.1 (2 * x)) ∧ pc_ U + pc_ V = p.2.2.2.2.2.1)
def trd : List (Nat × Nat) := [(3, 0), (5, 0), (5, 1), (5, 2), (5, 3), (5, 4), (6, 0), (6, 1), (6, 2), (6, 3), (6, 4), (1, 1), (2, 1), (9, 0)]
def krd : List (Nat × Nat × Nat) := [(7, 0, 5), (7, 0, 6), (7, 0, 7), (7, 0, 8), (7, 0, 9)]
/-- how a letter ends -/
def RE (h : HH) (w : PS ⊕ Nat) (f0 : Int) (r : Option AV) (g : HH) : Prop := match w with
  | .inl p => r = some (vi 0) ∧ XR p g ∧ Fr trd krd h g
  | .inr e => r = some (vi (e : Int)) ∧ (e = 2 → g 7 0 7 = f0) ∧ 0 < e ∧ e ≤ 5 ∧ Fr trd krd h g
theorem x_isFigure (l : Nat) (h : HH) : SpI mX5_isFigure [vi l] h (b01 (isd l)) h := by
  refine Sp.of rfl kX5_isFigure (Nat.le_of_ble_eq_true rfl) ?_
  have e : b01 (isd l) = if 48 ≤ l ∧ l ≤ 57 then 1 else 0 := by
    unfold b01 isd
    by_cases h1 : 48 ≤ l <;> by_cases h2 : l ≤ 57 <;> simp [h1, h2]
  refine u_iloadn (k := 0) rfl rfl ?_
  refine a_bipush (k := 1) rfl ?_
  refine a_icmp_lt (k := 2) rfl (fun c_3 => ?_) (fun c_3 => ?_)
  · refine a_iconst (k := 8) rfl ?_
    refine a_zreturn (k := 9) rfl rfl (by omega) ?_
    exact ⟨by rw [e]; congr 2; split <;> omega, rfl⟩
  · refine u_iloadn (k := 3) rfl rfl ?_
    refine a_bipush (k := 4) rfl ?_
    refine a_icmp_gt (k := 5) rfl (fun c_9 => ?_) (fun c_9 => ?_)
    · refine a_iconst (k := 8) rfl ?_
      refine a_zreturn (k := 9) rfl rfl (by omega) ?_
      exact ⟨by rw [e]; congr 2; split <;> omega, rfl⟩
    · refine a_iconst (k := 6) rfl ?_
      refine a_goto (k := 7) rfl ?_
      refine a_zreturn (k := 9) rfl rfl (by omega) ?_
      exact ⟨by rw [e]; congr 2; split <;> omega, rfl⟩
theorem b01_t {b : Bool} (h : ¬ b01 b = 0) : b = true := by cases b <;> simp_all [b01]
theorem b01_f {b : Bool} (h : b01 b = 0) : b = false := by cases b <;> simp_all [b01]
theorem XR.other {p : PS} {g : HH} (h : XR p g) {a : Nat} (ha : a ≤ 4) : XR (a, p.2) (put g 7 0 5 (a : Int)) := by
  obtain ⟨h1, h2, h3, h4, h5, h6, h7, h8, h9, h10, h11⟩ := h
  exact ⟨by dsimp only; omega, by rw [put_eq], by simp only [put_apply, Nat.reduceEqDiff, reduceIte, false_and, and_false, true_and, and_true, and_self, if_false, if_true, not_false_eq_true, not_true_eq_false, ne_eq]; exact h3, h4, by simp only [put_apply, Nat.reduceEqDiff, reduceIte, false_and, and_false, true_and, and_true, and_self, if_false, if_true, not_false_eq_true, not_true_eq_false, ne_eq]; exact h5, by simp only [put_apply, Nat.reduceEqDiff, reduceIte, false_and, and_false, true_and, and_true, and_self, if_false, if_true, not_false_eq_true, not_true_eq_false, ne_eq]; exact h6, h7, by simp only [put_apply, Nat.reduceEqDiff, reduceIte, false_and, and_false, true_and, and_true, and_self, if_false, if_true, not_false_eq_true, not_true_eq_false, ne_eq]; exact h8, h9, fun k hk => ⟨by simp only [put_apply, Nat.reduceEqDiff, reduceIte, false_and, and_false, true_and, and_true, and_self, if_false, if_true, not_false_eq_true, not_true_eq_false, ne_eq]; exact (h10 k hk).1, by simp only [put_apply, Nat.reduceEqDiff, reduceIte, false_and, and_false, true_and, and_true, and_self, if_false, if_true, not_false_eq_true, not_true_eq_false, ne_eq]; exact (h10 k hk).2.1, fun i hi => by simp only [put_apply, Nat.reduceEqDiff, reduceIte, false_and, and_false, true_and, and_true, and_self, if_false, if_true, not_false_eq_true, not_true_eq_false, ne_eq]; exact (h10 k hk).2.2 i hi⟩, fun z => by dsimp only at z; omega⟩
theorem x_numEnd (l : Nat) (p : PS) (h : HH) (hX : XR p h) : Sp mX5_readNumbersEnd [vr 7 0, vi l] h (RE h (rnum p l) (p.2.2.1 : Int)) := by
  refine Sp.of rfl kX5_readNumbersEnd (Nat.le_of_ble_eq_true rfl) ?_
  refine u_iloadn (k := 0) rfl rfl ?_
  refine a_bipush (k := 1) rfl ?_
  refine a_icmp_eq (k := 2) rfl (fun c_3 => ?_) (fun c_3 => ?_)
  · refine u_aloadn (k := 5) rfl rfl ?_
    refine a_iconst (k := 6) rfl ?_
    refine a_puti (k := 7) rfl pRX5_44 rfl rfl ?_
    refine a_iconst (k := 8) rfl ?_
    refine a_ireturn (k := 9) rfl rfl ?_
    unfold rnum; rw [if_pos (by omega)]; exact ⟨rfl, hX.other (by omega), Fr.rf.p2 (by simp [krd])⟩
  · refine a_iconst (k := 3) rfl ?_
    refine a_ireturn (k := 4) rfl rfl ?_
    unfold rnum; rw [if_neg (by omega)]; exact ⟨rfl, fun z => by omega, by omega, by omega, Fr.rf⟩
theorem x_start (l q : Nat) (p : PS) (h : HH) (hX : XR p h) (hp : p.1 = 0) (hl : l ≠ 32) : Sp mX5_readStart [vr 7 0, vi l] h (RE h (rs p l q) (p.2.2.1 : Int)) := by
  have e : rs p l q = if l = 117 then .inl (1, p.2) else .inr 1 := by simp [rs, hl, hp]
  rw [e]
  refine Sp.of rfl kX5_readStart (Nat.le_of_ble_eq_true rfl) ?_
  refine u_iloadn (k := 0) rfl rfl ?_
  refine a_bipush (k := 1) rfl ?_
  refine a_icmp_eq (k := 2) rfl (fun c_3 => ?_) (fun c_3 => ?_)
  · refine u_aloadn (k := 5) rfl rfl ?_
    refine a_iconst (k := 6) rfl ?_
    refine a_puti (k := 7) rfl pRX5_44 rfl rfl ?_
    refine a_iconst (k := 8) rfl ?_
    refine a_ireturn (k := 9) rfl rfl ?_
    rw [if_pos (by omega)]; exact ⟨rfl, hX.other (by omega), Fr.rf.p2 (by simp [krd])⟩
  · refine a_iconst (k := 3) rfl ?_
    refine a_ireturn (k := 4) rfl rfl ?_
    rw [if_neg (by omega)]; exact ⟨rfl, fun z => by omega, by omega, by omega, Fr.rf⟩
theorem x_blank (q : Nat) (p : PS) (h : HH) (hX : XR p h) : Sp mX5_readBlank [vr 7 0] h (RE h (rs p 32 q) (p.2.2.1 : Int)) := by
  have e : rs p 32 q = .inl (if p.1 = 2 then (3, p.2) else p) := by simp [rs]
  rw [e]
  have h2 := hX.2.1
  refine Sp.of rfl kX5_readBlank (Nat.le_of_ble_eq_true rfl) ?_
  refine u_aloadn (k := 0) rfl rfl ?_
  refine a_geti (k := 1) rfl fRX5_44 rfl rfl ?_
  refine a_iconst (k := 2) rfl ?_
  rw [h2]
  refine a_icmp_ne (k := 3) rfl (fun c_5 => ?_) (fun c_5 => ?_)
  · refine a_iconst (k := 7) rfl ?_
    refine a_ireturn (k := 8) rfl rfl ?_
    first | (rw [if_pos (by omega)]; exact ⟨rfl, hX.other (by omega), Fr.rf.p2 (by simp [krd])⟩) | (rw [if_neg (by omega)]; exact ⟨rfl, hX, Fr.rf⟩)
  · refine u_aloadn (k := 4) rfl rfl ?_
    refine a_iconst (k := 5) rfl ?_
    refine a_puti (k := 6) rfl pRX5_44 rfl rfl ?_
    refine a_iconst (k := 7) rfl ?_
    refine a_ireturn (k := 8) rfl rfl ?_
    first | (rw [if_pos (by omega)]; exact ⟨rfl, hX.other (by omega), Fr.rf.p2 (by simp [krd])⟩) | (rw [if_neg (by omega)]; exact ⟨rfl, hX, Fr.rf⟩)
theorem x_first (l q : Nat) (p : PS) (h : HH) (hX : XR p h) (hp : p.1 = 1) (hl : l ≠ 32) (hl2 : l < 256) (hq : q < 240) : Sp mX5_readFirstFigure [vr 7 0, vi l, vi q] h (RE h (rs p l q) (p.2.2.1 : Int)) := by
  have e : rs p l q = if isd l then .inl (2, 1, q, l - 48, p.2.2.2.2) else .inr 1 := by simp [rs, hl, hp]
  rw [e]
  obtain ⟨h1, h2, h3, h4, h5, h6, h7, h8, h9, h10, h11⟩ := hX
  refine Sp.of rfl kX5_readFirstFigure (Nat.le_of_ble_eq_true rfl) ?_
  refine u_iloadn (k := 0) rfl rfl ?_
  refine i_stat1 (M' := mX5_isFigure) (k := 1) rfl lRX5_81 oX5_isFigure vX5_isFigure ⟨Nat.le_of_ble_eq_true rfl, Nat.le_of_ble_eq_true rfl⟩ rfl (Nat.le_of_ble_eq_true rfl) (x_isFigure l h) ?_
  refine a_if_ne (k := 2) rfl (fun c_4 => ?_) (fun c_4 => ?_)
  · have hd := b01_t c_4
    have hd2 : 48 ≤ l ∧ l ≤ 57 := by simpa [isd] using hd
    refine u_aloadn (k := 5) rfl rfl ?_
    refine a_iconst (k := 6) rfl ?_
    refine a_puti (k := 7) rfl pRX5_44 rfl rfl ?_
    refine u_aloadn (k := 8) rfl rfl ?_
    refine u_iloadn (k := 9) rfl rfl ?_
    refine a_puti (k := 10) rfl pRX5_55 rfl rfl ?_
    refine u_aloadn (k := 11) rfl rfl ?_
    refine a_iconst (k := 12) rfl ?_
    refine a_puti (k := 13) rfl pRX5_85 rfl rfl ?_
    refine u_aloadn (k := 14) rfl rfl ?_
    refine a_getr (k := 15) rfl fRX5_15 rfl rfl rfl ?_
    refine u_iloadn (k := 16) rfl rfl ?_
    refine a_bipush (k := 17) rfl ?_
    refine u_isub (k := 18) rfl (by omega) ?_
    refine a_puti (k := 19) rfl pRX5_41 rfl rfl ?_
    refine a_iconst (k := 20) rfl ?_
    refine a_ireturn (k := 21) rfl rfl ?_
    rw [if_pos hd]
    refine ⟨rfl, ⟨by dsimp only; omega, by simp only [put_apply, Nat.reduceEqDiff, reduceIte, false_and, and_false, true_and, and_true, and_self, if_false, if_true, not_false_eq_true, not_true_eq_false, ne_eq]; rfl, by simp only [put_apply, Nat.reduceEqDiff, reduceIte, false_and, and_false, true_and, and_true, and_self, if_false, if_true, not_false_eq_true, not_true_eq_false, ne_eq]; rfl, by dsimp only; omega, by simp only [put_apply, Nat.reduceEqDiff, reduceIte, false_and, and_false, true_and, and_true, and_self, if_false, if_true, not_false_eq_true, not_true_eq_false, ne_eq], by rw [put_eq]; dsimp only; omega, by dsimp only; omega, by simp only [put_apply, Nat.reduceEqDiff, reduceIte, false_and, and_false, true_and, and_true, and_self, if_false, if_true, not_false_eq_true, not_true_eq_false, ne_eq]; exact h8, h9, fun k hk => ⟨by simp only [put_apply, Nat.reduceEqDiff, reduceIte, false_and, and_false, true_and, and_true, and_self, if_false, if_true, not_false_eq_true, not_true_eq_false, ne_eq]; exact (h10 k hk).1, by simp only [put_apply, Nat.reduceEqDiff, reduceIte, false_and, and_false, true_and, and_true, and_self, if_false, if_true, not_false_eq_true, not_true_eq_false, ne_eq]; exact (h10 k hk).2.1, fun i hi => by simp only [put_apply, Nat.reduceEqDiff, reduceIte, false_and, and_false, true_and, and_true, and_self, if_false, if_true, not_false_eq_true, not_true_eq_false, ne_eq]; exact (h10 k hk).2.2 i hi⟩, fun z => by dsimp only at z; omega⟩, (((Fr.rf.p2 (by simp [krd])).p2 (by simp [krd])).p2 (by simp [krd])).p1 (by simp [trd])⟩
  · have hd := b01_f c_4
    refine a_iconst (k := 3) rfl ?_
    refine a_ireturn (k := 4) rfl rfl ?_
    rw [if_neg (by rw [hd]; decide)]; exact ⟨rfl, fun z => by omega, by omega, by omega, Fr.rf⟩
theorem x_number (l q : Nat) (p : PS) (h : HH) (hX : XR p h) (hp : p.1 = 2) (hl : l ≠ 32) (hl2 : l < 256) : Sp mX5_readNumber [vr 7 0, vi l] h (RE h (rs p l q) (p.2.2.1 : Int)) := by
  have e : rs p l q = if isd l then (if 3 < p.2.1 + 1 ∨ 99 < 10 * p.2.2.2.1 + (l - 48) then .inr 2 else .inl (2, p.2.1 + 1, p.2.2.1, 10 * p.2.2.2.1 + (l - 48), p.2.2.2.2)) else rnum p l := by simp [rs, hl, hp]
  rw [e]
  have hX' := hX
  obtain ⟨h1, h2, h3, h4, h5, h6, h7, h8, h9, h10, h11⟩ := hX
  refine Sp.of rfl kX5_readNumber (Nat.le_of_ble_eq_true rfl) ?_
  refine u_iloadn (k := 0) rfl rfl ?_
  refine i_stat1 (M' := mX5_isFigure) (k := 1) rfl lRX5_81 oX5_isFigure vX5_isFigure ⟨Nat.le_of_ble_eq_true rfl, Nat.le_of_ble_eq_true rfl⟩ rfl (Nat.le_of_ble_eq_true rfl) (x_isFigure l h) ?_
  refine a_if_ne (k := 2) rfl (fun c_4 => ?_) (fun c_4 => ?_)
  · have hd := b01_t c_4
    have hd2 : 48 ≤ l ∧ l ≤ 57 := by simpa [isd] using hd
    rw [if_pos hd]
    refine u_aloadn (k := 7) rfl rfl ?_
    refine a_dup (k := 8) rfl rfl ?_
    refine a_geti (k := 9) rfl fRX5_85 rfl rfl ?_
    rw [h3]
    refine a_iconst (k := 10) rfl ?_
    refine u_iadd (k := 11) rfl (by omega) ?_
    refine a_puti (k := 12) rfl pRX5_85 rfl rfl ?_
    refine u_aloadn (k := 13) rfl rfl ?_
    refine a_getr (k := 14) rfl fRX5_15 rfl rfl rfl ?_
    refine a_bipush (k := 15) rfl ?_
    refine u_aloadn (k := 16) rfl rfl ?_
    refine a_getr (k := 17) rfl fRX5_15 rfl rfl rfl ?_
    refine a_geti (k := 18) rfl fRX5_41 rfl rfl ?_
    rw [put_ne (by simp), h6]
    refine u_imul (k := 19) rfl (by omega) ?_
    refine u_iloadn (k := 20) rfl rfl ?_
    refine u_iadd (k := 21) rfl (by omega) ?_
    refine a_bipush (k := 22) rfl ?_
    refine u_isub (k := 23) rfl (by omega) ?_
    refine a_puti (k := 24) rfl pRX5_41 rfl rfl ?_
    refine u_aloadn (k := 25) rfl rfl ?_
    refine a_geti (k := 26) rfl fRX5_85 rfl rfl ?_
    rw [put_ne (by simp), put_eq]
    refine a_iconst (k := 27) rfl ?_
    refine a_icmp_gt (k := 28) rfl (fun c_50 => ?_) (fun c_50 => ?_)
    · refine a_iconst (k := 34) rfl ?_
      refine a_goto (k := 35) rfl ?_
      refine a_ireturn (k := 37) rfl rfl ?_
      sorry
    · refine u_aloadn (k := 29) rfl rfl ?_
      refine a_getr (k := 30) rfl fRX5_15 rfl rfl rfl ?_
      refine a_geti (k := 31) rfl fRX5_41 rfl rfl ?_
      rw [put_eq]
      refine a_bipush (k := 32) rfl ?_
      refine a_icmp_le (k := 33) rfl (fun c_62 => ?_) (fun c_62 => ?_)
      · refine a_iconst (k := 36) rfl ?_
        refine a_ireturn (k := 37) rfl rfl ?_
        sorry
      · refine a_iconst (k := 34) rfl ?_
        refine a_goto (k := 35) rfl ?_
        refine a_ireturn (k := 37) rfl rfl ?_
        sorry
  · have hd := b01_f c_4
    rw [if_neg (by rw [hd]; decide)]
    refine u_aloadn (k := 3) rfl rfl ?_
    refine u_iloadn (k := 4) rfl rfl ?_
    refine ui_virt1 (M' := mX5_readNumbersEnd) (k := 5) rfl lRX5_72 oX5_readNumbersEnd vX5_readNumbersEnd ⟨Nat.le_of_ble_eq_true rfl, Nat.le_of_ble_eq_true rfl⟩ rfl rfl (Nat.le_of_ble_eq_true rfl) ((x_numEnd l p h hX').weak (P' := fun r g => (∃ a, r = some (vi a)) ∧ RE h (rnum p l) (p.2.2.1 : Int) r g) (fun r g hr => ⟨by unfold RE at hr; split at hr <;> exact ⟨_, hr.1⟩, hr⟩)) (by intro r g hp; exact ⟨_, hp.1⟩) (fun r g1 hg1 => ?_)
    sorry
    refine a_ireturn (k := 6) rfl rfl ?_
    sorry
end
