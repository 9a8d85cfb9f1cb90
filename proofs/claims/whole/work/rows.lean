section
-- ===== PART A: goes FIRST, ahead of the names: the tables' words, and 'selects' of the private methods out of them =====
/-- a private method of a class that the tables say can be made, by its rows of tables_1 -/
def lw_okq (q : MethodName × Nat) : Prop := (q.1.cls ≠ "java/lang/invoke/MethodHandle" ∧ q.1.cls ≠ "java/lang/invoke/VarHandle") ∧ Cond.instantiable q.1.cls q.2 ∈ tables_1 ∧ Cond.privateMethod q.1 ∈ tables_1 ∧ Cond.instanceMethod q.1 ∈ tables_1
theorem lw_p0 : lw_okq (⟨"PretzelProof", "shakenOutOnes", "()I"⟩, 14) := ⟨⟨by decide +kernel, by decide +kernel⟩, List.mem_of_getElem? (i := 18) (by decide +kernel), List.mem_of_getElem? (i := 460) (by decide +kernel), List.mem_of_getElem? (i := 461) (by decide +kernel)⟩
theorem lw_p1 : lw_okq (⟨"PretzelProof", "weakOnes", "(LPretzelProof$Rope;)I"⟩, 14) := ⟨⟨by decide +kernel, by decide +kernel⟩, List.mem_of_getElem? (i := 18) (by decide +kernel), List.mem_of_getElem? (i := 553) (by decide +kernel), List.mem_of_getElem? (i := 554) (by decide +kernel)⟩
theorem lw_p2 : lw_okq (⟨"PretzelProof", "fewestSwitches", "(LPretzelProof$Rope;)I"⟩, 14) := ⟨⟨by decide +kernel, by decide +kernel⟩, List.mem_of_getElem? (i := 18) (by decide +kernel), List.mem_of_getElem? (i := 557) (by decide +kernel), List.mem_of_getElem? (i := 558) (by decide +kernel)⟩
theorem lw_p3 : lw_okq (⟨"PretzelProof", "driftOnce", "()V"⟩, 14) := ⟨⟨by decide +kernel, by decide +kernel⟩, List.mem_of_getElem? (i := 18) (by decide +kernel), List.mem_of_getElem? (i := 683) (by decide +kernel), List.mem_of_getElem? (i := 684) (by decide +kernel)⟩
theorem lw_p4 : lw_okq (⟨"PretzelProof", "draw", "(I)I"⟩, 14) := ⟨⟨by decide +kernel, by decide +kernel⟩, List.mem_of_getElem? (i := 18) (by decide +kernel), List.mem_of_getElem? (i := 687) (by decide +kernel), List.mem_of_getElem? (i := 688) (by decide +kernel)⟩
theorem lw_p5 : lw_okq (⟨"PretzelProof", "shakeByFirstMove", "(LPretzelProof$Rope;)V"⟩, 14) := ⟨⟨by decide +kernel, by decide +kernel⟩, List.mem_of_getElem? (i := 18) (by decide +kernel), List.mem_of_getElem? (i := 696) (by decide +kernel), List.mem_of_getElem? (i := 697) (by decide +kernel)⟩
theorem lw_p6 : lw_okq (⟨"PretzelProof", "curlByDraws", "(LPretzelProof$Rope;)V"⟩, 14) := ⟨⟨by decide +kernel, by decide +kernel⟩, List.mem_of_getElem? (i := 18) (by decide +kernel), List.mem_of_getElem? (i := 701) (by decide +kernel), List.mem_of_getElem? (i := 702) (by decide +kernel)⟩
theorem lw_p7 : lw_okq (⟨"PretzelProof", "fewestUnsalted", "(LPretzelProof$Rope;)I"⟩, 14) := ⟨⟨by decide +kernel, by decide +kernel⟩, List.mem_of_getElem? (i := 18) (by decide +kernel), List.mem_of_getElem? (i := 767) (by decide +kernel), List.mem_of_getElem? (i := 768) (by decide +kernel)⟩
theorem lw_p8 : lw_okq (⟨"PretzelProofModel", "reads", "()V"⟩, 35) := ⟨⟨by decide +kernel, by decide +kernel⟩, List.mem_of_getElem? (i := 827) (by decide +kernel), List.mem_of_getElem? (i := 954) (by decide +kernel), List.mem_of_getElem? (i := 955) (by decide +kernel)⟩
theorem lw_p9 : lw_okq (⟨"PretzelProofModel", "next", "()I"⟩, 35) := ⟨⟨by decide +kernel, by decide +kernel⟩, List.mem_of_getElem? (i := 827) (by decide +kernel), List.mem_of_getElem? (i := 958) (by decide +kernel), List.mem_of_getElem? (i := 959) (by decide +kernel)⟩
theorem lw_p10 : lw_okq (⟨"PretzelProofModel", "blames", "(II)V"⟩, 35) := ⟨⟨by decide +kernel, by decide +kernel⟩, List.mem_of_getElem? (i := 827) (by decide +kernel), List.mem_of_getElem? (i := 962) (by decide +kernel), List.mem_of_getElem? (i := 963) (by decide +kernel)⟩
theorem lw_p11 : lw_okq (⟨"PretzelProofModel", "grains", "()V"⟩, 35) := ⟨⟨by decide +kernel, by decide +kernel⟩, List.mem_of_getElem? (i := 827) (by decide +kernel), List.mem_of_getElem? (i := 966) (by decide +kernel), List.mem_of_getElem? (i := 967) (by decide +kernel)⟩
theorem lw_p12 : lw_okq (⟨"PretzelProofModel", "ends", "()V"⟩, 35) := ⟨⟨by decide +kernel, by decide +kernel⟩, List.mem_of_getElem? (i := 827) (by decide +kernel), List.mem_of_getElem? (i := 972) (by decide +kernel), List.mem_of_getElem? (i := 973) (by decide +kernel)⟩
theorem lw_p13 : lw_okq (⟨"PretzelProofModel", "threads", "()V"⟩, 35) := ⟨⟨by decide +kernel, by decide +kernel⟩, List.mem_of_getElem? (i := 827) (by decide +kernel), List.mem_of_getElem? (i := 976) (by decide +kernel), List.mem_of_getElem? (i := 977) (by decide +kernel)⟩
theorem lw_p14 : lw_okq (⟨"PretzelProofModel", "stores", "(I)V"⟩, 35) := ⟨⟨by decide +kernel, by decide +kernel⟩, List.mem_of_getElem? (i := 827) (by decide +kernel), List.mem_of_getElem? (i := 987) (by decide +kernel), List.mem_of_getElem? (i := 988) (by decide +kernel)⟩
theorem lw_p15 : lw_okq (⟨"PretzelProofModel", "numbers", "(I)I"⟩, 35) := ⟨⟨by decide +kernel, by decide +kernel⟩, List.mem_of_getElem? (i := 827) (by decide +kernel), List.mem_of_getElem? (i := 991) (by decide +kernel), List.mem_of_getElem? (i := 992) (by decide +kernel)⟩
def lw_privs_1 : List (MethodName × Nat) := [(⟨"PretzelProof", "shakenOutOnes", "()I"⟩, 14), (⟨"PretzelProof", "weakOnes", "(LPretzelProof$Rope;)I"⟩, 14), (⟨"PretzelProof", "fewestSwitches", "(LPretzelProof$Rope;)I"⟩, 14), (⟨"PretzelProof", "driftOnce", "()V"⟩, 14), (⟨"PretzelProof", "draw", "(I)I"⟩, 14), (⟨"PretzelProof", "shakeByFirstMove", "(LPretzelProof$Rope;)V"⟩, 14), (⟨"PretzelProof", "curlByDraws", "(LPretzelProof$Rope;)V"⟩, 14), (⟨"PretzelProof", "fewestUnsalted", "(LPretzelProof$Rope;)I"⟩, 14), (⟨"PretzelProofModel", "reads", "()V"⟩, 35), (⟨"PretzelProofModel", "next", "()I"⟩, 35), (⟨"PretzelProofModel", "blames", "(II)V"⟩, 35), (⟨"PretzelProofModel", "grains", "()V"⟩, 35), (⟨"PretzelProofModel", "ends", "()V"⟩, 35), (⟨"PretzelProofModel", "threads", "()V"⟩, 35), (⟨"PretzelProofModel", "stores", "(I)V"⟩, 35), (⟨"PretzelProofModel", "numbers", "(I)I"⟩, 35)]
theorem lw_r1 : ∀ q ∈ lw_privs_1, lw_okq q := List.forall_mem_cons.mpr ⟨lw_p0, List.forall_mem_cons.mpr ⟨lw_p1, List.forall_mem_cons.mpr ⟨lw_p2, List.forall_mem_cons.mpr ⟨lw_p3, List.forall_mem_cons.mpr ⟨lw_p4, List.forall_mem_cons.mpr ⟨lw_p5, List.forall_mem_cons.mpr ⟨lw_p6, List.forall_mem_cons.mpr ⟨lw_p7, List.forall_mem_cons.mpr ⟨lw_p8, List.forall_mem_cons.mpr ⟨lw_p9, List.forall_mem_cons.mpr ⟨lw_p10, List.forall_mem_cons.mpr ⟨lw_p11, List.forall_mem_cons.mpr ⟨lw_p12, List.forall_mem_cons.mpr ⟨lw_p13, List.forall_mem_cons.mpr ⟨lw_p14, List.forall_mem_cons.mpr ⟨lw_p15, fun _ h => absurd h List.not_mem_nil⟩⟩⟩⟩⟩⟩⟩⟩⟩⟩⟩⟩⟩⟩⟩⟩
theorem lw_p16 : lw_okq (⟨"PretzelProofModel", "base", "(I)I"⟩, 35) := ⟨⟨by decide +kernel, by decide +kernel⟩, List.mem_of_getElem? (i := 827) (by decide +kernel), List.mem_of_getElem? (i := 998) (by decide +kernel), List.mem_of_getElem? (i := 999) (by decide +kernel)⟩
theorem lw_p17 : lw_okq (⟨"PretzelProofModel", "isOne", "(I)Z"⟩, 35) := ⟨⟨by decide +kernel, by decide +kernel⟩, List.mem_of_getElem? (i := 827) (by decide +kernel), List.mem_of_getElem? (i := 1010) (by decide +kernel), List.mem_of_getElem? (i := 1011) (by decide +kernel)⟩
theorem lw_p18 : lw_okq (⟨"PretzelProofModel", "loads", "(I)V"⟩, 35) := ⟨⟨by decide +kernel, by decide +kernel⟩, List.mem_of_getElem? (i := 827) (by decide +kernel), List.mem_of_getElem? (i := 1015) (by decide +kernel), List.mem_of_getElem? (i := 1016) (by decide +kernel)⟩
theorem lw_p19 : lw_okq (⟨"PretzelProofModel", "passes", "(I)I"⟩, 35) := ⟨⟨by decide +kernel, by decide +kernel⟩, List.mem_of_getElem? (i := 827) (by decide +kernel), List.mem_of_getElem? (i := 1019) (by decide +kernel), List.mem_of_getElem? (i := 1020) (by decide +kernel)⟩
theorem lw_p20 : lw_okq (⟨"PretzelProofModel", "moveOf", "(I)I"⟩, 35) := ⟨⟨by decide +kernel, by decide +kernel⟩, List.mem_of_getElem? (i := 827) (by decide +kernel), List.mem_of_getElem? (i := 1023) (by decide +kernel), List.mem_of_getElem? (i := 1024) (by decide +kernel)⟩
theorem lw_p21 : lw_okq (⟨"PretzelProofModel", "leaves", "(I)V"⟩, 35) := ⟨⟨by decide +kernel, by decide +kernel⟩, List.mem_of_getElem? (i := 827) (by decide +kernel), List.mem_of_getElem? (i := 1027) (by decide +kernel), List.mem_of_getElem? (i := 1028) (by decide +kernel)⟩
theorem lw_p22 : lw_okq (⟨"PretzelProofModel", "isMove", "(IIII)Z"⟩, 35) := ⟨⟨by decide +kernel, by decide +kernel⟩, List.mem_of_getElem? (i := 827) (by decide +kernel), List.mem_of_getElem? (i := 1031) (by decide +kernel), List.mem_of_getElem? (i := 1032) (by decide +kernel)⟩
theorem lw_p23 : lw_okq (⟨"PretzelProofModel", "isBeside", "(II)Z"⟩, 35) := ⟨⟨by decide +kernel, by decide +kernel⟩, List.mem_of_getElem? (i := 827) (by decide +kernel), List.mem_of_getElem? (i := 1035) (by decide +kernel), List.mem_of_getElem? (i := 1036) (by decide +kernel)⟩
theorem lw_p24 : lw_okq (⟨"PretzelProofModel", "shaken", "(II)I"⟩, 35) := ⟨⟨by decide +kernel, by decide +kernel⟩, List.mem_of_getElem? (i := 827) (by decide +kernel), List.mem_of_getElem? (i := 1044) (by decide +kernel), List.mem_of_getElem? (i := 1045) (by decide +kernel)⟩
theorem lw_p25 : lw_okq (⟨"PretzelProofModel", "shakes", "(I)V"⟩, 35) := ⟨⟨by decide +kernel, by decide +kernel⟩, List.mem_of_getElem? (i := 827) (by decide +kernel), List.mem_of_getElem? (i := 1048) (by decide +kernel), List.mem_of_getElem? (i := 1049) (by decide +kernel)⟩
theorem lw_p26 : lw_okq (⟨"PretzelProofModel", "comesTo", "(III)V"⟩, 35) := ⟨⟨by decide +kernel, by decide +kernel⟩, List.mem_of_getElem? (i := 827) (by decide +kernel), List.mem_of_getElem? (i := 1055) (by decide +kernel), List.mem_of_getElem? (i := 1056) (by decide +kernel)⟩
theorem lw_p27 : lw_okq (⟨"PretzelProofModel", "crossings", "(I)I"⟩, 35) := ⟨⟨by decide +kernel, by decide +kernel⟩, List.mem_of_getElem? (i := 827) (by decide +kernel), List.mem_of_getElem? (i := 1066) (by decide +kernel), List.mem_of_getElem? (i := 1067) (by decide +kernel)⟩
theorem lw_p28 : lw_okq (⟨"PretzelProofModel", "parts", "()V"⟩, 35) := ⟨⟨by decide +kernel, by decide +kernel⟩, List.mem_of_getElem? (i := 827) (by decide +kernel), List.mem_of_getElem? (i := 1070) (by decide +kernel), List.mem_of_getElem? (i := 1071) (by decide +kernel)⟩
theorem lw_p29 : lw_okq (⟨"PretzelProofModel", "isWay", "(I)Z"⟩, 35) := ⟨⟨by decide +kernel, by decide +kernel⟩, List.mem_of_getElem? (i := 827) (by decide +kernel), List.mem_of_getElem? (i := 1074) (by decide +kernel), List.mem_of_getElem? (i := 1075) (by decide +kernel)⟩
theorem lw_p30 : lw_okq (⟨"PretzelProofModel", "colours", "(I)I"⟩, 35) := ⟨⟨by decide +kernel, by decide +kernel⟩, List.mem_of_getElem? (i := 827) (by decide +kernel), List.mem_of_getElem? (i := 1091) (by decide +kernel), List.mem_of_getElem? (i := 1092) (by decide +kernel)⟩
theorem lw_p31 : lw_okq (⟨"PretzelProofModel", "swaps", "(II)V"⟩, 35) := ⟨⟨by decide +kernel, by decide +kernel⟩, List.mem_of_getElem? (i := 827) (by decide +kernel), List.mem_of_getElem? (i := 1095) (by decide +kernel), List.mem_of_getElem? (i := 1096) (by decide +kernel)⟩
def lw_privs_2 : List (MethodName × Nat) := [(⟨"PretzelProofModel", "base", "(I)I"⟩, 35), (⟨"PretzelProofModel", "isOne", "(I)Z"⟩, 35), (⟨"PretzelProofModel", "loads", "(I)V"⟩, 35), (⟨"PretzelProofModel", "passes", "(I)I"⟩, 35), (⟨"PretzelProofModel", "moveOf", "(I)I"⟩, 35), (⟨"PretzelProofModel", "leaves", "(I)V"⟩, 35), (⟨"PretzelProofModel", "isMove", "(IIII)Z"⟩, 35), (⟨"PretzelProofModel", "isBeside", "(II)Z"⟩, 35), (⟨"PretzelProofModel", "shaken", "(II)I"⟩, 35), (⟨"PretzelProofModel", "shakes", "(I)V"⟩, 35), (⟨"PretzelProofModel", "comesTo", "(III)V"⟩, 35), (⟨"PretzelProofModel", "crossings", "(I)I"⟩, 35), (⟨"PretzelProofModel", "parts", "()V"⟩, 35), (⟨"PretzelProofModel", "isWay", "(I)Z"⟩, 35), (⟨"PretzelProofModel", "colours", "(I)I"⟩, 35), (⟨"PretzelProofModel", "swaps", "(II)V"⟩, 35)]
theorem lw_r2 : ∀ q ∈ lw_privs_2, lw_okq q := List.forall_mem_cons.mpr ⟨lw_p16, List.forall_mem_cons.mpr ⟨lw_p17, List.forall_mem_cons.mpr ⟨lw_p18, List.forall_mem_cons.mpr ⟨lw_p19, List.forall_mem_cons.mpr ⟨lw_p20, List.forall_mem_cons.mpr ⟨lw_p21, List.forall_mem_cons.mpr ⟨lw_p22, List.forall_mem_cons.mpr ⟨lw_p23, List.forall_mem_cons.mpr ⟨lw_p24, List.forall_mem_cons.mpr ⟨lw_p25, List.forall_mem_cons.mpr ⟨lw_p26, List.forall_mem_cons.mpr ⟨lw_p27, List.forall_mem_cons.mpr ⟨lw_p28, List.forall_mem_cons.mpr ⟨lw_p29, List.forall_mem_cons.mpr ⟨lw_p30, List.forall_mem_cons.mpr ⟨lw_p31, fun _ h => absurd h List.not_mem_nil⟩⟩⟩⟩⟩⟩⟩⟩⟩⟩⟩⟩⟩⟩⟩⟩
theorem lw_p32 : lw_okq (⟨"PretzelProofModel", "clears", "(IIII)V"⟩, 35) := ⟨⟨by decide +kernel, by decide +kernel⟩, List.mem_of_getElem? (i := 827) (by decide +kernel), List.mem_of_getElem? (i := 1099) (by decide +kernel), List.mem_of_getElem? (i := 1100) (by decide +kernel)⟩
theorem lw_p33 : lw_okq (⟨"PretzelProofModel", "weak", "()I"⟩, 35) := ⟨⟨by decide +kernel, by decide +kernel⟩, List.mem_of_getElem? (i := 827) (by decide +kernel), List.mem_of_getElem? (i := 1103) (by decide +kernel), List.mem_of_getElem? (i := 1104) (by decide +kernel)⟩
theorem lw_p34 : lw_okq (⟨"PretzelProofModel", "isOut", "(I)Z"⟩, 35) := ⟨⟨by decide +kernel, by decide +kernel⟩, List.mem_of_getElem? (i := 827) (by decide +kernel), List.mem_of_getElem? (i := 1107) (by decide +kernel), List.mem_of_getElem? (i := 1108) (by decide +kernel)⟩
theorem lw_p35 : lw_okq (⟨"PretzelProofModel", "turns", "(I)V"⟩, 35) := ⟨⟨by decide +kernel, by decide +kernel⟩, List.mem_of_getElem? (i := 827) (by decide +kernel), List.mem_of_getElem? (i := 1111) (by decide +kernel), List.mem_of_getElem? (i := 1112) (by decide +kernel)⟩
theorem lw_p36 : lw_okq (⟨"PretzelProofModel", "switches", "()I"⟩, 35) := ⟨⟨by decide +kernel, by decide +kernel⟩, List.mem_of_getElem? (i := 827) (by decide +kernel), List.mem_of_getElem? (i := 1115) (by decide +kernel), List.mem_of_getElem? (i := 1116) (by decide +kernel)⟩
theorem lw_p37 : lw_okq (⟨"PretzelProofModel", "odd", "()I"⟩, 35) := ⟨⟨by decide +kernel, by decide +kernel⟩, List.mem_of_getElem? (i := 827) (by decide +kernel), List.mem_of_getElem? (i := 1119) (by decide +kernel), List.mem_of_getElem? (i := 1120) (by decide +kernel)⟩
theorem lw_p38 : lw_okq (⟨"PretzelProofModel", "inside", "(I)I"⟩, 35) := ⟨⟨by decide +kernel, by decide +kernel⟩, List.mem_of_getElem? (i := 827) (by decide +kernel), List.mem_of_getElem? (i := 1123) (by decide +kernel), List.mem_of_getElem? (i := 1124) (by decide +kernel)⟩
theorem lw_p39 : lw_okq (⟨"PretzelProofModel", "isCrossing", "(II)Z"⟩, 35) := ⟨⟨by decide +kernel, by decide +kernel⟩, List.mem_of_getElem? (i := 827) (by decide +kernel), List.mem_of_getElem? (i := 1135) (by decide +kernel), List.mem_of_getElem? (i := 1136) (by decide +kernel)⟩
theorem lw_p40 : lw_okq (⟨"PretzelProofModel", "isTwo", "(II)Z"⟩, 35) := ⟨⟨by decide +kernel, by decide +kernel⟩, List.mem_of_getElem? (i := 827) (by decide +kernel), List.mem_of_getElem? (i := 1143) (by decide +kernel), List.mem_of_getElem? (i := 1144) (by decide +kernel)⟩
theorem lw_p41 : lw_okq (⟨"PretzelProofModel", "reverses", "()V"⟩, 35) := ⟨⟨by decide +kernel, by decide +kernel⟩, List.mem_of_getElem? (i := 827) (by decide +kernel), List.mem_of_getElem? (i := 1147) (by decide +kernel), List.mem_of_getElem? (i := 1148) (by decide +kernel)⟩
theorem lw_p42 : lw_okq (⟨"PretzelProofModel", "isSame", "(I)Z"⟩, 35) := ⟨⟨by decide +kernel, by decide +kernel⟩, List.mem_of_getElem? (i := 827) (by decide +kernel), List.mem_of_getElem? (i := 1151) (by decide +kernel), List.mem_of_getElem? (i := 1152) (by decide +kernel)⟩
theorem lw_p43 : lw_okq (⟨"PretzelProofModel", "known", "()V"⟩, 35) := ⟨⟨by decide +kernel, by decide +kernel⟩, List.mem_of_getElem? (i := 827) (by decide +kernel), List.mem_of_getElem? (i := 1168) (by decide +kernel), List.mem_of_getElem? (i := 1169) (by decide +kernel)⟩
theorem lw_p44 : lw_okq (⟨"PretzelProofModel", "copies", "(II)V"⟩, 35) := ⟨⟨by decide +kernel, by decide +kernel⟩, List.mem_of_getElem? (i := 827) (by decide +kernel), List.mem_of_getElem? (i := 1172) (by decide +kernel), List.mem_of_getElem? (i := 1173) (by decide +kernel)⟩
theorem lw_p45 : lw_okq (⟨"PretzelProofModel", "drops", "(I)V"⟩, 35) := ⟨⟨by decide +kernel, by decide +kernel⟩, List.mem_of_getElem? (i := 827) (by decide +kernel), List.mem_of_getElem? (i := 1176) (by decide +kernel), List.mem_of_getElem? (i := 1177) (by decide +kernel)⟩
theorem lw_p46 : lw_okq (⟨"PretzelProofModel", "curls", "(IIZ)V"⟩, 35) := ⟨⟨by decide +kernel, by decide +kernel⟩, List.mem_of_getElem? (i := 827) (by decide +kernel), List.mem_of_getElem? (i := 1184) (by decide +kernel), List.mem_of_getElem? (i := 1185) (by decide +kernel)⟩
theorem lw_p47 : lw_okq (⟨"PretzelProofModel", "rolls", "(I)V"⟩, 35) := ⟨⟨by decide +kernel, by decide +kernel⟩, List.mem_of_getElem? (i := 827) (by decide +kernel), List.mem_of_getElem? (i := 1204) (by decide +kernel), List.mem_of_getElem? (i := 1205) (by decide +kernel)⟩
def lw_privs_3 : List (MethodName × Nat) := [(⟨"PretzelProofModel", "clears", "(IIII)V"⟩, 35), (⟨"PretzelProofModel", "weak", "()I"⟩, 35), (⟨"PretzelProofModel", "isOut", "(I)Z"⟩, 35), (⟨"PretzelProofModel", "turns", "(I)V"⟩, 35), (⟨"PretzelProofModel", "switches", "()I"⟩, 35), (⟨"PretzelProofModel", "odd", "()I"⟩, 35), (⟨"PretzelProofModel", "inside", "(I)I"⟩, 35), (⟨"PretzelProofModel", "isCrossing", "(II)Z"⟩, 35), (⟨"PretzelProofModel", "isTwo", "(II)Z"⟩, 35), (⟨"PretzelProofModel", "reverses", "()V"⟩, 35), (⟨"PretzelProofModel", "isSame", "(I)Z"⟩, 35), (⟨"PretzelProofModel", "known", "()V"⟩, 35), (⟨"PretzelProofModel", "copies", "(II)V"⟩, 35), (⟨"PretzelProofModel", "drops", "(I)V"⟩, 35), (⟨"PretzelProofModel", "curls", "(IIZ)V"⟩, 35), (⟨"PretzelProofModel", "rolls", "(I)V"⟩, 35)]
theorem lw_r3 : ∀ q ∈ lw_privs_3, lw_okq q := List.forall_mem_cons.mpr ⟨lw_p32, List.forall_mem_cons.mpr ⟨lw_p33, List.forall_mem_cons.mpr ⟨lw_p34, List.forall_mem_cons.mpr ⟨lw_p35, List.forall_mem_cons.mpr ⟨lw_p36, List.forall_mem_cons.mpr ⟨lw_p37, List.forall_mem_cons.mpr ⟨lw_p38, List.forall_mem_cons.mpr ⟨lw_p39, List.forall_mem_cons.mpr ⟨lw_p40, List.forall_mem_cons.mpr ⟨lw_p41, List.forall_mem_cons.mpr ⟨lw_p42, List.forall_mem_cons.mpr ⟨lw_p43, List.forall_mem_cons.mpr ⟨lw_p44, List.forall_mem_cons.mpr ⟨lw_p45, List.forall_mem_cons.mpr ⟨lw_p46, List.forall_mem_cons.mpr ⟨lw_p47, fun _ h => absurd h List.not_mem_nil⟩⟩⟩⟩⟩⟩⟩⟩⟩⟩⟩⟩⟩⟩⟩⟩
theorem lw_p48 : lw_okq (⟨"PretzelProofModel", "drifts", "()V"⟩, 35) := ⟨⟨by decide +kernel, by decide +kernel⟩, List.mem_of_getElem? (i := 827) (by decide +kernel), List.mem_of_getElem? (i := 1222) (by decide +kernel), List.mem_of_getElem? (i := 1223) (by decide +kernel)⟩
theorem lw_p49 : lw_okq (⟨"PretzelProofModel", "draw", "(I)I"⟩, 35) := ⟨⟨by decide +kernel, by decide +kernel⟩, List.mem_of_getElem? (i := 827) (by decide +kernel), List.mem_of_getElem? (i := 1226) (by decide +kernel), List.mem_of_getElem? (i := 1227) (by decide +kernel)⟩
def lw_privs_4 : List (MethodName × Nat) := [(⟨"PretzelProofModel", "drifts", "()V"⟩, 35), (⟨"PretzelProofModel", "draw", "(I)I"⟩, 35)]
theorem lw_r4 : ∀ q ∈ lw_privs_4, lw_okq q := List.forall_mem_cons.mpr ⟨lw_p48, List.forall_mem_cons.mpr ⟨lw_p49, fun _ h => absurd h List.not_mem_nil⟩⟩
def lw_privs : List (MethodName × Nat) := lw_privs_1 ++ (lw_privs_2 ++ (lw_privs_3 ++ (lw_privs_4)))
def lw_tbl : List Cond := k2_sels lw_privs ++ tables_1
theorem lw_privs_ok : ∀ q ∈ lw_privs, lw_okq q := by
  show ∀ q ∈ lw_privs_1 ++ (lw_privs_2 ++ (lw_privs_3 ++ (lw_privs_4))), lw_okq q
  exact List.forall_mem_append.mpr ⟨lw_r1, List.forall_mem_append.mpr ⟨lw_r2, List.forall_mem_append.mpr ⟨lw_r3, lw_r4⟩⟩⟩
/-! ===== BEGIN printed: names, fields, word lists, decode rows ===== -/
def RX0 : String := "PretzelProof$Book"
def TX0 : u_T := fun k => match k with
  | 0 => ("PretzelProof$Book", "pretzels", "[I", true)
  | 1 => ("PretzelProof$Book", "crossings", "[I", true)
  | _ => ("PretzelProof$Book", "entries", "I", false)
def tyX0 : Nat → FieldType := fun k => match k with
  | 0 => .array .int
  | 1 => .array .int
  | _ => .int
abbrev wsX00 : List Cond := u_ws RX0 TX0 3
theorem nmX0 : ∀ a, a < 3 → ∀ b, b < 3 → a ≠ b → (TX0 a).2.1 ≠ (TX0 b).2.1 := by decide +kernel
theorem tyX0_ok : ∀ k, k < 3 → parseFieldDescriptor (TX0 k).2.2.1 = some (tyX0 k) := by decide +kernel
abbrev cX0_init : ByteArray := prog_2_method_1_code
def yX0_init : MethodName := ⟨RX0, "<init>", "()V"⟩
abbrev cX0_addEntry : ByteArray := prog_2_method_2_code
def yX0_addEntry : MethodName := ⟨RX0, "addEntry", "(II)Z"⟩
abbrev cX0_firstWrong : ByteArray := prog_2_method_3_code
def yX0_firstWrong : MethodName := ⟨RX0, "firstWrong", "(LPretzelProof$Tray;)I"⟩
def RX1 : String := "PretzelProof$Colours"
def TX1 : u_T := fun k => match k with
  | 0 => ("PretzelProof$Colours", "rows", "[[I", true)
  | 1 => ("PretzelProof$Colours", "overParts", "[I", true)
  | 2 => ("PretzelProof$Colours", "beginningParts", "[I", true)
  | 3 => ("PretzelProof$Colours", "pivotRows", "[I", true)
  | 4 => ("PretzelProof$Colours", "parts", "I", false)
  | _ => ("PretzelProof$Colours", "rank", "I", false)
def tyX1 : Nat → FieldType := fun k => match k with
  | 0 => .array (.array .int)
  | 1 => .array .int
  | 2 => .array .int
  | 3 => .array .int
  | 4 => .int
  | _ => .int
abbrev wsX10 : List Cond := u_ws RX1 TX1 6
theorem nmX1 : ∀ a, a < 6 → ∀ b, b < 6 → a ≠ b → (TX1 a).2.1 ≠ (TX1 b).2.1 := by decide +kernel
theorem tyX1_ok : ∀ k, k < 6 → parseFieldDescriptor (TX1 k).2.2.1 = some (tyX1 k) := by decide +kernel
abbrev cX1_init : ByteArray := prog_3_method_1_code
def yX1_init : MethodName := ⟨RX1, "<init>", "()V"⟩
abbrev cX1_waysBy : ByteArray := prog_3_method_2_code
def yX1_waysBy : MethodName := ⟨RX1, "waysBy", "(LPretzelProof$Rope;I)I"⟩
abbrev cX1_firstColourOf : ByteArray := prog_3_method_3_code
def yX1_firstColourOf : MethodName := ⟨RX1, "firstColourOf", "(LPretzelProof$Rope;I)I"⟩
abbrev cX1_solve : ByteArray := prog_3_method_4_code
def yX1_solve : MethodName := ⟨RX1, "solve", "(LPretzelProof$Rope;I)V"⟩
abbrev cX1_findParts : ByteArray := prog_3_method_5_code
def yX1_findParts : MethodName := ⟨RX1, "findParts", "(LPretzelProof$Rope;)V"⟩
abbrev cX1_writeRows : ByteArray := prog_3_method_6_code
def yX1_writeRows : MethodName := ⟨RX1, "writeRows", "(LPretzelProof$Rope;I)V"⟩
abbrev cX1_addTo : ByteArray := prog_3_method_7_code
def yX1_addTo : MethodName := ⟨RX1, "addTo", "(IIII)V"⟩
abbrev cX1_rowWith : ByteArray := prog_3_method_8_code
def yX1_rowWith : MethodName := ⟨RX1, "rowWith", "(II)I"⟩
abbrev cX1_exchangeRows : ByteArray := prog_3_method_9_code
def yX1_exchangeRows : MethodName := ⟨RX1, "exchangeRows", "(II)V"⟩
abbrev cX1_scaleRow : ByteArray := prog_3_method_10_code
def yX1_scaleRow : MethodName := ⟨RX1, "scaleRow", "(III)V"⟩
abbrev cX1_clearOthers : ByteArray := prog_3_method_11_code
def yX1_clearOthers : MethodName := ⟨RX1, "clearOthers", "(IIII)V"⟩
def RX2 : String := "PretzelProof$History"
def TX2 : u_T := fun k => match k with
  | 0 => ("PretzelProof$History", "ahead", "[LPretzelProof$Tray;", true)
  | 1 => ("PretzelProof$History", "next", "I", false)
  | _ => ("PretzelProof$History", "count", "I", false)
def tyX2 : Nat → FieldType := fun k => match k with
  | 0 => .array (.object "PretzelProof$Tray")
  | 1 => .int
  | _ => .int
abbrev wsX20 : List Cond := u_ws RX2 TX2 3
theorem nmX2 : ∀ a, a < 3 → ∀ b, b < 3 → a ≠ b → (TX2 a).2.1 ≠ (TX2 b).2.1 := by decide +kernel
theorem tyX2_ok : ∀ k, k < 3 → parseFieldDescriptor (TX2 k).2.2.1 = some (tyX2 k) := by decide +kernel
abbrev cX2_init : ByteArray := prog_4_method_1_code
def yX2_init : MethodName := ⟨RX2, "<init>", "(LPretzelProof$Numbering;)V"⟩
abbrev cX2_forgetAll : ByteArray := prog_4_method_2_code
def yX2_forgetAll : MethodName := ⟨RX2, "forgetAll", "()V"⟩
abbrev cX2_remember : ByteArray := prog_4_method_3_code
def yX2_remember : MethodName := ⟨RX2, "remember", "(LPretzelProof$Tray;)V"⟩
abbrev cX2_restore : ByteArray := prog_4_method_4_code
def yX2_restore : MethodName := ⟨RX2, "restore", "(LPretzelProof$Tray;)Z"⟩
def RX3 : String := "PretzelProof$MoveList"
def TX3 : u_T := fun k => match k with
  | 0 => ("PretzelProof$MoveList", "row", "[I", true)
  | 1 => ("PretzelProof$MoveList", "oversBeside", "[I", true)
  | 2 => ("PretzelProof$MoveList", "undersBeside", "[I", true)
  | 3 => ("PretzelProof$MoveList", "numbers", "[I", true)
  | 4 => ("PretzelProof$MoveList", "curls", "I", false)
  | _ => ("PretzelProof$MoveList", "count", "I", false)
def tyX3 : Nat → FieldType := fun k => match k with
  | 0 => .array .int
  | 1 => .array .int
  | 2 => .array .int
  | 3 => .array .int
  | 4 => .int
  | _ => .int
abbrev wsX30 : List Cond := u_ws RX3 TX3 6
theorem nmX3 : ∀ a, a < 6 → ∀ b, b < 6 → a ≠ b → (TX3 a).2.1 ≠ (TX3 b).2.1 := by decide +kernel
theorem tyX3_ok : ∀ k, k < 6 → parseFieldDescriptor (TX3 k).2.2.1 = some (tyX3 k) := by decide +kernel
abbrev cX3_init : ByteArray := prog_5_method_1_code
def yX3_init : MethodName := ⟨RX3, "<init>", "()V"⟩
abbrev cX3_lookNow : ByteArray := prog_5_method_2_code
def yX3_lookNow : MethodName := ⟨RX3, "lookNow", "(LPretzelProof$Rope;)V"⟩
abbrev cX3_lookAt : ByteArray := prog_5_method_3_code
def yX3_lookAt : MethodName := ⟨RX3, "lookAt", "(LPretzelProof$Rope;III)V"⟩
abbrev cX3_moveAt : ByteArray := prog_5_method_4_code
def yX3_moveAt : MethodName := ⟨RX3, "moveAt", "(I)I"⟩
abbrev cX3_contains : ByteArray := prog_5_method_5_code
def yX3_contains : MethodName := ⟨RX3, "contains", "(I)Z"⟩
abbrev cX3_leftOf : ByteArray := prog_5_method_6_code
def yX3_leftOf : MethodName := ⟨RX3, "leftOf", "(LPretzelProof$Rope;III)I"⟩
abbrev cX3_leftByCurls : ByteArray := prog_5_method_7_code
def yX3_leftByCurls : MethodName := ⟨RX3, "leftByCurls", "(LPretzelProof$Rope;)I"⟩
abbrev cX3_takeRow : ByteArray := prog_5_method_8_code
def yX3_takeRow : MethodName := ⟨RX3, "takeRow", "(LPretzelProof$Rope;II)I"⟩
abbrev cX3_seeNeighbours : ByteArray := prog_5_method_9_code
def yX3_seeNeighbours : MethodName := ⟨RX3, "seeNeighbours", "(I)V"⟩
abbrev cX3_listMoves : ByteArray := prog_5_method_10_code
def yX3_listMoves : MethodName := ⟨RX3, "listMoves", "(I)V"⟩
def RX4 : String := "PretzelProof$Numbering"
def TX4 : u_T := fun k => match k with
  | 0 => ("PretzelProof$Numbering", "numbers", "[I", true)
  | 1 => ("PretzelProof$Numbering", "known", "I", false)
  | _ => ("PretzelProof$Numbering", "given", "I", false)
def tyX4 : Nat → FieldType := fun k => match k with
  | 0 => .array .int
  | 1 => .int
  | _ => .int
abbrev wsX40 : List Cond := u_ws RX4 TX4 3
theorem nmX4 : ∀ a, a < 3 → ∀ b, b < 3 → a ≠ b → (TX4 a).2.1 ≠ (TX4 b).2.1 := by decide +kernel
theorem tyX4_ok : ∀ k, k < 3 → parseFieldDescriptor (TX4 k).2.2.1 = some (tyX4 k) := by decide +kernel
abbrev cX4_init : ByteArray := prog_6_method_1_code
def yX4_init : MethodName := ⟨RX4, "<init>", "()V"⟩
abbrev cX4_begin : ByteArray := prog_6_method_2_code
def yX4_begin : MethodName := ⟨RX4, "begin", "()V"⟩
abbrev cX4_knows : ByteArray := prog_6_method_3_code
def yX4_knows : MethodName := ⟨RX4, "knows", "(I)Z"⟩
abbrev cX4_numberOf : ByteArray := prog_6_method_4_code
def yX4_numberOf : MethodName := ⟨RX4, "numberOf", "(I)I"⟩
def RX5 : String := "PretzelProof$Reader"
def TX5 : u_T := fun k => match k with
  | 0 => ("PretzelProof$Reader", "text", "[I", true)
  | 1 => ("PretzelProof$Reader", "draft", "LPretzelProof$Tray;", true)
  | 2 => ("PretzelProof$Reader", "names", "LPretzelProof$Numbering;", true)
  | 3 => ("PretzelProof$Reader", "row", "[I", true)
  | 4 => ("PretzelProof$Reader", "letters", "I", false)
  | 5 => ("PretzelProof$Reader", "place", "I", false)
  | 6 => ("PretzelProof$Reader", "figures", "I", false)
  | 7 => ("PretzelProof$Reader", "firstFigure", "I", false)
  | 8 => ("PretzelProof$Reader", "greats", "I", false)
  | 9 => ("PretzelProof$Reader", "smalls", "I", false)
  | 10 => ("PretzelProof$Reader", "faultAt", "I", false)
  | _ => ("PretzelProof$Reader", "hasTray", "Z", false)
def tyX5 : Nat → FieldType := fun k => match k with
  | 0 => .array .int
  | 1 => .object "PretzelProof$Tray"
  | 2 => .object "PretzelProof$Numbering"
  | 3 => .array .int
  | 4 => .int
  | 5 => .int
  | 6 => .int
  | 7 => .int
  | 8 => .int
  | 9 => .int
  | 10 => .int
  | _ => .boolean
abbrev wsX50 : List Cond := u_ws RX5 TX5 12
theorem nmX5 : ∀ a, a < 12 → ∀ b, b < 12 → a ≠ b → (TX5 a).2.1 ≠ (TX5 b).2.1 := by decide +kernel
theorem tyX5_ok : ∀ k, k < 12 → parseFieldDescriptor (TX5 k).2.2.1 = some (tyX5 k) := by decide +kernel
abbrev cX5_init : ByteArray := prog_7_method_1_code
def yX5_init : MethodName := ⟨RX5, "<init>", "(LPretzelProof$Tray;)V"⟩
abbrev cX5_addLetter : ByteArray := prog_7_method_2_code
def yX5_addLetter : MethodName := ⟨RX5, "addLetter", "(I)Z"⟩
abbrev cX5_readText : ByteArray := prog_7_method_3_code
def yX5_readText : MethodName := ⟨RX5, "readText", "()I"⟩
abbrev cX5_readBlank : ByteArray := prog_7_method_4_code
def yX5_readBlank : MethodName := ⟨RX5, "readBlank", "()I"⟩
abbrev cX5_readLetter : ByteArray := prog_7_method_5_code
def yX5_readLetter : MethodName := ⟨RX5, "readLetter", "(II)I"⟩
abbrev cX5_readStart : ByteArray := prog_7_method_6_code
def yX5_readStart : MethodName := ⟨RX5, "readStart", "(I)I"⟩
abbrev cX5_readFirstFigure : ByteArray := prog_7_method_7_code
def yX5_readFirstFigure : MethodName := ⟨RX5, "readFirstFigure", "(II)I"⟩
abbrev cX5_readNumber : ByteArray := prog_7_method_8_code
def yX5_readNumber : MethodName := ⟨RX5, "readNumber", "(I)I"⟩
abbrev cX5_readNumbersEnd : ByteArray := prog_7_method_9_code
def yX5_readNumbersEnd : MethodName := ⟨RX5, "readNumbersEnd", "(I)I"⟩
abbrev cX5_readClause : ByteArray := prog_7_method_10_code
def yX5_readClause : MethodName := ⟨RX5, "readClause", "(I)I"⟩
abbrev cX5_readThread : ByteArray := prog_7_method_11_code
def yX5_readThread : MethodName := ⟨RX5, "readThread", "(I)I"⟩
abbrev cX5_readPass : ByteArray := prog_7_method_12_code
def yX5_readPass : MethodName := ⟨RX5, "readPass", "(IZ)I"⟩
abbrev cX5_readThreadsEnd : ByteArray := prog_7_method_13_code
def yX5_readThreadsEnd : MethodName := ⟨RX5, "readThreadsEnd", "()I"⟩
abbrev cX5_isFigure : ByteArray := prog_7_method_14_code
def yX5_isFigure : MethodName := ⟨RX5, "isFigure", "(I)Z"⟩
def RX6 : String := "PretzelProof$Rope"
def TX6 : u_T := fun k => match k with
  | 0 => ("PretzelProof$Rope", "numbering", "LPretzelProof$Numbering;", true)
  | 1 => ("PretzelProof$Rope", "passes", "[I", true)
  | 2 => ("PretzelProof$Rope", "crossings", "I", false)
  | _ => ("PretzelProof$Rope", "salted", "I", false)
def tyX6 : Nat → FieldType := fun k => match k with
  | 0 => .object "PretzelProof$Numbering"
  | 1 => .array .int
  | 2 => .int
  | _ => .int
abbrev wsX60 : List Cond := u_ws RX6 TX6 4
theorem nmX6 : ∀ a, a < 4 → ∀ b, b < 4 → a ≠ b → (TX6 a).2.1 ≠ (TX6 b).2.1 := by decide +kernel
theorem tyX6_ok : ∀ k, k < 4 → parseFieldDescriptor (TX6 k).2.2.1 = some (tyX6 k) := by decide +kernel
abbrev cX6_init : ByteArray := prog_8_method_1_code
def yX6_init : MethodName := ⟨RX6, "<init>", "(LPretzelProof$Numbering;)V"⟩
abbrev cX6_length : ByteArray := prog_8_method_2_code
def yX6_length : MethodName := ⟨RX6, "length", "()I"⟩
abbrev cX6_everyCrossing : ByteArray := prog_8_method_3_code
def yX6_everyCrossing : MethodName := ⟨RX6, "everyCrossing", "()I"⟩
abbrev cX6_has : ByteArray := prog_8_method_4_code
def yX6_has : MethodName := ⟨RX6, "has", "(I)Z"⟩
abbrev cX6_passAt : ByteArray := prog_8_method_5_code
def yX6_passAt : MethodName := ⟨RX6, "passAt", "(I)I"⟩
abbrev cX6_makePlain : ByteArray := prog_8_method_6_code
def yX6_makePlain : MethodName := ⟨RX6, "makePlain", "()V"⟩
abbrev cX6_copyFrom : ByteArray := prog_8_method_7_code
def yX6_copyFrom : MethodName := ⟨RX6, "copyFrom", "(LPretzelProof$Rope;)V"⟩
abbrev cX6_lay : ByteArray := prog_8_method_8_code
def yX6_lay : MethodName := ⟨RX6, "lay", "([II)V"⟩
abbrev cX6_numberAnew : ByteArray := prog_8_method_9_code
def yX6_numberAnew : MethodName := ⟨RX6, "numberAnew", "()V"⟩
abbrev cX6_takeAway : ByteArray := prog_8_method_10_code
def yX6_takeAway : MethodName := ⟨RX6, "takeAway", "(I)V"⟩
abbrev cX6_addCurl : ByteArray := prog_8_method_11_code
def yX6_addCurl : MethodName := ⟨RX6, "addCurl", "(IZ)V"⟩
abbrev cX6_switchSet : ByteArray := prog_8_method_12_code
def yX6_switchSet : MethodName := ⟨RX6, "switchSet", "(I)V"⟩
abbrev cX6_goTheOtherWay : ByteArray := prog_8_method_13_code
def yX6_goTheOtherWay : MethodName := ⟨RX6, "goTheOtherWay", "()V"⟩
abbrev cX6_rollOnce : ByteArray := prog_8_method_14_code
def yX6_rollOnce : MethodName := ⟨RX6, "rollOnce", "()V"⟩
abbrev cX6_append : ByteArray := prog_8_method_15_code
def yX6_append : MethodName := ⟨RX6, "append", "(LPretzelProof$Rope;)V"⟩
abbrev cX6_lyingIn : ByteArray := prog_8_method_16_code
def yX6_lyingIn : MethodName := ⟨RX6, "lyingIn", "(I)I"⟩
def RX7 : String := "PretzelProof$Rounds"
def TX7 : u_T := fun k => match k with
  | 0 => ("PretzelProof$Rounds", "numbering", "LPretzelProof$Numbering;", true)
  | 1 => ("PretzelProof$Rounds", "row", "[I", true)
  | _ => ("PretzelProof$Rounds", "least", "[I", true)
def tyX7 : Nat → FieldType := fun k => match k with
  | 0 => .object "PretzelProof$Numbering"
  | 1 => .array .int
  | _ => .array .int
abbrev wsX70 : List Cond := u_ws RX7 TX7 3
theorem nmX7 : ∀ a, a < 3 → ∀ b, b < 3 → a ≠ b → (TX7 a).2.1 ≠ (TX7 b).2.1 := by decide +kernel
theorem tyX7_ok : ∀ k, k < 3 → parseFieldDescriptor (TX7 k).2.2.1 = some (tyX7 k) := by decide +kernel
abbrev cX7_init : ByteArray := prog_9_method_1_code
def yX7_init : MethodName := ⟨RX7, "<init>", "(LPretzelProof$Numbering;)V"⟩
abbrev cX7_waysInto : ByteArray := prog_9_method_2_code
def yX7_waysInto : MethodName := ⟨RX7, "waysInto", "(LPretzelProof$Rope;LPretzelProof$Rope;)I"⟩
abbrev cX7_leastWordAt : ByteArray := prog_9_method_3_code
def yX7_leastWordAt : MethodName := ⟨RX7, "leastWordAt", "(LPretzelProof$Rope;I)I"⟩
abbrev cX7_comesTo : ByteArray := prog_9_method_4_code
def yX7_comesTo : MethodName := ⟨RX7, "comesTo", "(LPretzelProof$Rope;LPretzelProof$Rope;ZI)Z"⟩
abbrev cX7_goAlong : ByteArray := prog_9_method_5_code
def yX7_goAlong : MethodName := ⟨RX7, "goAlong", "(LPretzelProof$Rope;IZI)V"⟩
abbrev cX7_compare : ByteArray := prog_9_method_6_code
def yX7_compare : MethodName := ⟨RX7, "compare", "([I[II)I"⟩
def RX8 : String := "PretzelProof$Shaking"
def TX8 : u_T := fun k => match k with
  | 0 => ("PretzelProof$Shaking", "movesTo", "[I", true)
  | 1 => ("PretzelProof$Shaking", "firstTo", "[I", true)
  | 2 => ("PretzelProof$Shaking", "sets", "I", false)
  | 3 => ("PretzelProof$Shaking", "fewest", "I", false)
  | 4 => ("PretzelProof$Shaking", "fewestMoves", "I", false)
  | _ => ("PretzelProof$Shaking", "firstMove", "I", false)
def tyX8 : Nat → FieldType := fun k => match k with
  | 0 => .array .int
  | 1 => .array .int
  | 2 => .int
  | 3 => .int
  | 4 => .int
  | _ => .int
abbrev wsX80 : List Cond := u_ws RX8 TX8 6
theorem nmX8 : ∀ a, a < 6 → ∀ b, b < 6 → a ≠ b → (TX8 a).2.1 ≠ (TX8 b).2.1 := by decide +kernel
theorem tyX8_ok : ∀ k, k < 6 → parseFieldDescriptor (TX8 k).2.2.1 = some (tyX8 k) := by decide +kernel
abbrev cX8_init : ByteArray := prog_10_method_1_code
def yX8_init : MethodName := ⟨RX8, "<init>", "()V"⟩
abbrev cX8_tryAll : ByteArray := prog_10_method_2_code
def yX8_tryAll : MethodName := ⟨RX8, "tryAll", "(LPretzelProof$Rope;LPretzelProof$MoveList;)V"⟩
abbrev cX8_followMoves : ByteArray := prog_10_method_3_code
def yX8_followMoves : MethodName := ⟨RX8, "followMoves", "(IZLPretzelProof$MoveList;)V"⟩
abbrev cX8_weigh : ByteArray := prog_10_method_4_code
def yX8_weigh : MethodName := ⟨RX8, "weigh", "(I)V"⟩
def RX9 : String := "PretzelProof$Tray"
def TX9 : u_T := fun k => match k with
  | 0 => ("PretzelProof$Tray", "ropes", "[LPretzelProof$Rope;", true)
  | 1 => ("PretzelProof$Tray", "pretzels", "I", false)
  | _ => ("PretzelProof$Tray", "grains", "I", false)
def tyX9 : Nat → FieldType := fun k => match k with
  | 0 => .array (.object "PretzelProof$Rope")
  | 1 => .int
  | _ => .int
abbrev wsX90 : List Cond := u_ws RX9 TX9 3
theorem nmX9 : ∀ a, a < 3 → ∀ b, b < 3 → a ≠ b → (TX9 a).2.1 ≠ (TX9 b).2.1 := by decide +kernel
theorem tyX9_ok : ∀ k, k < 3 → parseFieldDescriptor (TX9 k).2.2.1 = some (tyX9 k) := by decide +kernel
abbrev cX9_init : ByteArray := prog_11_method_1_code
def yX9_init : MethodName := ⟨RX9, "<init>", "(LPretzelProof$Numbering;)V"⟩
abbrev cX9_ropeOf : ByteArray := prog_11_method_2_code
def yX9_ropeOf : MethodName := ⟨RX9, "ropeOf", "(I)LPretzelProof$Rope;"⟩
abbrev cX9_copyFrom : ByteArray := prog_11_method_3_code
def yX9_copyFrom : MethodName := ⟨RX9, "copyFrom", "(LPretzelProof$Tray;)V"⟩
abbrev cX9_crossingsOfAll : ByteArray := prog_11_method_4_code
def yX9_crossingsOfAll : MethodName := ⟨RX9, "crossingsOfAll", "()I"⟩
abbrev cX9_saltedOfAll : ByteArray := prog_11_method_5_code
def yX9_saltedOfAll : MethodName := ⟨RX9, "saltedOfAll", "()I"⟩
abbrev cX9_plainOnes : ByteArray := prog_11_method_6_code
def yX9_plainOnes : MethodName := ⟨RX9, "plainOnes", "()I"⟩
def RX10 : String := "PretzelProof"
def TX10 : u_T := fun k => match k with
  | 0 => ("PretzelProof", "reader", "LPretzelProof$Reader;", true)
  | 1 => ("PretzelProof", "now", "LPretzelProof$Tray;", true)
  | 2 => ("PretzelProof", "history", "LPretzelProof$History;", true)
  | 3 => ("PretzelProof", "images", "[LPretzelProof$Tray;", true)
  | 4 => ("PretzelProof", "imageSeeds", "[I", true)
  | 5 => ("PretzelProof", "book", "LPretzelProof$Book;", true)
  | 6 => ("PretzelProof", "moveList", "LPretzelProof$MoveList;", true)
  | 7 => ("PretzelProof", "shaking", "LPretzelProof$Shaking;", true)
  | 8 => ("PretzelProof", "colours", "LPretzelProof$Colours;", true)
  | 9 => ("PretzelProof", "rounds", "LPretzelProof$Rounds;", true)
  | 10 => ("PretzelProof", "laid", "Z", false)
  | 11 => ("PretzelProof", "imagesKept", "I", false)
  | 12 => ("PretzelProof", "faultAt", "I", false)
  | _ => ("PretzelProof", "drawn", "I", false)
def tyX10 : Nat → FieldType := fun k => match k with
  | 0 => .object "PretzelProof$Reader"
  | 1 => .object "PretzelProof$Tray"
  | 2 => .object "PretzelProof$History"
  | 3 => .array (.object "PretzelProof$Tray")
  | 4 => .array .int
  | 5 => .object "PretzelProof$Book"
  | 6 => .object "PretzelProof$MoveList"
  | 7 => .object "PretzelProof$Shaking"
  | 8 => .object "PretzelProof$Colours"
  | 9 => .object "PretzelProof$Rounds"
  | 10 => .boolean
  | 11 => .int
  | 12 => .int
  | _ => .int
abbrev wsX100 : List Cond := u_ws RX10 TX10 14
theorem nmX10 : ∀ a, a < 14 → ∀ b, b < 14 → a ≠ b → (TX10 a).2.1 ≠ (TX10 b).2.1 := by decide +kernel
theorem tyX10_ok : ∀ k, k < 14 → parseFieldDescriptor (TX10 k).2.2.1 = some (tyX10 k) := by decide +kernel
abbrev cX10_init : ByteArray := prog_1_method_1_code
def yX10_init : MethodName := ⟨RX10, "<init>", "()V"⟩
abbrev cX10_feed : ByteArray := prog_1_method_2_code
def yX10_feed : MethodName := ⟨RX10, "feed", "(I)I"⟩
abbrev cX10_tray : ByteArray := prog_1_method_3_code
def yX10_tray : MethodName := ⟨RX10, "tray", "()I"⟩
abbrev cX10_fault : ByteArray := prog_1_method_4_code
def yX10_fault : MethodName := ⟨RX10, "fault", "()I"⟩
abbrev cX10_told : ByteArray := prog_1_method_5_code
def yX10_told : MethodName := ⟨RX10, "told", "(I)I"⟩
abbrev cX10_pretzel : ByteArray := prog_1_method_6_code
def yX10_pretzel : MethodName := ⟨RX10, "pretzel", "(II)I"⟩
abbrev cX10_pass : ByteArray := prog_1_method_7_code
def yX10_pass : MethodName := ⟨RX10, "pass", "(II)I"⟩
abbrev cX10_moves : ByteArray := prog_1_method_8_code
def yX10_moves : MethodName := ⟨RX10, "moves", "(II)I"⟩
abbrev cX10_shake : ByteArray := prog_1_method_9_code
def yX10_shake : MethodName := ⟨RX10, "shake", "(III)I"⟩
abbrev cX10_curl : ByteArray := prog_1_method_10_code
def yX10_curl : MethodName := ⟨RX10, "curl", "(IIZ)I"⟩
abbrev cX10_turn : ByteArray := prog_1_method_11_code
def yX10_turn : MethodName := ⟨RX10, "turn", "(II)I"⟩
abbrev cX10_reverse : ByteArray := prog_1_method_12_code
def yX10_reverse : MethodName := ⟨RX10, "reverse", "(I)I"⟩
abbrev cX10_mirror : ByteArray := prog_1_method_13_code
def yX10_mirror : MethodName := ⟨RX10, "mirror", "(I)I"⟩
abbrev cX10_roll : ByteArray := prog_1_method_14_code
def yX10_roll : MethodName := ⟨RX10, "roll", "(I)I"⟩
abbrev cX10_join : ByteArray := prog_1_method_15_code
def yX10_join : MethodName := ⟨RX10, "join", "(II)I"⟩
abbrev cX10_salt : ByteArray := prog_1_method_16_code
def yX10_salt : MethodName := ⟨RX10, "salt", "(IIZ)I"⟩
abbrev cX10_drift : ByteArray := prog_1_method_17_code
def yX10_drift : MethodName := ⟨RX10, "drift", "(I)I"⟩
abbrev cX10_undo : ByteArray := prog_1_method_18_code
def yX10_undo : MethodName := ⟨RX10, "undo", "()I"⟩
abbrev cX10_toShake : ByteArray := prog_1_method_19_code
def yX10_toShake : MethodName := ⟨RX10, "toShake", "(II)I"⟩
abbrev cX10_within : ByteArray := prog_1_method_20_code
def yX10_within : MethodName := ⟨RX10, "within", "(II)I"⟩
abbrev cX10_same : ByteArray := prog_1_method_21_code
def yX10_same : MethodName := ⟨RX10, "same", "(II)I"⟩
abbrev cX10_tells : ByteArray := prog_1_method_22_code
def yX10_tells : MethodName := ⟨RX10, "tells", "(II)I"⟩
abbrev cX10_words : ByteArray := prog_1_method_23_code
def yX10_words : MethodName := ⟨RX10, "words", "(II)I"⟩
abbrev cX10_colour : ByteArray := prog_1_method_24_code
def yX10_colour : MethodName := ⟨RX10, "colour", "(II)I"⟩
abbrev cX10_whole : ByteArray := prog_1_method_25_code
def yX10_whole : MethodName := ⟨RX10, "whole", "(II)I"⟩
abbrev cX10_write : ByteArray := prog_1_method_26_code
def yX10_write : MethodName := ⟨RX10, "write", "(II)I"⟩
abbrev cX10_tear : ByteArray := prog_1_method_27_code
def yX10_tear : MethodName := ⟨RX10, "tear", "()I"⟩
abbrev cX10_judge : ByteArray := prog_1_method_28_code
def yX10_judge : MethodName := ⟨RX10, "judge", "()I"⟩
abbrev cX10_seed : ByteArray := prog_1_method_29_code
def yX10_seed : MethodName := ⟨RX10, "seed", "(I)I"⟩
abbrev cX10_keep : ByteArray := prog_1_method_30_code
def yX10_keep : MethodName := ⟨RX10, "keep", "(I)I"⟩
abbrev cX10_goBack : ByteArray := prog_1_method_31_code
def yX10_goBack : MethodName := ⟨RX10, "goBack", "(I)I"⟩
abbrev cX10_shakenOutOnes : ByteArray := prog_1_method_32_code
def yX10_shakenOutOnes : MethodName := ⟨RX10, "shakenOutOnes", "()I"⟩
abbrev cX10_fewestUnsalted : ByteArray := prog_1_method_33_code
def yX10_fewestUnsalted : MethodName := ⟨RX10, "fewestUnsalted", "(LPretzelProof$Rope;)I"⟩
abbrev cX10_weakOnes : ByteArray := prog_1_method_34_code
def yX10_weakOnes : MethodName := ⟨RX10, "weakOnes", "(LPretzelProof$Rope;)I"⟩
abbrev cX10_fewestSwitches : ByteArray := prog_1_method_35_code
def yX10_fewestSwitches : MethodName := ⟨RX10, "fewestSwitches", "(LPretzelProof$Rope;)I"⟩
abbrev cX10_oddOnes : ByteArray := prog_1_method_36_code
def yX10_oddOnes : MethodName := ⟨RX10, "oddOnes", "(LPretzelProof$Rope;)I"⟩
abbrev cX10_driftOnce : ByteArray := prog_1_method_37_code
def yX10_driftOnce : MethodName := ⟨RX10, "driftOnce", "()V"⟩
abbrev cX10_shakeByFirstMove : ByteArray := prog_1_method_38_code
def yX10_shakeByFirstMove : MethodName := ⟨RX10, "shakeByFirstMove", "(LPretzelProof$Rope;)V"⟩
abbrev cX10_curlByDraws : ByteArray := prog_1_method_39_code
def yX10_curlByDraws : MethodName := ⟨RX10, "curlByDraws", "(LPretzelProof$Rope;)V"⟩
abbrev cX10_draw : ByteArray := prog_1_method_40_code
def yX10_draw : MethodName := ⟨RX10, "draw", "(I)I"⟩
abbrev cX10_leftOver : ByteArray := prog_1_method_41_code
def yX10_leftOver : MethodName := ⟨RX10, "leftOver", "(II)I"⟩
abbrev cX10_isIn : ByteArray := prog_1_method_42_code
def yX10_isIn : MethodName := ⟨RX10, "isIn", "(II)Z"⟩
abbrev cX10_crossingOf : ByteArray := prog_1_method_43_code
def yX10_crossingOf : MethodName := ⟨RX10, "crossingOf", "(I)I"⟩
abbrev cX10_takenBy : ByteArray := prog_1_method_44_code
def yX10_takenBy : MethodName := ⟨RX10, "takenBy", "(I)I"⟩
def RX11 : String := "PretzelProofModel"
def TX11 : u_T := fun k => match k with
  | 0 => ("PretzelProofModel", "slot", "[I", true)
  | 1 => ("PretzelProofModel", "isTray", "Z", false)
  | 2 => ("PretzelProofModel", "acts", "I", false)
  | 3 => ("PretzelProofModel", "start", "I", false)
  | 4 => ("PretzelProofModel", "keptSeed", "[I", true)
  | 5 => ("PretzelProofModel", "keptHow", "[I", true)
  | 6 => ("PretzelProofModel", "length", "I", false)
  | 7 => ("PretzelProofModel", "text", "[B", true)
  | 8 => ("PretzelProofModel", "at", "I", false)
  | 9 => ("PretzelProofModel", "wrong", "I", false)
  | 10 => ("PretzelProofModel", "wrongAt", "I", false)
  | 11 => ("PretzelProofModel", "latest", "I", false)
  | 12 => ("PretzelProofModel", "newGrains", "I", false)
  | 13 => ("PretzelProofModel", "newMany", "I", false)
  | 14 => ("PretzelProofModel", "newLength", "[I", true)
  | 15 => ("PretzelProofModel", "newPass", "[I", true)
  | 16 => ("PretzelProofModel", "names", "[I", true)
  | 17 => ("PretzelProofModel", "entries", "I", false)
  | 18 => ("PretzelProofModel", "entryOf", "[I", true)
  | 19 => ("PretzelProofModel", "entryTold", "[I", true)
  | 20 => ("PretzelProofModel", "size", "I", false)
  | 21 => ("PretzelProofModel", "row", "[I", true)
  | 22 => ("PretzelProofModel", "other", "[I", true)
  | 23 => ("PretzelProofModel", "anew", "[I", true)
  | 24 => ("PretzelProofModel", "salts", "I", false)
  | 25 => ("PretzelProofModel", "lefts", "I", false)
  | 26 => ("PretzelProofModel", "line", "[I", true)
  | 27 => ("PretzelProofModel", "far", "[I", true)
  | 28 => ("PretzelProofModel", "by", "[I", true)
  | 29 => ("PretzelProofModel", "over", "[I", true)
  | 30 => ("PretzelProofModel", "under", "[I", true)
  | 31 => ("PretzelProofModel", "matrix", "[I", true)
  | 32 => ("PretzelProofModel", "above", "[I", true)
  | 33 => ("PretzelProofModel", "stop", "[I", true)
  | _ => ("PretzelProofModel", "hue", "[I", true)
def tyX11 : Nat → FieldType := fun k => match k with
  | 0 => .array .int
  | 1 => .boolean
  | 2 => .int
  | 3 => .int
  | 4 => .array .int
  | 5 => .array .int
  | 6 => .int
  | 7 => .array .byte
  | 8 => .int
  | 9 => .int
  | 10 => .int
  | 11 => .int
  | 12 => .int
  | 13 => .int
  | 14 => .array .int
  | 15 => .array .int
  | 16 => .array .int
  | 17 => .int
  | 18 => .array .int
  | 19 => .array .int
  | 20 => .int
  | 21 => .array .int
  | 22 => .array .int
  | 23 => .array .int
  | 24 => .int
  | 25 => .int
  | 26 => .array .int
  | 27 => .array .int
  | 28 => .array .int
  | 29 => .array .int
  | 30 => .array .int
  | 31 => .array .int
  | 32 => .array .int
  | 33 => .array .int
  | _ => .array .int
abbrev wsX110 : List Cond := u_ws RX11 TX11 35
theorem nmX11 : ∀ a, a < 35 → ∀ b, b < 35 → a ≠ b → (TX11 a).2.1 ≠ (TX11 b).2.1 := by decide +kernel
theorem tyX11_ok : ∀ k, k < 35 → parseFieldDescriptor (TX11 k).2.2.1 = some (tyX11 k) := by decide +kernel
abbrev cX11_init : ByteArray := prog_13_method_1_code
def yX11_init : MethodName := ⟨RX11, "<init>", "()V"⟩
abbrev cX11_in : ByteArray := prog_13_method_2_code
def yX11_in : MethodName := ⟨RX11, "in", "(JJJ)Z"⟩
abbrev cX11_has : ByteArray := prog_13_method_3_code
def yX11_has : MethodName := ⟨RX11, "has", "(II)Z"⟩
abbrev cX11_bits : ByteArray := prog_13_method_4_code
def yX11_bits : MethodName := ⟨RX11, "bits", "(I)I"⟩
abbrev cX11_base : ByteArray := prog_13_method_5_code
def yX11_base : MethodName := ⟨RX11, "base", "(I)I"⟩
abbrev cX11_isOne : ByteArray := prog_13_method_6_code
def yX11_isOne : MethodName := ⟨RX11, "isOne", "(I)Z"⟩
abbrev cX11_passes : ByteArray := prog_13_method_7_code
def yX11_passes : MethodName := ⟨RX11, "passes", "(I)I"⟩
abbrev cX11_crossings : ByteArray := prog_13_method_8_code
def yX11_crossings : MethodName := ⟨RX11, "crossings", "(I)I"⟩
abbrev cX11_isCrossing : ByteArray := prog_13_method_9_code
def yX11_isCrossing : MethodName := ⟨RX11, "isCrossing", "(II)Z"⟩
abbrev cX11_copies : ByteArray := prog_13_method_10_code
def yX11_copies : MethodName := ⟨RX11, "copies", "(II)V"⟩
abbrev cX11_feed : ByteArray := prog_13_method_11_code
def yX11_feed : MethodName := ⟨RX11, "feed", "(I)I"⟩
abbrev cX11_next : ByteArray := prog_13_method_12_code
def yX11_next : MethodName := ⟨RX11, "next", "()I"⟩
abbrev cX11_blames : ByteArray := prog_13_method_13_code
def yX11_blames : MethodName := ⟨RX11, "blames", "(II)V"⟩
abbrev cX11_ends : ByteArray := prog_13_method_14_code
def yX11_ends : MethodName := ⟨RX11, "ends", "()V"⟩
abbrev cX11_grains : ByteArray := prog_13_method_15_code
def yX11_grains : MethodName := ⟨RX11, "grains", "()V"⟩
abbrev cX11_nameOf : ByteArray := prog_13_method_16_code
def yX11_nameOf : MethodName := ⟨RX11, "nameOf", "(I)I"⟩
abbrev cX11_threads : ByteArray := prog_13_method_17_code
def yX11_threads : MethodName := ⟨RX11, "threads", "()V"⟩
abbrev cX11_reads : ByteArray := prog_13_method_18_code
def yX11_reads : MethodName := ⟨RX11, "reads", "()V"⟩
abbrev cX11_tray : ByteArray := prog_13_method_19_code
def yX11_tray : MethodName := ⟨RX11, "tray", "()I"⟩
abbrev cX11_fault : ByteArray := prog_13_method_20_code
def yX11_fault : MethodName := ⟨RX11, "fault", "()I"⟩
abbrev cX11_loads : ByteArray := prog_13_method_21_code
def yX11_loads : MethodName := ⟨RX11, "loads", "(I)V"⟩
abbrev cX11_numbers : ByteArray := prog_13_method_22_code
def yX11_numbers : MethodName := ⟨RX11, "numbers", "(I)I"⟩
abbrev cX11_stores : ByteArray := prog_13_method_23_code
def yX11_stores : MethodName := ⟨RX11, "stores", "(I)V"⟩
abbrev cX11_turns : ByteArray := prog_13_method_24_code
def yX11_turns : MethodName := ⟨RX11, "turns", "(I)V"⟩
abbrev cX11_reverses : ByteArray := prog_13_method_25_code
def yX11_reverses : MethodName := ⟨RX11, "reverses", "()V"⟩
abbrev cX11_drops : ByteArray := prog_13_method_26_code
def yX11_drops : MethodName := ⟨RX11, "drops", "(I)V"⟩
abbrev cX11_leaves : ByteArray := prog_13_method_27_code
def yX11_leaves : MethodName := ⟨RX11, "leaves", "(I)V"⟩
abbrev cX11_isBeside : ByteArray := prog_13_method_28_code
def yX11_isBeside : MethodName := ⟨RX11, "isBeside", "(II)Z"⟩
abbrev cX11_isMove : ByteArray := prog_13_method_29_code
def yX11_isMove : MethodName := ⟨RX11, "isMove", "(IIII)Z"⟩
abbrev cX11_without : ByteArray := prog_13_method_30_code
def yX11_without : MethodName := ⟨RX11, "without", "(III)I"⟩
abbrev cX11_shakes : ByteArray := prog_13_method_31_code
def yX11_shakes : MethodName := ⟨RX11, "shakes", "(I)V"⟩
abbrev cX11_comesTo : ByteArray := prog_13_method_32_code
def yX11_comesTo : MethodName := ⟨RX11, "comesTo", "(III)V"⟩
abbrev cX11_shaken : ByteArray := prog_13_method_33_code
def yX11_shaken : MethodName := ⟨RX11, "shaken", "(II)I"⟩
abbrev cX11_moveOf : ByteArray := prog_13_method_34_code
def yX11_moveOf : MethodName := ⟨RX11, "moveOf", "(I)I"⟩
abbrev cX11_moves : ByteArray := prog_13_method_35_code
def yX11_moves : MethodName := ⟨RX11, "moves", "(II)I"⟩
abbrev cX11_toShake : ByteArray := prog_13_method_36_code
def yX11_toShake : MethodName := ⟨RX11, "toShake", "(II)I"⟩
abbrev cX11_parts : ByteArray := prog_13_method_37_code
def yX11_parts : MethodName := ⟨RX11, "parts", "()V"⟩
abbrev cX11_left : ByteArray := prog_13_method_38_code
def yX11_left : MethodName := ⟨RX11, "left", "(II)I"⟩
abbrev cX11_colours : ByteArray := prog_13_method_39_code
def yX11_colours : MethodName := ⟨RX11, "colours", "(I)I"⟩
abbrev cX11_swaps : ByteArray := prog_13_method_40_code
def yX11_swaps : MethodName := ⟨RX11, "swaps", "(II)V"⟩
abbrev cX11_clears : ByteArray := prog_13_method_41_code
def yX11_clears : MethodName := ⟨RX11, "clears", "(IIII)V"⟩
abbrev cX11_isWay : ByteArray := prog_13_method_42_code
def yX11_isWay : MethodName := ⟨RX11, "isWay", "(I)Z"⟩
abbrev cX11_colour : ByteArray := prog_13_method_43_code
def yX11_colour : MethodName := ⟨RX11, "colour", "(II)I"⟩
abbrev cX11_isOut : ByteArray := prog_13_method_44_code
def yX11_isOut : MethodName := ⟨RX11, "isOut", "(I)Z"⟩
abbrev cX11_weak : ByteArray := prog_13_method_45_code
def yX11_weak : MethodName := ⟨RX11, "weak", "()I"⟩
abbrev cX11_switches : ByteArray := prog_13_method_46_code
def yX11_switches : MethodName := ⟨RX11, "switches", "()I"⟩
abbrev cX11_inside : ByteArray := prog_13_method_47_code
def yX11_inside : MethodName := ⟨RX11, "inside", "(I)I"⟩
abbrev cX11_odd : ByteArray := prog_13_method_48_code
def yX11_odd : MethodName := ⟨RX11, "odd", "()I"⟩
abbrev cX11_told : ByteArray := prog_13_method_49_code
def yX11_told : MethodName := ⟨RX11, "told", "(I)I"⟩
abbrev cX11_pretzel : ByteArray := prog_13_method_50_code
def yX11_pretzel : MethodName := ⟨RX11, "pretzel", "(II)I"⟩
abbrev cX11_pass : ByteArray := prog_13_method_51_code
def yX11_pass : MethodName := ⟨RX11, "pass", "(II)I"⟩
abbrev cX11_within : ByteArray := prog_13_method_52_code
def yX11_within : MethodName := ⟨RX11, "within", "(II)I"⟩
abbrev cX11_isTwo : ByteArray := prog_13_method_53_code
def yX11_isTwo : MethodName := ⟨RX11, "isTwo", "(II)Z"⟩
abbrev cX11_isSame : ByteArray := prog_13_method_54_code
def yX11_isSame : MethodName := ⟨RX11, "isSame", "(I)Z"⟩
abbrev cX11_same : ByteArray := prog_13_method_55_code
def yX11_same : MethodName := ⟨RX11, "same", "(II)I"⟩
abbrev cX11_tells : ByteArray := prog_13_method_56_code
def yX11_tells : MethodName := ⟨RX11, "tells", "(II)I"⟩
abbrev cX11_words : ByteArray := prog_13_method_57_code
def yX11_words : MethodName := ⟨RX11, "words", "(II)I"⟩
abbrev cX11_known : ByteArray := prog_13_method_58_code
def yX11_known : MethodName := ⟨RX11, "known", "()V"⟩
abbrev cX11_shake : ByteArray := prog_13_method_59_code
def yX11_shake : MethodName := ⟨RX11, "shake", "(III)I"⟩
abbrev cX11_curls : ByteArray := prog_13_method_60_code
def yX11_curls : MethodName := ⟨RX11, "curls", "(IIZ)V"⟩
abbrev cX11_curl : ByteArray := prog_13_method_61_code
def yX11_curl : MethodName := ⟨RX11, "curl", "(IIZ)I"⟩
abbrev cX11_turn : ByteArray := prog_13_method_62_code
def yX11_turn : MethodName := ⟨RX11, "turn", "(II)I"⟩
abbrev cX11_reverse : ByteArray := prog_13_method_63_code
def yX11_reverse : MethodName := ⟨RX11, "reverse", "(I)I"⟩
abbrev cX11_mirror : ByteArray := prog_13_method_64_code
def yX11_mirror : MethodName := ⟨RX11, "mirror", "(I)I"⟩
abbrev cX11_rolls : ByteArray := prog_13_method_65_code
def yX11_rolls : MethodName := ⟨RX11, "rolls", "(I)V"⟩
abbrev cX11_roll : ByteArray := prog_13_method_66_code
def yX11_roll : MethodName := ⟨RX11, "roll", "(I)I"⟩
abbrev cX11_join : ByteArray := prog_13_method_67_code
def yX11_join : MethodName := ⟨RX11, "join", "(II)I"⟩
abbrev cX11_salt : ByteArray := prog_13_method_68_code
def yX11_salt : MethodName := ⟨RX11, "salt", "(IIZ)I"⟩
abbrev cX11_draw : ByteArray := prog_13_method_69_code
def yX11_draw : MethodName := ⟨RX11, "draw", "(I)I"⟩
abbrev cX11_drifts : ByteArray := prog_13_method_70_code
def yX11_drifts : MethodName := ⟨RX11, "drifts", "()V"⟩
abbrev cX11_drift : ByteArray := prog_13_method_71_code
def yX11_drift : MethodName := ⟨RX11, "drift", "(I)I"⟩
abbrev cX11_undo : ByteArray := prog_13_method_72_code
def yX11_undo : MethodName := ⟨RX11, "undo", "()I"⟩
abbrev cX11_whole : ByteArray := prog_13_method_73_code
def yX11_whole : MethodName := ⟨RX11, "whole", "(II)I"⟩
abbrev cX11_write : ByteArray := prog_13_method_74_code
def yX11_write : MethodName := ⟨RX11, "write", "(II)I"⟩
abbrev cX11_tear : ByteArray := prog_13_method_75_code
def yX11_tear : MethodName := ⟨RX11, "tear", "()I"⟩
abbrev cX11_judge : ByteArray := prog_13_method_76_code
def yX11_judge : MethodName := ⟨RX11, "judge", "()I"⟩
abbrev cX11_seed : ByteArray := prog_13_method_77_code
def yX11_seed : MethodName := ⟨RX11, "seed", "(I)I"⟩
abbrev cX11_keep : ByteArray := prog_13_method_78_code
def yX11_keep : MethodName := ⟨RX11, "keep", "(I)I"⟩
abbrev cX11_goBack : ByteArray := prog_13_method_79_code
def yX11_goBack : MethodName := ⟨RX11, "goBack", "(I)I"⟩
def RJ6 : String := "java/lang/Integer"
def TJ6 : u_T := fun k => match k with
  | _ => ("", "", "", false)
def tyJ6 : Nat → FieldType := fun k => match k with
  | _ => .int
abbrev wsJ60 : List Cond := u_ws RJ6 TJ6 0
theorem nmJ6 : ∀ a, a < 0 → ∀ b, b < 0 → a ≠ b → (TJ6 a).2.1 ≠ (TJ6 b).2.1 := by decide +kernel
theorem tyJ6_ok : ∀ k, k < 0 → parseFieldDescriptor (TJ6 k).2.2.1 = some (tyJ6 k) := by decide +kernel
abbrev cJ6_bitCount_0f7a4 : ByteArray := prog_14_method_49_code
def yJ6_bitCount_0f7a4 : MethodName := ⟨RJ6, "bitCount", "(I)I"⟩
def RJ9 : String := "java/lang/Math"
def TJ9 : u_T := fun k => match k with
  | _ => ("", "", "", false)
def tyJ9 : Nat → FieldType := fun k => match k with
  | _ => .int
abbrev wsJ90 : List Cond := u_ws RJ9 TJ9 0
theorem nmJ9 : ∀ a, a < 0 → ∀ b, b < 0 → a ≠ b → (TJ9 a).2.1 ≠ (TJ9 b).2.1 := by decide +kernel
theorem tyJ9_ok : ∀ k, k < 0 → parseFieldDescriptor (TJ9 k).2.2.1 = some (tyJ9 k) := by decide +kernel
abbrev cJ9_max_7cf53 : ByteArray := prog_15_method_65_code
def yJ9_max_7cf53 : MethodName := ⟨RJ9, "max", "(II)I"⟩
abbrev cJ9_min_7cf53 : ByteArray := prog_15_method_69_code
def yJ9_min_7cf53 : MethodName := ⟨RJ9, "min", "(II)I"⟩
def RJ10 : String := "java/lang/System"
def TJ10 : u_T := fun k => match k with
  | _ => ("", "", "", false)
def tyJ10 : Nat → FieldType := fun k => match k with
  | _ => .int
abbrev wsJ100 : List Cond := u_ws RJ10 TJ10 0
theorem nmJ10 : ∀ a, a < 0 → ∀ b, b < 0 → a ≠ b → (TJ10 a).2.1 ≠ (TJ10 b).2.1 := by decide +kernel
theorem tyJ10_ok : ∀ k, k < 0 → parseFieldDescriptor (TJ10 k).2.2.1 = some (tyJ10 k) := by decide +kernel
def RJ7 : String := "java/util/Arrays"
def TJ7 : u_T := fun k => match k with
  | _ => ("", "", "", false)
def tyJ7 : Nat → FieldType := fun k => match k with
  | _ => .int
abbrev wsJ70 : List Cond := u_ws RJ7 TJ7 0
theorem nmJ7 : ∀ a, a < 0 → ∀ b, b < 0 → a ≠ b → (TJ7 a).2.1 ≠ (TJ7 b).2.1 := by decide +kernel
theorem tyJ7_ok : ∀ k, k < 0 → parseFieldDescriptor (TJ7 k).2.2.1 = some (tyJ7 k) := by decide +kernel
abbrev cJ7_fill_53178 : ByteArray := prog_17_method_103_code
def yJ7_fill_53178 : MethodName := ⟨RJ7, "fill", "([II)V"⟩
def RL : String := "PretzelProofLaw"
abbrev cL_law : ByteArray := code
def yL_law : MethodName := ⟨RL, "law", "([I)Z"⟩
abbrev vwCl : List vw_C := [(RX0, TX0, 3), (RX1, TX1, 6), (RX2, TX2, 3), (RX3, TX3, 6), (RX4, TX4, 3), (RX5, TX5, 12), (RX6, TX6, 4), (RX7, TX7, 3), (RX8, TX8, 6), (RX9, TX9, 3), (RX10, TX10, 14), (RX11, TX11, 35)]
end
section
def nw_all : List Cond := [.methodLinkNest "PretzelProof$Reader" 104 ⟨"PretzelProof", "isIn", "(II)Z"⟩ "PretzelProof", .methodLinkNest "PretzelProof$Numbering" 22 ⟨"PretzelProof", "isIn", "(II)Z"⟩ "PretzelProof", .methodLinkNest "PretzelProof$MoveList" 65 ⟨"PretzelProof", "crossingOf", "(I)I"⟩ "PretzelProof", .methodLinkNest "PretzelProof$MoveList" 68 ⟨"PretzelProof", "isIn", "(II)Z"⟩ "PretzelProof", .methodLinkNest "PretzelProof$MoveList" 55 ⟨"PretzelProof", "takenBy", "(I)I"⟩ "PretzelProof", .methodLinkNest "PretzelProof$Colours" 80 ⟨"PretzelProof", "crossingOf", "(I)I"⟩ "PretzelProof", .methodLinkNest "PretzelProof$Colours" 37 ⟨"PretzelProof", "leftOver", "(II)I"⟩ "PretzelProof", .methodLinkNest "PretzelProof$Rope" 50 ⟨"PretzelProof", "crossingOf", "(I)I"⟩ "PretzelProof", .methodLinkNest "PretzelProof$Rope" 57 ⟨"PretzelProof", "isIn", "(II)Z"⟩ "PretzelProof", .methodLinkNest "PretzelProof$Shaking" 70 ⟨"PretzelProof", "takenBy", "(I)I"⟩ "PretzelProof", .methodLinkNest "PretzelProof$Rounds" 62 ⟨"PretzelProof", "crossingOf", "(I)I"⟩ "PretzelProof"]
/-! an abstract machine over the kit's rows: ints as Int in range, cells by (tag, number), a heap as a function -/
abbrev AV : Type := Int ⊕ (Int ⊕ Option (Nat × Nat))
abbrev HH : Type := Nat → Nat → Nat → Int
abbrev GG : Type := va_G × (Nat → ClassId) × (Nat → Nat → Nat)
abbrev EN : Type := Nat × Instr × Nat × Nat × Nat
abbrev MD : Type := MethodName × ByteArray × Nat × Option FieldType × (Nat × Nat) × List EN
def vi (a : Int) : AV := .inl a
def vl (a : Int) : AV := .inr (.inl a)
def vr (t i : Nat) : AV := .inr (.inr (some (t, i)))
def vn : AV := .inr (.inr none)
/-- how many cells a tag has -/
def cnt (t : Nat) : Nat := match t with
  | 1 => 2 | 2 => 2 | 3 => 20 | 4 => 20 | 5 => 100 | 6 => 100 | 27 => 8 | _ => 1
/-- the class of an object's tag, by its place in vwCl -/
def ko (t : Nat) : Option Nat := match t with
  | 0 => some 10 | 1 => some 4 | 3 => some 9 | 5 => some 6 | 7 => some 5 | 10 => some 2 | 14 => some 0 | 17 => some 3 | 22 => some 8 | 25 => some 1 | 31 => some 7 | 40 => some 11 | _ => none
/-- an array's tag: its kind (0 int, 1 byte, 2 Tray, 3 Rope, 4 int rows), its length -/
def ka (t : Nat) : Option (Nat × Nat) := match t with
  | 2 => some (0, 26) | 4 => some (3, 5) | 6 => some (0, 16) | 8 => some (0, 240) | 9 => some (0, 16) | 11 => some (2, 16) | 12 => some (2, 2) | 13 => some (0, 2) | 15 => some (0, 15) | 16 => some (0, 15)
  | 18 => some (0, 16) | 19 => some (0, 8) | 20 => some (0, 8) | 21 => some (0, 36) | 23 => some (0, 256) | 24 => some (0, 256) | 26 => some (4, 8) | 27 => some (0, 8) | 28 => some (0, 8) | 29 => some (0, 8) | 30 => some (0, 8)
  | 32 => some (0, 16) | 33 => some (0, 16)
  | 41 => some (0, 1748) | 42 => some (0, 2) | 43 => some (0, 2) | 44 => some (1, 240) | 45 => some (0, 5) | 46 => some (0, 80) | 47 => some (0, 26) | 48 => some (0, 15) | 49 => some (0, 15) | 50 => some (0, 16) | 51 => some (0, 16) | 52 => some (0, 16)
  | 53 => some (0, 16) | 54 => some (0, 256) | 55 => some (0, 256) | 56 => some (0, 8) | 57 => some (0, 8) | 58 => some (0, 64) | 59 => some (0, 8) | 60 => some (0, 8) | 61 => some (0, 8)
  | _ => none
/-- the cells that cells refer to -/
def rf (t i k : Nat) : Option (Nat × Nat) := match t with
  | 0 => (match k with | 0 => some (7, 0) | 1 => some (3, 1) | 2 => some (10, 0) | 3 => some (12, 0) | 4 => some (13, 0) | 5 => some (14, 0) | 6 => some (17, 0) | 7 => some (22, 0) | 8 => some (25, 0) | 9 => some (31, 0) | _ => none)
  | 1 => (match k with | 0 => some (2, i) | _ => none)
  | 3 => (match k with | 0 => some (4, i) | _ => none)
  | 4 => some (5, 5 * i + k)
  | 5 => (match k with | 0 => some (1, 0) | 1 => some (6, i) | _ => none)
  | 7 => (match k with | 0 => some (8, 0) | 1 => some (3, 0) | 2 => some (1, 1) | 3 => some (9, 0) | _ => none)
  | 10 => (match k with | 0 => some (11, 0) | _ => none)
  | 11 => some (3, 2 + k)
  | 12 => some (3, 18 + k)
  | 14 => (match k with | 0 => some (15, 0) | 1 => some (16, 0) | _ => none)
  | 17 => (match k with | 0 => some (18, 0) | 1 => some (19, 0) | 2 => some (20, 0) | 3 => some (21, 0) | _ => none)
  | 22 => (match k with | 0 => some (23, 0) | 1 => some (24, 0) | _ => none)
  | 25 => (match k with | 0 => some (26, 0) | 1 => some (28, 0) | 2 => some (29, 0) | 3 => some (30, 0) | _ => none)
  | 26 => some (27, k)
  | 31 => (match k with | 0 => some (1, 0) | 1 => some (32, 0) | 2 => some (33, 0) | _ => none)
  | 40 => (match k with | 0 => some (41, 0) | 4 => some (42, 0) | 5 => some (43, 0) | 7 => some (44, 0) | 14 => some (45, 0) | 15 => some (46, 0) | 16 => some (47, 0) | 18 => some (48, 0) | 19 => some (49, 0) | 21 => some (50, 0) | 22 => some (51, 0) | 23 => some (52, 0) | 26 => some (53, 0) | 27 => some (54, 0) | 28 => some (55, 0) | 29 => some (56, 0) | 30 => some (57, 0) | 31 => some (58, 0) | 32 => some (59, 0) | 33 => some (60, 0) | 34 => some (61, 0) | _ => none)
  | _ => none
def tg_all : List Nat := [0, 1, 2, 3, 4, 5, 6, 7, 8, 9, 10, 11, 12, 13, 14, 15, 16, 17, 18, 19, 20, 21, 22, 23, 24, 25, 26, 27, 28, 29, 30, 31, 32, 33, 40, 41, 42, 43, 44, 45, 46, 47, 48, 49, 50, 51, 52, 53, 54, 55, 56, 57, 58, 59, 60, 61]
def cs : List (Nat × Nat) := tg_all.flatMap fun t => (List.range (cnt t)).map fun i => (t, i)
def vt (t i : Nat) : Prop := t ∈ tg_all ∧ i < cnt t
theorem cs_mem {t i : Nat} (h : vt t i) : (t, i) ∈ cs := List.mem_flatMap.mpr ⟨t, h.1, List.mem_map.mpr ⟨i, List.mem_range.mpr h.2, rfl⟩⟩
def nfc (c : Nat) : Nat := ((vwCl[c]?).map fun q => q.2.2).getD 0
def cv (ad : Nat → Nat → Nat) : AV → Value
  | .inl a => .int (Int32.ofInt a)
  | .inr (.inl a) => .long (Int64.ofInt a)
  | .inr (.inr (some q)) => .ref (ad q.1 q.2)
  | .inr (.inr none) => .null
def I3 (a : Int) : Prop := -2147483648 ≤ a ∧ a < 2147483648
def I6 (a : Int) : Prop := -9223372036854775808 ≤ a ∧ a < 9223372036854775808
def rg : AV → Prop
  | .inl a => I3 a
  | .inr (.inl a) => I6 a
  | .inr (.inr (some q)) => vt q.1 q.2
  | .inr (.inr none) => True
def fv (ad : Nat → Nat → Nat) (t i k : Nat) (x : Int) : Value := match rf t i k with
  | some q => .ref (ad q.1 q.2)
  | none => .int (Int32.ofInt x)
def ce (G : GG) (t i : Nat) (g : Nat → Int) : va_E := match ko t with
  | some c => .inr (c, (List.range (nfc c)).map fun k => fv G.2.2 t i k (g k))
  | none => match ka t with
    | some an => if an.1 ≤ 1 then .inl (G.2.1 an.1, an.2, .inl fun k => Int32.ofInt (g k)) else .inl (G.2.1 an.1, an.2, .inr (.inr (.inr (.inr fun k => (rf t i k).map fun q => G.2.2 q.1 q.2))))
    | none => .inr (0, [])
def ws_ (G : GG) (h : HH) : va_W := cs.map fun q => (G.2.2 q.1 q.2, ce G q.1 q.2 (h q.1 q.2))
def HW (h : HH) : Prop := ∀ t i k, I3 (h t i k)
def put (h : HH) (t i k : Nat) (v : Int) : HH := fun t' i' k' => if t' = t ∧ i' = i ∧ k' = k then v else h t' i' k'
theorem put_wf {h : HH} {t i k : Nat} {v : Int} (hh : HW h) (hv : I3 v) : HW (put h t i k v) := by
  intro t' i' k'
  unfold put
  split
  · exact hv
  · exact hh t' i' k'
theorem ws_at {G : GG} {h : HH} {t i : Nat} (hv : vt t i) : ∃ k0 : Nat, cs[k0]? = some (t, i) ∧ (ws_ G h)[k0]? = some (G.2.2 t i, ce G t i (h t i)) := by
  obtain ⟨k0, hk⟩ := List.getElem?_of_mem (cs_mem hv)
  exact ⟨k0, hk, by simp [ws_, List.getElem?_map, hk]⟩
theorem ws_set {G : GG} {h h' : HH} {t i k0 : Nat} {A : Nat → Prop} (hD : va_D A (ws_ G h)) (hk : cs[k0]? = some (t, i)) (ho : ∀ t' i', ¬ (t' = t ∧ i' = i) → h' t' i' = h t' i') : (ws_ G h).set k0 (G.2.2 t i, ce G t i (h' t i)) = ws_ G h' := by
  apply List.ext_getElem?
  intro j
  rw [List.getElem?_set]
  by_cases hj : k0 = j
  · subst hj
    have hlt : k0 < (ws_ G h).length := by
      have := (List.getElem?_eq_some_iff.mp hk).1
      simpa [ws_] using this
    rw [if_pos rfl, if_pos hlt]
    simp [ws_, List.getElem?_map, hk]
  · rw [if_neg hj]
    cases hq : cs[j]? with
    | none => simp [ws_, List.getElem?_map, hq]
    | some q =>
      have hne : ¬ (q.1 = t ∧ q.2 = i) := by
        intro hh
        have e1 : (ws_ G h)[j]? = some (G.2.2 q.1 q.2, ce G q.1 q.2 (h q.1 q.2)) := by simp [ws_, List.getElem?_map, hq]
        have e2 : (ws_ G h)[k0]? = some (G.2.2 t i, ce G t i (h t i)) := by simp [ws_, List.getElem?_map, hk]
        exact hj (hD.1 k0 j _ _ e2 e1 (by rw [hh.1, hh.2]))
      simp [ws_, List.getElem?_map, hq, ho q.1 q.2 hne]
def tk (G : GG) : List (ClassId × FieldType) := [(G.2.1 0, .int), (G.2.1 1, .byte), (G.2.1 2, .object "PretzelProof$Tray"), (G.2.1 3, .object "PretzelProof$Rope"), (G.2.1 4, .array .int)]
def lw_gd : List Cond := lw_tbl.filter goodWord
theorem gd_good : GoodIn lw_gd lw_gd := fun w hw => ⟨hw, good_of_word (List.mem_filter.mp hw).2⟩
theorem gd_in {w : Cond} (h : w ∈ lw_tbl) (hg : goodWord w = true) : w ∈ lw_gd := List.mem_filter.mpr ⟨h, hg⟩
def WK (G : GG) (U : State) : Prop := va_K G.1 vwCl (tk G) U ∧ ∀ w ∈ nw_all, va_Nw w U
theorem WK.warm {G : GG} {s U : State} (hW : s.WarmedH U.vm) (h : WK G s) : WK G U := by
  refine ⟨va_K.moved hW.alike h.1, fun w hw => ?_⟩
  have h2 := h.2 w hw
  simp only [nw_all, List.mem_cons, List.not_mem_nil, or_false] at hw
  rcases hw with rfl | rfl | rfl | rfl | rfl | rfl | rfl | rfl | rfl | rfl | rfl <;> exact va_Nw.warmM hW h2
theorem WK.same {G : GG} {s U : State} (hW : s.vm = U.vm) (h : WK G s) : WK G U := by
  refine ⟨va_K.moved (by rw [hW]; exact Vm.Alike.refl U.vm) h.1, fun w hw => ?_⟩
  have h2 := h.2 w hw
  simp only [nw_all, List.mem_cons, List.not_mem_nil, or_false] at hw
  rcases hw with rfl | rfl | rfl | rfl | rfl | rfl | rfl | rfl | rfl | rfl | rfl <;> exact va_Nw.same rfl hW h2
def off_ : Instr → Option Int
  | .goto o => some o
  | .if_icmp _ o => some o
  | .ifCond _ o => some o
  | .ifnull o => some o
  | .ifnonnull o => some o
  | _ => none
def cst_ : Instr → Bool
  | .iconst n => decide (-2147483648 ≤ n) && decide (n < 2147483648)
  | .bipush n => decide ((Int8.ofInt n).toInt32 = Int32.ofInt n) && decide (-2147483648 ≤ n) && decide (n < 2147483648)
  | .sipush n => decide ((Int16.ofInt n).toInt32 = Int32.ofInt n) && decide (-2147483648 ≤ n) && decide (n < 2147483648)
  | _ => true
def ok1 (code : ByteArray) (e : EN) : Bool := decide (decode code e.1 = .ok (e.2.1, e.2.2.1)) && decide (e.2.2.2.1 = e.1 + e.2.2.1) && cst_ e.2.1 && (match off_ e.2.1 with | some o => decide ((e.1 : Int) + o = (e.2.2.2.2 : Int)) | none => true)
def okc (code : ByteArray) (T : List EN) : Bool := T.all (ok1 code)
def wq (M : MD) : List Cond := .code M.1 M.2.1 M.2.2.1 M.2.2.2.1 :: lw_gd
def rq (M : MD) : Room := { frames := M.2.2.2.2.1.1, cells := 0, slots := 0, locals := M.2.2.2.2.1.2 }
def tb (M : MD) : List EN := M.2.2.2.2.2
def QQ (G : GG) (P : Option AV → HH → Prop) (A : Nat → Prop) : Array Value → State → Outcome → State → Prop := fun _ st oc t => (∃ (r : Option AV) (h' : HH), oc = .returned (r.map (cv G.2.2)) ∧ P r h' ∧ (∀ v ∈ r, rg v) ∧ HW h' ∧ va_P G.1 vwCl (ws_ G h') t.heap ∧ WK G t ∧ va_D A (ws_ G h')) ∧ va_F A st t
def CX (M : MD) (G : GG) (A : Nat → Prop) (p : Program) (s : State) (m : MethodId) (args : Array Value) (meth : Method) (c : Code) : Prop := p.tables.exec = Jvm.exec ∧ c.code = M.2.1 ∧ meth.sig.returnType = M.2.2.2.1 ∧ c.maxLocals = M.2.2.1 ∧ s.vm.findClass M.1.cls = some m.cls ∧ (∀ w ∈ wq M, w.before args s = true) ∧ meth.locks = false ∧ WK G s ∧ okc M.2.1 (tb M) = true ∧ (∀ q, s.heap.size ≤ q → A q)
abbrev LV : Type := List (Nat × AV)
def lvc (ad : Nat → Nat → Nat) (lv : LV) : List (Nat × Value) := lv.map fun q => (q.1, cv ad q.2)
/-- from here the method comes to its end with P -/
def AW (M : MD) (P : Option AV → HH → Prop) (pc : Nat) (lv : LV) (st : List AV) (h : HH) : Prop :=
  ∀ (l : Launch) (p : Program) (e : Env) (s : State) (m : MethodId) (args : Array Value) (below : List Frame) (meth : Method) (c : Code) (G : GG) (A : Nat → Prop), CX M G A p s m args meth c → (∀ q ∈ lv, rg q.2) → (∀ v ∈ st, rg v) → HW h → ∀ (H : Heap) (locs : List Loc) (ls : Array Slot), va_P G.1 vwCl (ws_ G h) H → va_D A (ws_ G h) → va_S A s.heap H locs → lv_has ls M.2.2.1 (lvc G.2.2 lv) →
    W p l e (rq M) s m args below meth c H locs 0 0 (MQ below (QQ G P A) args s 0 0 A) (F0 m pc ls (st.map (cv G.2.2)))
/-- a method's contract -/
def Sp (M : MD) (av : List AV) (h : HH) (P : Option AV → HH → Prop) : Prop :=
  (∀ v ∈ av, rg v) → HW h → ∀ (l : Launch) (G : GG) (sz : Nat), Met l M.1 (wq M) (rq M) (va_Pc (av.map (cv G.2.2)) (fun U => U.heap.size = sz ∧ WK G U ∧ va_P G.1 vwCl (ws_ G h) U.heap ∧ va_D (fun _ => True) (ws_ G h))) (QQ G P (va_A (ws_ G h) sz)) 0 0 (va_A (ws_ G h) sz)
theorem ok_at {code : ByteArray} {T : List EN} {k pc n np tg : Nat} {i : Instr} (h : okc code T = true) (hk : T[k]? = some (pc, i, n, np, tg)) : decode code pc = .ok (i, n) ∧ np = pc + n ∧ cst_ i = true ∧ (∀ o, off_ i = some o → (pc : Int) + o = (tg : Int)) := by
  have h1 := List.all_eq_true.mp h _ (List.mem_of_getElem? hk)
  simp only [ok1, Bool.and_eq_true, decide_eq_true_eq] at h1
  obtain ⟨⟨⟨h2, h3⟩, h4⟩, h5⟩ := h1
  refine ⟨h2, h3, h4, fun o ho => ?_⟩
  rw [ho] at h5
  simpa using h5
def la : Nat → List AV → LV
  | _, [] => []
  | i, v :: vs => (i, v) :: la (match v with | .inr (.inl _) => i + 2 | _ => i + 1) vs
def aw_ : List AV → Nat
  | [] => 0
  | v :: vs => (match v with | .inr (.inl _) => 2 | _ => 1) + aw_ vs
theorem la_cv (ad : Nat → Nat → Nat) : ∀ (vs : List AV) (i : Nat), lv_args i (vs.map (cv ad)) = lvc ad (la i vs)
  | [], i => rfl
  | .inl a :: vs, i => by
    show (i, _) :: lv_args (i + 1) (vs.map (cv ad)) = (i, _) :: lvc ad (la (i + 1) vs)
    rw [la_cv ad vs (i + 1)]
  | .inr (.inl a) :: vs, i => by
    show (i, _) :: lv_args (i + 2) (vs.map (cv ad)) = (i, _) :: lvc ad (la (i + 2) vs)
    rw [la_cv ad vs (i + 2)]
  | .inr (.inr (some q)) :: vs, i => by
    show (i, _) :: lv_args (i + 1) (vs.map (cv ad)) = (i, _) :: lvc ad (la (i + 1) vs)
    rw [la_cv ad vs (i + 1)]
  | .inr (.inr none) :: vs, i => by
    show (i, _) :: lv_args (i + 1) (vs.map (cv ad)) = (i, _) :: lvc ad (la (i + 1) vs)
    rw [la_cv ad vs (i + 1)]
theorem aw_len (ad : Nat → Nat → Nat) : ∀ vs : List AV, (lg_sl (vs.map (cv ad))).length = aw_ vs
  | [] => rfl
  | .inl a :: vs => by
    show ([Slot.val _] ++ lg_sl (vs.map (cv ad))).length = 1 + aw_ vs
    rw [List.length_append, aw_len ad vs]; rfl
  | .inr (.inl a) :: vs => by
    show ([Slot.val _, .second] ++ lg_sl (vs.map (cv ad))).length = 2 + aw_ vs
    rw [List.length_append, aw_len ad vs]; rfl
  | .inr (.inr (some q)) :: vs => by
    show ([Slot.val _] ++ lg_sl (vs.map (cv ad))).length = 1 + aw_ vs
    rw [List.length_append, aw_len ad vs]; rfl
  | .inr (.inr none) :: vs => by
    show ([Slot.val _] ++ lg_sl (vs.map (cv ad))).length = 1 + aw_ vs
    rw [List.length_append, aw_len ad vs]; rfl
theorem la_rg : ∀ (vs : List AV) (i : Nat), (∀ v ∈ vs, rg v) → ∀ q ∈ la i vs, rg q.2
  | [], i, _, q, hq => by cases hq
  | v :: vs, i, h, q, hq => by
    rcases List.mem_cons.mp hq with rfl | hq
    · exact h v List.mem_cons_self
    · exact la_rg vs _ (fun w hw => h w (List.mem_cons_of_mem _ hw)) q hq
theorem Sp.of {M : MD} {av : List AV} {h : HH} {P : Option AV → HH → Prop} (hy : plainName M.1.cls = true) (hok : okc M.2.1 (tb M) = true) (hn : aw_ av ≤ M.2.2.1) (kk : AW M P 0 (la 0 av) [] h) : Sp M av h P := by
  intro hr hw l G sz
  refine Met.ofW (cc := M.2.1) (maxL := M.2.2.1) (ret := M.2.2.2.1) hy rfl ?_
  intro p e s m args below meth c s₁ B hml hv
  obtain ⟨rfl, hsz, hK, hP, hD0⟩ := hv
  subst hsz
  have hts := atoms_spec (ws := wq M) B.pre
  have hown : s.vm.findClass M.1.cls = some m.cls := findClass_of_methodNamed B.named
  have hl := lv_entry (av.map (cv G.2.2)) (n := M.2.2.1) (by rw [aw_len]; exact hn)
  rw [lg_entry_eq]
  generalize (lg_sl (av.map (cv G.2.2)) ++ List.replicate (M.2.2.1 - (lg_sl (av.map (cv G.2.2))).length) Slot.unset).toArray = ls at hl ⊢
  rw [la_cv] at hl
  exact kk l p e s m _ below meth c G (va_A (ws_ G h) s.heap.size) ⟨B.exec, B.bytes, B.returns, hml, hown, hts, B.notSynchronized, hK, hok, fun q hq => Or.inr hq⟩ (la_rg av 0 hr) (fun v hv => by cases hv) hw s.heap [] ls hP hD0.self va_S.rf hl
end
section
theorem fb_rng_ (x : Int32) : -2147483648 ≤ x.toInt ∧ x.toInt < 2147483648 := by
  have h1 := Int32.le_toInt x
  have h2 := Int32.toInt_lt x
  omega
theorem fb_rngL_ (x : Int64) : -9223372036854775808 ≤ x.toInt ∧ x.toInt < 9223372036854775808 := by
  have h1 := Int64.le_toInt x
  have h2 := Int64.toInt_lt x
  omega
theorem fb_ofI_ {z : Int} (h1 : -2147483648 ≤ z) (h2 : z < 2147483648) : (Int32.ofInt z).toInt = z := by
  have e : z.bmod (2 ^ 32) = z := by rw [Int.bmod_eq_of_le (by omega) (by omega)]
  rw [Int32.toInt_ofInt]
  exact e
theorem fb_ofL_ {z : Int} (h1 : -9223372036854775808 ≤ z) (h2 : z < 9223372036854775808) : (Int64.ofInt z).toInt = z := by
  have e : z.bmod (2 ^ 64) = z := by rw [Int.bmod_eq_of_le (by omega) (by omega)]
  rw [Int64.toInt_ofInt]
  exact e
/-! numbers -/
def w3 (x : Int) : Int := (Int32.ofInt x).toInt
def w6 (x : Int) : Int := (Int64.ofInt x).toInt
theorem w3_of (x : Int) : Int32.ofInt (w3 x) = Int32.ofInt x := Int32.ofInt_toInt _
theorem w6_of (x : Int) : Int64.ofInt (w6 x) = Int64.ofInt x := Int64.ofInt_toInt _
theorem i3_of (z : Int32) : I3 z.toInt := fb_rng_ z
theorem i6_of (z : Int64) : I6 z.toInt := fb_rngL_ z
theorem i3_w (x : Int) : I3 (w3 x) := i3_of _
theorem i6_w (x : Int) : I6 (w6 x) := i6_of _
theorem to3 {a : Int} (h : I3 a) : (Int32.ofInt a).toInt = a := fb_ofI_ h.1 h.2
theorem to6 {a : Int} (h : I6 a) : (Int64.ofInt a).toInt = a := fb_ofL_ h.1 h.2
def ia (a b : Int) : Int := w3 (a + b)
def ib (a b : Int) : Int := w3 (a - b)
def im (a b : Int) : Int := w3 (a * b)
def iq (a b : Int) : Int := w3 (a.tdiv b)
def ir (a b : Int) : Int := w3 (a.tmod b)
def in_ (a : Int) : Int := w3 (-a)
def iand (a b : Int) : Int := (Int32.ofInt a &&& Int32.ofInt b).toInt
def ior (a b : Int) : Int := (Int32.ofInt a ||| Int32.ofInt b).toInt
def ixor (a b : Int) : Int := (Int32.ofInt a ^^^ Int32.ofInt b).toInt
def ishl (a b : Int) : Int := (Int32.ofInt a <<< (Int32.ofInt b &&& 31)).toInt
def ishr (a b : Int) : Int := (Int32.ofInt a >>> (Int32.ofInt b &&& 31)).toInt
def iushr (a b : Int) : Int := ((Int32.ofInt a).toUInt32 >>> ((Int32.ofInt b).toUInt32 &&& Int32.toUInt32 31)).toInt32.toInt
def la_ (a b : Int) : Int := w6 (a + b)
def lm (a b : Int) : Int := w6 (a * b)
def lq (a b : Int) : Int := w6 (a.tdiv b)
def lr (a b : Int) : Int := w6 (a.tmod b)
def land_ (a b : Int) : Int := (Int64.ofInt a &&& Int64.ofInt b).toInt
def sb (a : Int) : Int := (Int32.ofInt a).toInt8.toInt32.toInt
theorem cv_ia (a b : Int) : Int32.ofInt (ia a b) = Int32.ofInt a + Int32.ofInt b := by rw [ia, w3_of, Int32.ofInt_add]
theorem cv_ib (a b : Int) : Int32.ofInt (ib a b) = Int32.ofInt a - Int32.ofInt b := by rw [ib, w3_of, Int32.ofInt_sub]
theorem cv_im (a b : Int) : Int32.ofInt (im a b) = Int32.ofInt a * Int32.ofInt b := by rw [im, w3_of, Int32.ofInt_mul]
theorem cv_in (a : Int) : Int32.ofInt (in_ a) = -Int32.ofInt a := by rw [in_, w3_of, Int32.ofInt_neg]
theorem cv_iq {a b : Int} (ha : I3 a) (hb : I3 b) : Int32.ofInt (iq a b) = Int32.ofInt a / Int32.ofInt b := by
  rw [iq, w3_of]
  apply Int32.toInt_inj.mp
  rw [Int32.toInt_div, to3 ha, to3 hb, Int32.toInt_ofInt]
theorem cv_ir {a b : Int} (ha : I3 a) (hb : I3 b) : Int32.ofInt (ir a b) = Int32.ofInt a - Int32.ofInt a / Int32.ofInt b * Int32.ofInt b := by
  rw [← cv_iq ha hb, iq, ir, w3_of, w3_of, ← Int32.ofInt_mul, ← Int32.ofInt_sub]
  congr 1
  have := Int.mul_tdiv_add_tmod a b
  rw [Int.mul_comm] at this
  omega
theorem cv_la (a b : Int) : Int64.ofInt (la_ a b) = Int64.ofInt a + Int64.ofInt b := by rw [la_, w6_of, Int64.ofInt_add]
theorem cv_lm (a b : Int) : Int64.ofInt (lm a b) = Int64.ofInt a * Int64.ofInt b := by rw [lm, w6_of, Int64.ofInt_mul]
theorem cv_lq {a b : Int} (ha : I6 a) (hb : I6 b) : Int64.ofInt (lq a b) = Int64.ofInt a / Int64.ofInt b := by
  rw [lq, w6_of]
  apply Int64.toInt_inj.mp
  rw [Int64.toInt_div, to6 ha, to6 hb, Int64.toInt_ofInt]
theorem cv_lr {a b : Int} (ha : I6 a) (hb : I6 b) : Int64.ofInt (lr a b) = Int64.ofInt a - Int64.ofInt a / Int64.ofInt b * Int64.ofInt b := by
  rw [← cv_lq ha hb, lq, lr, w6_of, w6_of, ← Int64.ofInt_mul, ← Int64.ofInt_sub]
  congr 1
  have := Int.mul_tdiv_add_tmod a b
  rw [Int.mul_comm] at this
  omega
theorem cv_iand (a b : Int) : Int32.ofInt (iand a b) = Int32.ofInt a &&& Int32.ofInt b := Int32.ofInt_toInt _
theorem cv_ior (a b : Int) : Int32.ofInt (ior a b) = Int32.ofInt a ||| Int32.ofInt b := Int32.ofInt_toInt _
theorem cv_ixor (a b : Int) : Int32.ofInt (ixor a b) = Int32.ofInt a ^^^ Int32.ofInt b := Int32.ofInt_toInt _
theorem cv_ishl (a b : Int) : Int32.ofInt (ishl a b) = Int32.ofInt a <<< (Int32.ofInt b &&& 31) := Int32.ofInt_toInt _
theorem cv_ishr (a b : Int) : Int32.ofInt (ishr a b) = Int32.ofInt a >>> (Int32.ofInt b &&& 31) := Int32.ofInt_toInt _
theorem cv_iushr (a b : Int) : Int32.ofInt (iushr a b) = ((Int32.ofInt a).toUInt32 >>> ((Int32.ofInt b).toUInt32 &&& Int32.toUInt32 31)).toInt32 := Int32.ofInt_toInt _
theorem cv_land (a b : Int) : Int64.ofInt (land_ a b) = Int64.ofInt a &&& Int64.ofInt b := Int64.ofInt_toInt _
theorem cv_sb (a : Int) : Int32.ofInt (sb a) = (Int32.ofInt a).toInt8.toInt32 := Int32.ofInt_toInt _
theorem c3_lt {a b : Int} (ha : I3 a) (hb : I3 b) : Int32.ofInt a < Int32.ofInt b ↔ a < b := by rw [Int32.lt_iff_toInt_lt, to3 ha, to3 hb]
theorem c3_le {a b : Int} (ha : I3 a) (hb : I3 b) : Int32.ofInt a ≤ Int32.ofInt b ↔ a ≤ b := by rw [Int32.le_iff_toInt_le, to3 ha, to3 hb]
theorem c3_eq {a b : Int} (ha : I3 a) (hb : I3 b) : Int32.ofInt a = Int32.ofInt b ↔ a = b := by rw [← Int32.toInt_inj, to3 ha, to3 hb]
theorem c6_lt {a b : Int} (ha : I6 a) (hb : I6 b) : Int64.ofInt a < Int64.ofInt b ↔ a < b := by rw [Int64.lt_iff_toInt_lt, to6 ha, to6 hb]
theorem c6_eq {a b : Int} (ha : I6 a) (hb : I6 b) : Int64.ofInt a = Int64.ofInt b ↔ a = b := by rw [← Int64.toInt_inj, to6 ha, to6 hb]
theorem c0_3 : I3 0 := by unfold I3; omega
theorem ofI0 : Int32.ofInt 0 = 0 := rfl
theorem clamp3 {a : Int} (h : I3 a) : (Int32.ofInt a).toNatClampNeg = a.toNat := by rw [Int32.toNatClampNeg, to3 h]
theorem in_of {a : Int} {n : Nat} (h : I3 a) (h0 : 0 ≤ a) (h1 : a < n) : vp_in (Int32.ofInt a) n := vp_in_iff.mpr (by rw [to3 h]; exact ⟨h0, h1⟩)
theorem rg_c {st : List AV} {v : AV} (h : ∀ w ∈ v :: st, rg w) : rg v ∧ ∀ w ∈ st, rg w := ⟨h v List.mem_cons_self, fun w hw => h w (List.mem_cons_of_mem _ hw)⟩
theorem rg_k {st : List AV} {v : AV} (hv : rg v) (h : ∀ w ∈ st, rg w) : ∀ w ∈ v :: st, rg w := fun w hw => by
  rcases List.mem_cons.mp hw with rfl | hw
  · exact hv
  · exact h w hw
section AWR
variable {M : MD} {P : Option AV → HH → Prop} {lv : LV} {st : List AV} {h : HH} {k pc np tg : Nat}

theorem a_iadd {a b : Int} (hd : (tb M)[k]? = some (pc, .iadd, 1, np, tg)) (kk : AW M P np lv (vi (ia a b) :: st) h) : AW M P pc lv (vi b :: vi a :: st) h := by
  intro l p e s m args below meth c G A C hl hs hw H locs ls hP hD hS hv
  obtain ⟨d1, rfl, d3, d4⟩ := ok_at C.2.2.2.2.2.2.2.2.1 hd
  obtain ⟨r1, hs⟩ := rg_c hs
  obtain ⟨r2, hs⟩ := rg_c hs
  refine lv_iadd C.1 C.2.1 d1 ?_
  have z := kk l p e s m args below meth c G A C hl (rg_k (i3_of _) hs) hw H locs ls hP hD hS hv
  rw [← cv_ia a b]
  exact z

theorem a_isub {a b : Int} (hd : (tb M)[k]? = some (pc, .isub, 1, np, tg)) (kk : AW M P np lv (vi (ib a b) :: st) h) : AW M P pc lv (vi b :: vi a :: st) h := by
  intro l p e s m args below meth c G A C hl hs hw H locs ls hP hD hS hv
  obtain ⟨d1, rfl, d3, d4⟩ := ok_at C.2.2.2.2.2.2.2.2.1 hd
  obtain ⟨r1, hs⟩ := rg_c hs
  obtain ⟨r2, hs⟩ := rg_c hs
  refine lv_isub C.1 C.2.1 d1 ?_
  have z := kk l p e s m args below meth c G A C hl (rg_k (i3_of _) hs) hw H locs ls hP hD hS hv
  rw [← cv_ib a b]
  exact z

theorem a_imul {a b : Int} (hd : (tb M)[k]? = some (pc, .imul, 1, np, tg)) (kk : AW M P np lv (vi (im a b) :: st) h) : AW M P pc lv (vi b :: vi a :: st) h := by
  intro l p e s m args below meth c G A C hl hs hw H locs ls hP hD hS hv
  obtain ⟨d1, rfl, d3, d4⟩ := ok_at C.2.2.2.2.2.2.2.2.1 hd
  obtain ⟨r1, hs⟩ := rg_c hs
  obtain ⟨r2, hs⟩ := rg_c hs
  refine lv_imul C.1 C.2.1 d1 ?_
  have z := kk l p e s m args below meth c G A C hl (rg_k (i3_of _) hs) hw H locs ls hP hD hS hv
  rw [← cv_im a b]
  exact z

theorem a_iand {a b : Int} (hd : (tb M)[k]? = some (pc, .iand, 1, np, tg)) (kk : AW M P np lv (vi (iand a b) :: st) h) : AW M P pc lv (vi b :: vi a :: st) h := by
  intro l p e s m args below meth c G A C hl hs hw H locs ls hP hD hS hv
  obtain ⟨d1, rfl, d3, d4⟩ := ok_at C.2.2.2.2.2.2.2.2.1 hd
  obtain ⟨r1, hs⟩ := rg_c hs
  obtain ⟨r2, hs⟩ := rg_c hs
  refine lv_iand C.1 C.2.1 d1 ?_
  have z := kk l p e s m args below meth c G A C hl (rg_k (i3_of _) hs) hw H locs ls hP hD hS hv
  rw [← cv_iand a b]
  exact z

theorem a_ior {a b : Int} (hd : (tb M)[k]? = some (pc, .ior, 1, np, tg)) (kk : AW M P np lv (vi (ior a b) :: st) h) : AW M P pc lv (vi b :: vi a :: st) h := by
  intro l p e s m args below meth c G A C hl hs hw H locs ls hP hD hS hv
  obtain ⟨d1, rfl, d3, d4⟩ := ok_at C.2.2.2.2.2.2.2.2.1 hd
  obtain ⟨r1, hs⟩ := rg_c hs
  obtain ⟨r2, hs⟩ := rg_c hs
  refine lv_ior C.1 C.2.1 d1 ?_
  have z := kk l p e s m args below meth c G A C hl (rg_k (i3_of _) hs) hw H locs ls hP hD hS hv
  rw [← cv_ior a b]
  exact z

theorem a_ixor {a b : Int} (hd : (tb M)[k]? = some (pc, .ixor, 1, np, tg)) (kk : AW M P np lv (vi (ixor a b) :: st) h) : AW M P pc lv (vi b :: vi a :: st) h := by
  intro l p e s m args below meth c G A C hl hs hw H locs ls hP hD hS hv
  obtain ⟨d1, rfl, d3, d4⟩ := ok_at C.2.2.2.2.2.2.2.2.1 hd
  obtain ⟨r1, hs⟩ := rg_c hs
  obtain ⟨r2, hs⟩ := rg_c hs
  refine lv_ixor C.1 C.2.1 d1 ?_
  have z := kk l p e s m args below meth c G A C hl (rg_k (i3_of _) hs) hw H locs ls hP hD hS hv
  rw [← cv_ixor a b]
  exact z

theorem a_ishl {a b : Int} (hd : (tb M)[k]? = some (pc, .ishl, 1, np, tg)) (kk : AW M P np lv (vi (ishl a b) :: st) h) : AW M P pc lv (vi b :: vi a :: st) h := by
  intro l p e s m args below meth c G A C hl hs hw H locs ls hP hD hS hv
  obtain ⟨d1, rfl, d3, d4⟩ := ok_at C.2.2.2.2.2.2.2.2.1 hd
  obtain ⟨r1, hs⟩ := rg_c hs
  obtain ⟨r2, hs⟩ := rg_c hs
  refine lv_ishl C.1 C.2.1 d1 ?_
  have z := kk l p e s m args below meth c G A C hl (rg_k (i3_of _) hs) hw H locs ls hP hD hS hv
  rw [← cv_ishl a b]
  exact z

theorem a_ishr {a b : Int} (hd : (tb M)[k]? = some (pc, .ishr, 1, np, tg)) (kk : AW M P np lv (vi (ishr a b) :: st) h) : AW M P pc lv (vi b :: vi a :: st) h := by
  intro l p e s m args below meth c G A C hl hs hw H locs ls hP hD hS hv
  obtain ⟨d1, rfl, d3, d4⟩ := ok_at C.2.2.2.2.2.2.2.2.1 hd
  obtain ⟨r1, hs⟩ := rg_c hs
  obtain ⟨r2, hs⟩ := rg_c hs
  refine lv_ishr C.1 C.2.1 d1 ?_
  have z := kk l p e s m args below meth c G A C hl (rg_k (i3_of _) hs) hw H locs ls hP hD hS hv
  rw [← cv_ishr a b]
  exact z

theorem a_idiv {a b : Int} (hd : (tb M)[k]? = some (pc, .idiv, 1, np, tg)) (h0 : ¬ b = 0) (kk : AW M P np lv (vi (iq a b) :: st) h) : AW M P pc lv (vi b :: vi a :: st) h := by
  intro l p e s m args below meth c G A C hl hs hw H locs ls hP hD hS hv
  obtain ⟨d1, rfl, d3, d4⟩ := ok_at C.2.2.2.2.2.2.2.2.1 hd
  obtain ⟨r1, hs⟩ := rg_c hs
  obtain ⟨r2, hs⟩ := rg_c hs
  refine lv_idiv C.1 C.2.1 d1 (fun q => h0 ((c3_eq r1 c0_3).mp q)) ?_
  have z := kk l p e s m args below meth c G A C hl (rg_k (i3_of _) hs) hw H locs ls hP hD hS hv
  rw [← cv_iq r2 r1]
  exact z

theorem a_irem {a b : Int} (hd : (tb M)[k]? = some (pc, .irem, 1, np, tg)) (h0 : ¬ b = 0) (kk : AW M P np lv (vi (ir a b) :: st) h) : AW M P pc lv (vi b :: vi a :: st) h := by
  intro l p e s m args below meth c G A C hl hs hw H locs ls hP hD hS hv
  obtain ⟨d1, rfl, d3, d4⟩ := ok_at C.2.2.2.2.2.2.2.2.1 hd
  obtain ⟨r1, hs⟩ := rg_c hs
  obtain ⟨r2, hs⟩ := rg_c hs
  refine lv_irem C.1 C.2.1 d1 (fun q => h0 ((c3_eq r1 c0_3).mp q)) ?_
  have z := kk l p e s m args below meth c G A C hl (rg_k (i3_of _) hs) hw H locs ls hP hD hS hv
  rw [← cv_ir r2 r1]
  exact z

theorem a_ladd {a b : Int} (hd : (tb M)[k]? = some (pc, .ladd, 1, np, tg)) (kk : AW M P np lv (vl (la_ a b) :: st) h) : AW M P pc lv (vl b :: vl a :: st) h := by
  intro l p e s m args below meth c G A C hl hs hw H locs ls hP hD hS hv
  obtain ⟨d1, rfl, d3, d4⟩ := ok_at C.2.2.2.2.2.2.2.2.1 hd
  obtain ⟨r1, hs⟩ := rg_c hs
  obtain ⟨r2, hs⟩ := rg_c hs
  refine lv_ladd C.1 C.2.1 d1 ?_
  have z := kk l p e s m args below meth c G A C hl (rg_k (i6_of _) hs) hw H locs ls hP hD hS hv
  rw [← cv_la a b]
  exact z

theorem a_lmul {a b : Int} (hd : (tb M)[k]? = some (pc, .lmul, 1, np, tg)) (kk : AW M P np lv (vl (lm a b) :: st) h) : AW M P pc lv (vl b :: vl a :: st) h := by
  intro l p e s m args below meth c G A C hl hs hw H locs ls hP hD hS hv
  obtain ⟨d1, rfl, d3, d4⟩ := ok_at C.2.2.2.2.2.2.2.2.1 hd
  obtain ⟨r1, hs⟩ := rg_c hs
  obtain ⟨r2, hs⟩ := rg_c hs
  refine lv_lmul C.1 C.2.1 d1 ?_
  have z := kk l p e s m args below meth c G A C hl (rg_k (i6_of _) hs) hw H locs ls hP hD hS hv
  rw [← cv_lm a b]
  exact z

theorem a_land {a b : Int} (hd : (tb M)[k]? = some (pc, .land, 1, np, tg)) (kk : AW M P np lv (vl (land_ a b) :: st) h) : AW M P pc lv (vl b :: vl a :: st) h := by
  intro l p e s m args below meth c G A C hl hs hw H locs ls hP hD hS hv
  obtain ⟨d1, rfl, d3, d4⟩ := ok_at C.2.2.2.2.2.2.2.2.1 hd
  obtain ⟨r1, hs⟩ := rg_c hs
  obtain ⟨r2, hs⟩ := rg_c hs
  refine lv_land C.1 C.2.1 d1 ?_
  have z := kk l p e s m args below meth c G A C hl (rg_k (i6_of _) hs) hw H locs ls hP hD hS hv
  rw [← cv_land a b]
  exact z

theorem a_ldiv {a b : Int} (hd : (tb M)[k]? = some (pc, .ldiv, 1, np, tg)) (h0 : ¬ b = 0) (kk : AW M P np lv (vl (lq a b) :: st) h) : AW M P pc lv (vl b :: vl a :: st) h := by
  intro l p e s m args below meth c G A C hl hs hw H locs ls hP hD hS hv
  obtain ⟨d1, rfl, d3, d4⟩ := ok_at C.2.2.2.2.2.2.2.2.1 hd
  obtain ⟨r1, hs⟩ := rg_c hs
  obtain ⟨r2, hs⟩ := rg_c hs
  refine lv_ldiv C.1 C.2.1 d1 (fun q => h0 ((c6_eq r1 (by unfold I6; omega)).mp q)) ?_
  have z := kk l p e s m args below meth c G A C hl (rg_k (i6_of _) hs) hw H locs ls hP hD hS hv
  rw [← cv_lq r2 r1]
  exact z

theorem a_lrem {a b : Int} (hd : (tb M)[k]? = some (pc, .lrem, 1, np, tg)) (h0 : ¬ b = 0) (kk : AW M P np lv (vl (lr a b) :: st) h) : AW M P pc lv (vl b :: vl a :: st) h := by
  intro l p e s m args below meth c G A C hl hs hw H locs ls hP hD hS hv
  obtain ⟨d1, rfl, d3, d4⟩ := ok_at C.2.2.2.2.2.2.2.2.1 hd
  obtain ⟨r1, hs⟩ := rg_c hs
  obtain ⟨r2, hs⟩ := rg_c hs
  refine lv_lrem C.1 C.2.1 d1 (fun q => h0 ((c6_eq r1 (by unfold I6; omega)).mp q)) ?_
  have z := kk l p e s m args below meth c G A C hl (rg_k (i6_of _) hs) hw H locs ls hP hD hS hv
  rw [← cv_lr r2 r1]
  exact z

theorem a_ineg {a : Int} (hd : (tb M)[k]? = some (pc, .ineg, 1, np, tg)) (kk : AW M P np lv (vi (in_ a) :: st) h) : AW M P pc lv (vi a :: st) h := by
  intro l p e s m args below meth c G A C hl hs hw H locs ls hP hD hS hv
  obtain ⟨d1, rfl, d3, d4⟩ := ok_at C.2.2.2.2.2.2.2.2.1 hd
  obtain ⟨r1, hs⟩ := rg_c hs
  refine lv_ineg C.1 C.2.1 d1 ?_
  have z := kk l p e s m args below meth c G A C hl (rg_k (i3_of _) hs) hw H locs ls hP hD hS hv
  rw [← cv_in a]
  exact z
theorem a_iushr {a b : Int} (hd : (tb M)[k]? = some (pc, .iushr, 1, np, tg)) (kk : AW M P np lv (vi (iushr a b) :: st) h) : AW M P pc lv (vi b :: vi a :: st) h := by
  intro l p e s m args below meth c G A C hl hs hw H locs ls hP hD hS hv
  obtain ⟨d1, rfl, d3, d4⟩ := ok_at C.2.2.2.2.2.2.2.2.1 hd
  obtain ⟨r1, hs⟩ := rg_c hs
  obtain ⟨r2, hs⟩ := rg_c hs
  refine lv_iushr C.1 C.2.1 d1 (cv_iushr a b).symm ?_
  exact kk l p e s m args below meth c G A C hl (rg_k (i3_of _) hs) hw H locs ls hP hD hS hv
theorem a_i2l {a : Int} (hd : (tb M)[k]? = some (pc, .i2l, 1, np, tg)) (kk : AW M P np lv (vl a :: st) h) : AW M P pc lv (vi a :: st) h := by
  intro l p e s m args below meth c G A C hl hs hw H locs ls hP hD hS hv
  obtain ⟨d1, rfl, d3, d4⟩ := ok_at C.2.2.2.2.2.2.2.2.1 hd
  obtain ⟨r1, hs⟩ := rg_c hs
  have r1 : I3 a := r1
  refine lv_i2l C.1 C.2.1 d1 (v := Int64.ofInt a) ?_ ?_
  · apply Int64.toInt_inj.mp
    rw [Int32.toInt_toInt64, to3 r1, to6 (by unfold I3 at r1; unfold I6; omega)]
  exact kk l p e s m args below meth c G A C hl (rg_k (by unfold I3 at r1; show I6 a; unfold I6; omega) hs) hw H locs ls hP hD hS hv
theorem a_l2i {a : Int} (hd : (tb M)[k]? = some (pc, .l2i, 1, np, tg)) (kk : AW M P np lv (vi (w3 a) :: st) h) : AW M P pc lv (vl a :: st) h := by
  intro l p e s m args below meth c G A C hl hs hw H locs ls hP hD hS hv
  obtain ⟨d1, rfl, d3, d4⟩ := ok_at C.2.2.2.2.2.2.2.2.1 hd
  obtain ⟨r1, hs⟩ := rg_c hs
  have r1 : I6 a := r1
  refine lv_l2i C.1 C.2.1 d1 (v := Int32.ofInt (w3 a)) ?_ ?_
  · rw [w3_of]
    apply Int32.toInt_inj.mp
    rw [Int64.toInt_toInt32, to6 r1, Int32.toInt_ofInt]
  exact kk l p e s m args below meth c G A C hl (rg_k (i3_of _) hs) hw H locs ls hP hD hS hv
theorem a_i2b {a : Int} (hd : (tb M)[k]? = some (pc, .i2b, 1, np, tg)) (kk : AW M P np lv (vi (sb a) :: st) h) : AW M P pc lv (vi a :: st) h := by
  intro l p e s m args below meth c G A C hl hs hw H locs ls hP hD hS hv
  obtain ⟨d1, rfl, d3, d4⟩ := ok_at C.2.2.2.2.2.2.2.2.1 hd
  obtain ⟨r1, hs⟩ := rg_c hs
  refine lv_i2b C.1 C.2.1 d1 (cv_sb a).symm ?_
  exact kk l p e s m args below meth c G A C hl (rg_k (i3_of _) hs) hw H locs ls hP hD hS hv
theorem a_lcmp {a b : Int} (hd : (tb M)[k]? = some (pc, .lcmp, 1, np, tg)) (k1 : b < a → AW M P np lv (vi 1 :: st) h) (k2 : a = b → AW M P np lv (vi 0 :: st) h) (k3 : a < b → AW M P np lv (vi (-1) :: st) h) : AW M P pc lv (vl b :: vl a :: st) h := by
  intro l p e s m args below meth c G A C hl hs hw H locs ls hP hD hS hv
  obtain ⟨d1, rfl, d3, d4⟩ := ok_at C.2.2.2.2.2.2.2.2.1 hd
  obtain ⟨r1, hs⟩ := rg_c hs
  obtain ⟨r2, hs⟩ := rg_c hs
  refine W.lcmp C.1 C.2.1 d1 ?_
  have e1 : Int64.ofInt b < Int64.ofInt a ↔ b < a := c6_lt r1 r2
  have e2 : Int64.ofInt a = Int64.ofInt b ↔ a = b := c6_eq r2 r1
  by_cases q1 : b < a
  · have z := k1 q1 l p e s m args below meth c G A C hl (rg_k (show I3 1 by unfold I3; omega) hs) hw H locs ls hP hD hS hv
    have : lg_cmp (Int64.ofInt a) (Int64.ofInt b) = 1 := by simp [lg_cmp, e1, q1]
    rw [this]; exact z
  · by_cases q2 : a = b
    · have z := k2 q2 l p e s m args below meth c G A C hl (rg_k (show I3 0 by unfold I3; omega) hs) hw H locs ls hP hD hS hv
      have : lg_cmp (Int64.ofInt a) (Int64.ofInt b) = 0 := by simp [lg_cmp, e1, q1, e2, q2]
      rw [this]; exact z
    · have z := k3 (by omega) l p e s m args below meth c G A C hl (rg_k (show I3 (-1) by unfold I3; omega) hs) hw H locs ls hP hD hS hv
      have : lg_cmp (Int64.ofInt a) (Int64.ofInt b) = -1 := by simp [lg_cmp, e1, q1, e2, q2]
      rw [this]; exact z

theorem a_iconst {v : Int} (hd : (tb M)[k]? = some (pc, .iconst v, 1, np, tg)) (kk : AW M P np lv (vi v :: st) h) : AW M P pc lv st h := by
  intro l p e s m args below meth c G A C hl hs hw H locs ls hP hD hS hv
  obtain ⟨d1, rfl, d3, d4⟩ := ok_at C.2.2.2.2.2.2.2.2.1 hd
  simp only [cst_, Bool.and_eq_true, decide_eq_true_eq] at d3
  refine lv_iconst C.1 C.2.1 d1 rfl ?_
  exact kk l p e s m args below meth c G A C hl (rg_k ⟨d3.1, d3.2⟩ hs) hw H locs ls hP hD hS hv

theorem a_bipush {v : Int} (hd : (tb M)[k]? = some (pc, .bipush v, 2, np, tg)) (kk : AW M P np lv (vi v :: st) h) : AW M P pc lv st h := by
  intro l p e s m args below meth c G A C hl hs hw H locs ls hP hD hS hv
  obtain ⟨d1, rfl, d3, d4⟩ := ok_at C.2.2.2.2.2.2.2.2.1 hd
  simp only [cst_, Bool.and_eq_true, decide_eq_true_eq] at d3
  refine lv_bipush C.1 C.2.1 d1 d3.1.1 ?_
  exact kk l p e s m args below meth c G A C hl (rg_k ⟨d3.1.2, d3.2⟩ hs) hw H locs ls hP hD hS hv

theorem a_sipush {v : Int} (hd : (tb M)[k]? = some (pc, .sipush v, 3, np, tg)) (kk : AW M P np lv (vi v :: st) h) : AW M P pc lv st h := by
  intro l p e s m args below meth c G A C hl hs hw H locs ls hP hD hS hv
  obtain ⟨d1, rfl, d3, d4⟩ := ok_at C.2.2.2.2.2.2.2.2.1 hd
  simp only [cst_, Bool.and_eq_true, decide_eq_true_eq] at d3
  refine lv_sipush C.1 C.2.1 d1 d3.1.1 ?_
  exact kk l p e s m args below meth c G A C hl (rg_k ⟨d3.1.2, d3.2⟩ hs) hw H locs ls hP hD hS hv

theorem a_lconst {v : Fin 2} (hd : (tb M)[k]? = some (pc, .lconst v, 1, np, tg)) (kk : AW M P np lv (vl (v.val : Int) :: st) h) : AW M P pc lv st h := by
  intro l p e s m args below meth c G A C hl hs hw H locs ls hP hD hS hv
  obtain ⟨d1, rfl, d3, d4⟩ := ok_at C.2.2.2.2.2.2.2.2.1 hd
  refine lv_lconst C.1 C.2.1 d1 (v := Int64.ofInt (v.val : Int)) ?_ ?_
  · match v with
    | 0 => rfl
    | 1 => rfl
  exact kk l p e s m args below meth c G A C hl (rg_k (by have := v.isLt; show I6 _; unfold I6; omega) hs) hw H locs ls hP hD hS hv
theorem a_ldc {v : Int} {x : Nat} (hd : (tb M)[k]? = some (pc, .ldc x, 2, np, tg)) (hc : Cond.constant M.1.cls x (Int32.ofInt v) ∈ lw_gd) (hr : I3 v) (kk : AW M P np lv (vi v :: st) h) : AW M P pc lv st h := by
  intro l p e s m args below meth c G A C hl hs hw H locs ls hP hD hS hv
  obtain ⟨d1, rfl, d3, d4⟩ := ok_at C.2.2.2.2.2.2.2.2.1 hd
  refine W.ldc C.1 C.2.1 C.2.2.2.2.1 (C.2.2.2.2.2.1 _ (List.mem_cons_of_mem _ hc)) rfl d1 ?_
  exact kk l p e s m args below meth c G A C hl (rg_k hr hs) hw H locs ls hP hD hS hv
theorem a_ldcw {v : Int} {x : Nat} (hd : (tb M)[k]? = some (pc, .ldc_w x, 3, np, tg)) (hc : Cond.constant M.1.cls x (Int32.ofInt v) ∈ lw_gd) (hr : I3 v) (kk : AW M P np lv (vi v :: st) h) : AW M P pc lv st h := by
  intro l p e s m args below meth c G A C hl hs hw H locs ls hP hD hS hv
  obtain ⟨d1, rfl, d3, d4⟩ := ok_at C.2.2.2.2.2.2.2.2.1 hd
  refine lv_ldcw C.1 C.2.1 C.2.2.2.2.1 (C.2.2.2.2.2.1 _ (List.mem_cons_of_mem _ hc)) d1 ?_
  exact kk l p e s m args below meth c G A C hl (rg_k hr hs) hw H locs ls hP hD hS hv
theorem a_ldc2 {v : Int} {x : Nat} (hd : (tb M)[k]? = some (pc, .ldc2_w x, 3, np, tg)) (hc : Cond.constantLong M.1.cls x (Int64.ofInt v) ∈ lw_gd) (hr : I6 v) (kk : AW M P np lv (vl v :: st) h) : AW M P pc lv st h := by
  intro l p e s m args below meth c G A C hl hs hw H locs ls hP hD hS hv
  obtain ⟨d1, rfl, d3, d4⟩ := ok_at C.2.2.2.2.2.2.2.2.1 hd
  refine W.ldc2 C.1 C.2.1 C.2.2.2.2.1 (C.2.2.2.2.2.1 _ (List.mem_cons_of_mem _ hc)) rfl d1 ?_
  exact kk l p e s m args below meth c G A C hl (rg_k hr hs) hw H locs ls hP hD hS hv
theorem a_null (hd : (tb M)[k]? = some (pc, .aconst_null, 1, np, tg)) (kk : AW M P np lv (vn :: st) h) : AW M P pc lv st h := by
  intro l p e s m args below meth c G A C hl hs hw H locs ls hP hD hS hv
  obtain ⟨d1, rfl, d3, d4⟩ := ok_at C.2.2.2.2.2.2.2.2.1 hd
  refine lv_null C.1 C.2.1 d1 ?_
  exact kk l p e s m args below meth c G A C hl (rg_k trivial hs) hw H locs ls hP hD hS hv
/-- a local's value, by its place in the list -/
theorem lv_get {ls : Array Slot} {nL j i : Nat} {ad : Nat → Nat → Nat} {v : AV} (hv : lv_has ls nL (lvc ad lv)) (hj : lv[j]? = some (i, v)) : ls[i]? = some (.val (cv ad v)) := lv_at hv j (by simp [lvc, hj])
theorem lv_rgj {j i : Nat} {v : AV} (hl : ∀ q ∈ lv, rg q.2) (hj : lv[j]? = some (i, v)) : rg v := hl _ (List.mem_of_getElem? hj)

theorem a_iloadn {a : Int} {x : Fin 4} (j : Nat) (hd : (tb M)[k]? = some (pc, .iload_n x, 1, np, tg)) (hj : lv[j]? = some (x.val, vi a)) (kk : AW M P np lv (vi a :: st) h) : AW M P pc lv st h := by
  intro l p e s m args below meth c G A C hl hs hw H locs ls hP hD hS hv
  obtain ⟨d1, rfl, d3, d4⟩ := ok_at C.2.2.2.2.2.2.2.2.1 hd
  refine lv_iload_n C.1 C.2.1 d1 rfl (lv_get hv hj) ?_
  exact kk l p e s m args below meth c G A C hl (rg_k (lv_rgj hl hj) hs) hw H locs ls hP hD hS hv
theorem a_iload {a : Int} {x : Nat} (j : Nat) (hd : (tb M)[k]? = some (pc, .iload x, 2, np, tg)) (hj : lv[j]? = some (x, vi a)) (kk : AW M P np lv (vi a :: st) h) : AW M P pc lv st h := by
  intro l p e s m args below meth c G A C hl hs hw H locs ls hP hD hS hv
  obtain ⟨d1, rfl, d3, d4⟩ := ok_at C.2.2.2.2.2.2.2.2.1 hd
  refine lv_iload C.1 C.2.1 d1 (lv_get hv hj) ?_
  exact kk l p e s m args below meth c G A C hl (rg_k (lv_rgj hl hj) hs) hw H locs ls hP hD hS hv

theorem a_lloadn {a : Int} {x : Fin 4} (j : Nat) (hd : (tb M)[k]? = some (pc, .lload_n x, 1, np, tg)) (hj : lv[j]? = some (x.val, vl a)) (kk : AW M P np lv (vl a :: st) h) : AW M P pc lv st h := by
  intro l p e s m args below meth c G A C hl hs hw H locs ls hP hD hS hv
  obtain ⟨d1, rfl, d3, d4⟩ := ok_at C.2.2.2.2.2.2.2.2.1 hd
  refine lv_lload_n C.1 C.2.1 d1 rfl (lv_get hv hj) ?_
  exact kk l p e s m args below meth c G A C hl (rg_k (lv_rgj hl hj) hs) hw H locs ls hP hD hS hv
theorem a_lload {a : Int} {x : Nat} (j : Nat) (hd : (tb M)[k]? = some (pc, .lload x, 2, np, tg)) (hj : lv[j]? = some (x, vl a)) (kk : AW M P np lv (vl a :: st) h) : AW M P pc lv st h := by
  intro l p e s m args below meth c G A C hl hs hw H locs ls hP hD hS hv
  obtain ⟨d1, rfl, d3, d4⟩ := ok_at C.2.2.2.2.2.2.2.2.1 hd
  refine lv_lload C.1 C.2.1 d1 (lv_get hv hj) ?_
  exact kk l p e s m args below meth c G A C hl (rg_k (lv_rgj hl hj) hs) hw H locs ls hP hD hS hv

theorem a_aloadn {t i : Nat} {x : Fin 4} (j : Nat) (hd : (tb M)[k]? = some (pc, .aload_n x, 1, np, tg)) (hj : lv[j]? = some (x.val, vr t i)) (kk : AW M P np lv (vr t i :: st) h) : AW M P pc lv st h := by
  intro l p e s m args below meth c G A C hl hs hw H locs ls hP hD hS hv
  obtain ⟨d1, rfl, d3, d4⟩ := ok_at C.2.2.2.2.2.2.2.2.1 hd
  refine lv_aload_n C.1 C.2.1 d1 rfl (lv_get hv hj) ?_
  exact kk l p e s m args below meth c G A C hl (rg_k (lv_rgj hl hj) hs) hw H locs ls hP hD hS hv
theorem a_aload {t i : Nat} {x : Nat} (j : Nat) (hd : (tb M)[k]? = some (pc, .aload x, 2, np, tg)) (hj : lv[j]? = some (x, vr t i)) (kk : AW M P np lv (vr t i :: st) h) : AW M P pc lv st h := by
  intro l p e s m args below meth c G A C hl hs hw H locs ls hP hD hS hv
  obtain ⟨d1, rfl, d3, d4⟩ := ok_at C.2.2.2.2.2.2.2.2.1 hd
  refine lv_aload C.1 C.2.1 d1 (lv_get hv hj) ?_
  exact kk l p e s m args below meth c G A C hl (rg_k (lv_rgj hl hj) hs) hw H locs ls hP hD hS hv

/-- locals behind a store -/
def isl (v : AV) : Bool := match v with | .inr (.inl _) => true | _ => false
def s1 (lv : LV) (i : Nat) (v : AV) : LV := (i, v) :: lv.filter fun q => !(q.1 == i) && !(q.1 + 1 == i && isl q.2)
def s2 (lv : LV) (i : Nat) (v : AV) : LV := (i, v) :: lv.filter fun q => !(q.1 == i) && (!(q.1 == i + 1) && !(q.1 + 1 == i && isl q.2))
theorem cat_cv (ad : Nat → Nat → Nat) (v : AV) : ((cv ad v).category == 2) = isl v := by
  match v with
  | .inl a => rfl
  | .inr (.inl a) => rfl
  | .inr (.inr (some q)) => rfl
  | .inr (.inr none) => rfl
theorem s1_cv (ad : Nat → Nat → Nat) (lv : LV) (i : Nat) (v : AV) : (i, cv ad v) :: (lvc ad lv).filter (fun q => !(q.1 == i) && !(q.1 + 1 == i && q.2.category == 2)) = lvc ad (s1 lv i v) := by
  unfold s1 lvc
  rw [List.map_cons, List.filter_map]
  congr 2
  apply List.filter_congr
  intro q _
  simp only [Function.comp, cat_cv]
theorem s2_cv (ad : Nat → Nat → Nat) (lv : LV) (i : Nat) (v : AV) : (i, cv ad v) :: (lvc ad lv).filter (fun q => !(q.1 == i) && (!(q.1 == i + 1) && !(q.1 + 1 == i && q.2.category == 2))) = lvc ad (s2 lv i v) := by
  unfold s2 lvc
  rw [List.map_cons, List.filter_map]
  congr 2
  apply List.filter_congr
  intro q _
  simp only [Function.comp, cat_cv]
theorem s1_rg {lv : LV} {i : Nat} {v : AV} (hv : rg v) (hl : ∀ q ∈ lv, rg q.2) : ∀ q ∈ s1 lv i v, rg q.2 := fun q hq => by
  rcases List.mem_cons.mp hq with rfl | hq
  · exact hv
  · exact hl q (List.mem_filter.mp hq).1
theorem s2_rg {lv : LV} {i : Nat} {v : AV} (hv : rg v) (hl : ∀ q ∈ lv, rg q.2) : ∀ q ∈ s2 lv i v, rg q.2 := fun q hq => by
  rcases List.mem_cons.mp hq with rfl | hq
  · exact hv
  · exact hl q (List.mem_filter.mp hq).1

theorem a_istoren {a : Int} {x : Fin 4} {lv' : LV} (hd : (tb M)[k]? = some (pc, .istore_n x, 1, np, tg)) (hn : x.val < M.2.2.1) (hl' : s1 lv x.val (vi a) = lv') (kk : AW M P np lv' st h) : AW M P pc lv (vi a :: st) h := by
  intro l p e s m args below meth c G A C hl hs hw H locs ls hP hD hS hv
  obtain ⟨d1, rfl, d3, d4⟩ := ok_at C.2.2.2.2.2.2.2.2.1 hd
  obtain ⟨r1, hs⟩ := rg_c hs
  subst hl'
  refine lv_istore_n C.1 C.2.1 d1 rfl hv hn (s1_cv G.2.2 lv x.val (vi a)) fun ls' hv' => ?_
  exact kk l p e s m args below meth c G A C (s1_rg r1 hl) hs hw H locs ls' hP hD hS hv'

theorem a_istore {a : Int} {x : Nat} {lv' : LV} (hd : (tb M)[k]? = some (pc, .istore x, 2, np, tg)) (hn : x < M.2.2.1) (hl' : s1 lv x (vi a) = lv') (kk : AW M P np lv' st h) : AW M P pc lv (vi a :: st) h := by
  intro l p e s m args below meth c G A C hl hs hw H locs ls hP hD hS hv
  obtain ⟨d1, rfl, d3, d4⟩ := ok_at C.2.2.2.2.2.2.2.2.1 hd
  obtain ⟨r1, hs⟩ := rg_c hs
  subst hl'
  refine lv_istore C.1 C.2.1 d1 hv hn (s1_cv G.2.2 lv x (vi a)) fun ls' hv' => ?_
  exact kk l p e s m args below meth c G A C (s1_rg r1 hl) hs hw H locs ls' hP hD hS hv'

theorem a_astoren {t i : Nat} {x : Fin 4} {lv' : LV} (hd : (tb M)[k]? = some (pc, .astore_n x, 1, np, tg)) (hn : x.val < M.2.2.1) (hl' : s1 lv x.val (vr t i) = lv') (kk : AW M P np lv' st h) : AW M P pc lv (vr t i :: st) h := by
  intro l p e s m args below meth c G A C hl hs hw H locs ls hP hD hS hv
  obtain ⟨d1, rfl, d3, d4⟩ := ok_at C.2.2.2.2.2.2.2.2.1 hd
  obtain ⟨r1, hs⟩ := rg_c hs
  subst hl'
  refine lv_astore_n C.1 C.2.1 d1 rfl hv hn (s1_cv G.2.2 lv x.val (vr t i)) fun ls' hv' => ?_
  exact kk l p e s m args below meth c G A C (s1_rg r1 hl) hs hw H locs ls' hP hD hS hv'

theorem a_astore {t i : Nat} {x : Nat} {lv' : LV} (hd : (tb M)[k]? = some (pc, .astore x, 2, np, tg)) (hn : x < M.2.2.1) (hl' : s1 lv x (vr t i) = lv') (kk : AW M P np lv' st h) : AW M P pc lv (vr t i :: st) h := by
  intro l p e s m args below meth c G A C hl hs hw H locs ls hP hD hS hv
  obtain ⟨d1, rfl, d3, d4⟩ := ok_at C.2.2.2.2.2.2.2.2.1 hd
  obtain ⟨r1, hs⟩ := rg_c hs
  subst hl'
  refine lv_astore C.1 C.2.1 d1 hv hn (s1_cv G.2.2 lv x (vr t i)) fun ls' hv' => ?_
  exact kk l p e s m args below meth c G A C (s1_rg r1 hl) hs hw H locs ls' hP hD hS hv'

theorem a_lstoren {a : Int} {x : Fin 4} {lv' : LV} (hd : (tb M)[k]? = some (pc, .lstore_n x, 1, np, tg)) (hn : x.val + 1 < M.2.2.1) (hl' : s2 lv x.val (vl a) = lv') (kk : AW M P np lv' st h) : AW M P pc lv (vl a :: st) h := by
  intro l p e s m args below meth c G A C hl hs hw H locs ls hP hD hS hv
  obtain ⟨d1, rfl, d3, d4⟩ := ok_at C.2.2.2.2.2.2.2.2.1 hd
  obtain ⟨r1, hs⟩ := rg_c hs
  subst hl'
  refine lv_lstore_n C.1 C.2.1 d1 rfl hv hn (s2_cv G.2.2 lv x.val (vl a)) fun ls' hv' => ?_
  exact kk l p e s m args below meth c G A C (s2_rg r1 hl) hs hw H locs ls' hP hD hS hv'

theorem a_lstore {a : Int} {x : Nat} {lv' : LV} (hd : (tb M)[k]? = some (pc, .lstore x, 2, np, tg)) (hn : x + 1 < M.2.2.1) (hl' : s2 lv x (vl a) = lv') (kk : AW M P np lv' st h) : AW M P pc lv (vl a :: st) h := by
  intro l p e s m args below meth c G A C hl hs hw H locs ls hP hD hS hv
  obtain ⟨d1, rfl, d3, d4⟩ := ok_at C.2.2.2.2.2.2.2.2.1 hd
  obtain ⟨r1, hs⟩ := rg_c hs
  subst hl'
  refine lv_lstore C.1 C.2.1 d1 hv hn (s2_cv G.2.2 lv x (vl a)) fun ls' hv' => ?_
  exact kk l p e s m args below meth c G A C (s2_rg r1 hl) hs hw H locs ls' hP hD hS hv'

theorem a_astoreN {x : Nat} {lv' : LV} (hd : (tb M)[k]? = some (pc, .astore x, 2, np, tg)) (kk : AW M P np lv' st h) (hf : False) : AW M P pc lv (vn :: st) h := hf.elim
theorem a_iinc {a : Int} {x : Nat} {n : Int} {lv' : LV} (j : Nat) (hd : (tb M)[k]? = some (pc, .iinc x n, 3, np, tg)) (hj : lv[j]? = some (x, vi a)) (hn : x < M.2.2.1) (hl' : s1 lv x (vi (ia a n)) = lv') (kk : AW M P np lv' st h) : AW M P pc lv st h := by
  intro l p e s m args below meth c G A C hl hs hw H locs ls hP hD hS hv
  obtain ⟨d1, rfl, d3, d4⟩ := ok_at C.2.2.2.2.2.2.2.2.1 hd
  subst hl'
  refine lv_iinc C.1 C.2.1 d1 hv (k := j) (x := Int32.ofInt a) (by simp [lvc, hj]; rfl) (cv_ia a n).symm hn (s1_cv G.2.2 lv x (vi (ia a n))) fun ls' hv' => ?_
  exact kk l p e s m args below meth c G A C (s1_rg (i3_of _) hl) hs hw H locs ls' hP hD hS hv'
theorem cat1_cv {ad : Nat → Nat → Nat} {v : AV} (h : isl v = false) : (cv ad v).category = 1 := by
  match v, h with
  | .inl a, _ => rfl
  | .inr (.inr (some q)), _ => rfl
  | .inr (.inr none), _ => rfl
theorem a_dup {v : AV} (hd : (tb M)[k]? = some (pc, .dup, 1, np, tg)) (hc : isl v = false) (kk : AW M P np lv (v :: v :: st) h) : AW M P pc lv (v :: st) h := by
  intro l p e s m args below meth c G A C hl hs hw H locs ls hP hD hS hv
  obtain ⟨d1, rfl, d3, d4⟩ := ok_at C.2.2.2.2.2.2.2.2.1 hd
  refine lv_dup C.1 C.2.1 d1 (cat1_cv hc) ?_
  exact kk l p e s m args below meth c G A C hl (rg_k (rg_c hs).1 hs) hw H locs ls hP hD hS hv
theorem a_dup2 {v w : AV} (hd : (tb M)[k]? = some (pc, .dup2, 1, np, tg)) (hc : isl v = false) (hc2 : isl w = false) (kk : AW M P np lv (v :: w :: v :: w :: st) h) : AW M P pc lv (v :: w :: st) h := by
  intro l p e s m args below meth c G A C hl hs hw H locs ls hP hD hS hv
  obtain ⟨d1, rfl, d3, d4⟩ := ok_at C.2.2.2.2.2.2.2.2.1 hd
  refine lv_dup2_11 C.1 C.2.1 d1 (cat1_cv hc) (cat1_cv hc2) ?_
  exact kk l p e s m args below meth c G A C hl (rg_k (rg_c hs).1 (rg_k (rg_c (rg_c hs).2).1 hs)) hw H locs ls hP hD hS hv
theorem a_pop {v : AV} (hd : (tb M)[k]? = some (pc, .pop, 1, np, tg)) (hc : isl v = false) (kk : AW M P np lv st h) : AW M P pc lv (v :: st) h := by
  intro l p e s m args below meth c G A C hl hs hw H locs ls hP hD hS hv
  obtain ⟨d1, rfl, d3, d4⟩ := ok_at C.2.2.2.2.2.2.2.2.1 hd
  refine lv_pop C.1 C.2.1 d1 (cat1_cv hc) ?_
  exact kk l p e s m args below meth c G A C hl (rg_c hs).2 hw H locs ls hP hD hS hv
theorem a_goto {o : Int} (hd : (tb M)[k]? = some (pc, .goto o, 3, np, tg)) (kk : AW M P tg lv st h) : AW M P pc lv st h := by
  intro l p e s m args below meth c G A C hl hs hw H locs ls hP hD hS hv
  obtain ⟨d1, rfl, d3, d4⟩ := ok_at C.2.2.2.2.2.2.2.2.1 hd
  refine lv_goto C.1 C.2.1 d1 (d4 _ rfl) ?_
  exact kk l p e s m args below meth c G A C hl hs hw H locs ls hP hD hS hv

theorem a_icmp_eq {a b o : Int} (hd : (tb M)[k]? = some (pc, .if_icmp .eq o, 3, np, tg)) (k1 : a = b → AW M P tg lv st h) (k2 : ¬ a = b → AW M P np lv st h) : AW M P pc lv (vi b :: vi a :: st) h := by
  intro l p e s m args below meth c G A C hl hs hw H locs ls hP hD hS hv
  obtain ⟨d1, rfl, d3, d4⟩ := ok_at C.2.2.2.2.2.2.2.2.1 hd
  obtain ⟨r1, hs⟩ := rg_c hs
  obtain ⟨r2, hs⟩ := rg_c hs
  exact lv_icmp_eq C.1 C.2.1 d1 (d4 _ rfl) (fun q => k1 ((c3_eq r2 r1).mp q) l p e s m args below meth c G A C hl hs hw H locs ls hP hD hS hv) (fun q => k2 ((not_congr (c3_eq r2 r1)).mp q) l p e s m args below meth c G A C hl hs hw H locs ls hP hD hS hv)

theorem a_icmp_ne {a b o : Int} (hd : (tb M)[k]? = some (pc, .if_icmp .ne o, 3, np, tg)) (k1 : ¬ a = b → AW M P tg lv st h) (k2 : a = b → AW M P np lv st h) : AW M P pc lv (vi b :: vi a :: st) h := by
  intro l p e s m args below meth c G A C hl hs hw H locs ls hP hD hS hv
  obtain ⟨d1, rfl, d3, d4⟩ := ok_at C.2.2.2.2.2.2.2.2.1 hd
  obtain ⟨r1, hs⟩ := rg_c hs
  obtain ⟨r2, hs⟩ := rg_c hs
  exact lv_icmp_ne C.1 C.2.1 d1 (d4 _ rfl) (fun q => k1 ((not_congr (c3_eq r2 r1)).mp q) l p e s m args below meth c G A C hl hs hw H locs ls hP hD hS hv) (fun q => k2 ((c3_eq r2 r1).mp q) l p e s m args below meth c G A C hl hs hw H locs ls hP hD hS hv)

theorem a_icmp_lt {a b o : Int} (hd : (tb M)[k]? = some (pc, .if_icmp .lt o, 3, np, tg)) (k1 : a < b → AW M P tg lv st h) (k2 : ¬ a < b → AW M P np lv st h) : AW M P pc lv (vi b :: vi a :: st) h := by
  intro l p e s m args below meth c G A C hl hs hw H locs ls hP hD hS hv
  obtain ⟨d1, rfl, d3, d4⟩ := ok_at C.2.2.2.2.2.2.2.2.1 hd
  obtain ⟨r1, hs⟩ := rg_c hs
  obtain ⟨r2, hs⟩ := rg_c hs
  exact lv_icmp_lt C.1 C.2.1 d1 (d4 _ rfl) (fun q => k1 ((c3_lt r2 r1).mp q) l p e s m args below meth c G A C hl hs hw H locs ls hP hD hS hv) (fun q => k2 ((not_congr (c3_lt r2 r1)).mp q) l p e s m args below meth c G A C hl hs hw H locs ls hP hD hS hv)

theorem a_icmp_ge {a b o : Int} (hd : (tb M)[k]? = some (pc, .if_icmp .ge o, 3, np, tg)) (k1 : b ≤ a → AW M P tg lv st h) (k2 : ¬ b ≤ a → AW M P np lv st h) : AW M P pc lv (vi b :: vi a :: st) h := by
  intro l p e s m args below meth c G A C hl hs hw H locs ls hP hD hS hv
  obtain ⟨d1, rfl, d3, d4⟩ := ok_at C.2.2.2.2.2.2.2.2.1 hd
  obtain ⟨r1, hs⟩ := rg_c hs
  obtain ⟨r2, hs⟩ := rg_c hs
  exact lv_icmp_ge C.1 C.2.1 d1 (d4 _ rfl) (fun q => k1 ((c3_le r1 r2).mp q) l p e s m args below meth c G A C hl hs hw H locs ls hP hD hS hv) (fun q => k2 ((not_congr (c3_le r1 r2)).mp q) l p e s m args below meth c G A C hl hs hw H locs ls hP hD hS hv)

theorem a_icmp_gt {a b o : Int} (hd : (tb M)[k]? = some (pc, .if_icmp .gt o, 3, np, tg)) (k1 : b < a → AW M P tg lv st h) (k2 : ¬ b < a → AW M P np lv st h) : AW M P pc lv (vi b :: vi a :: st) h := by
  intro l p e s m args below meth c G A C hl hs hw H locs ls hP hD hS hv
  obtain ⟨d1, rfl, d3, d4⟩ := ok_at C.2.2.2.2.2.2.2.2.1 hd
  obtain ⟨r1, hs⟩ := rg_c hs
  obtain ⟨r2, hs⟩ := rg_c hs
  exact lv_icmp_gt C.1 C.2.1 d1 (d4 _ rfl) (fun q => k1 ((c3_lt r1 r2).mp q) l p e s m args below meth c G A C hl hs hw H locs ls hP hD hS hv) (fun q => k2 ((not_congr (c3_lt r1 r2)).mp q) l p e s m args below meth c G A C hl hs hw H locs ls hP hD hS hv)

theorem a_icmp_le {a b o : Int} (hd : (tb M)[k]? = some (pc, .if_icmp .le o, 3, np, tg)) (k1 : a ≤ b → AW M P tg lv st h) (k2 : ¬ a ≤ b → AW M P np lv st h) : AW M P pc lv (vi b :: vi a :: st) h := by
  intro l p e s m args below meth c G A C hl hs hw H locs ls hP hD hS hv
  obtain ⟨d1, rfl, d3, d4⟩ := ok_at C.2.2.2.2.2.2.2.2.1 hd
  obtain ⟨r1, hs⟩ := rg_c hs
  obtain ⟨r2, hs⟩ := rg_c hs
  exact lv_icmp_le C.1 C.2.1 d1 (d4 _ rfl) (fun q => k1 ((c3_le r2 r1).mp q) l p e s m args below meth c G A C hl hs hw H locs ls hP hD hS hv) (fun q => k2 ((not_congr (c3_le r2 r1)).mp q) l p e s m args below meth c G A C hl hs hw H locs ls hP hD hS hv)

theorem a_if_eq {a o : Int} (hd : (tb M)[k]? = some (pc, .ifCond .eq o, 3, np, tg)) (k1 : a = 0 → AW M P tg lv st h) (k2 : ¬ a = 0 → AW M P np lv st h) : AW M P pc lv (vi a :: st) h := by
  intro l p e s m args below meth c G A C hl hs hw H locs ls hP hD hS hv
  obtain ⟨d1, rfl, d3, d4⟩ := ok_at C.2.2.2.2.2.2.2.2.1 hd
  obtain ⟨r1, hs⟩ := rg_c hs
  exact lv_if_eq C.1 C.2.1 d1 (d4 _ rfl) (fun q => k1 ((c3_eq r1 c0_3).mp q) l p e s m args below meth c G A C hl hs hw H locs ls hP hD hS hv) (fun q => k2 ((not_congr (c3_eq r1 c0_3)).mp q) l p e s m args below meth c G A C hl hs hw H locs ls hP hD hS hv)

theorem a_if_ne {a o : Int} (hd : (tb M)[k]? = some (pc, .ifCond .ne o, 3, np, tg)) (k1 : ¬ a = 0 → AW M P tg lv st h) (k2 : a = 0 → AW M P np lv st h) : AW M P pc lv (vi a :: st) h := by
  intro l p e s m args below meth c G A C hl hs hw H locs ls hP hD hS hv
  obtain ⟨d1, rfl, d3, d4⟩ := ok_at C.2.2.2.2.2.2.2.2.1 hd
  obtain ⟨r1, hs⟩ := rg_c hs
  exact lv_if_ne C.1 C.2.1 d1 (d4 _ rfl) (fun q => k1 ((not_congr (c3_eq r1 c0_3)).mp q) l p e s m args below meth c G A C hl hs hw H locs ls hP hD hS hv) (fun q => k2 ((c3_eq r1 c0_3).mp q) l p e s m args below meth c G A C hl hs hw H locs ls hP hD hS hv)

theorem a_if_lt {a o : Int} (hd : (tb M)[k]? = some (pc, .ifCond .lt o, 3, np, tg)) (k1 : a < 0 → AW M P tg lv st h) (k2 : ¬ a < 0 → AW M P np lv st h) : AW M P pc lv (vi a :: st) h := by
  intro l p e s m args below meth c G A C hl hs hw H locs ls hP hD hS hv
  obtain ⟨d1, rfl, d3, d4⟩ := ok_at C.2.2.2.2.2.2.2.2.1 hd
  obtain ⟨r1, hs⟩ := rg_c hs
  exact lv_if_lt C.1 C.2.1 d1 (d4 _ rfl) (fun q => k1 ((c3_lt r1 c0_3).mp q) l p e s m args below meth c G A C hl hs hw H locs ls hP hD hS hv) (fun q => k2 ((not_congr (c3_lt r1 c0_3)).mp q) l p e s m args below meth c G A C hl hs hw H locs ls hP hD hS hv)

theorem a_if_ge {a o : Int} (hd : (tb M)[k]? = some (pc, .ifCond .ge o, 3, np, tg)) (k1 : 0 ≤ a → AW M P tg lv st h) (k2 : ¬ 0 ≤ a → AW M P np lv st h) : AW M P pc lv (vi a :: st) h := by
  intro l p e s m args below meth c G A C hl hs hw H locs ls hP hD hS hv
  obtain ⟨d1, rfl, d3, d4⟩ := ok_at C.2.2.2.2.2.2.2.2.1 hd
  obtain ⟨r1, hs⟩ := rg_c hs
  exact lv_if_ge C.1 C.2.1 d1 (d4 _ rfl) (fun q => k1 ((c3_le c0_3 r1).mp q) l p e s m args below meth c G A C hl hs hw H locs ls hP hD hS hv) (fun q => k2 ((not_congr (c3_le c0_3 r1)).mp q) l p e s m args below meth c G A C hl hs hw H locs ls hP hD hS hv)

theorem a_if_gt {a o : Int} (hd : (tb M)[k]? = some (pc, .ifCond .gt o, 3, np, tg)) (k1 : 0 < a → AW M P tg lv st h) (k2 : ¬ 0 < a → AW M P np lv st h) : AW M P pc lv (vi a :: st) h := by
  intro l p e s m args below meth c G A C hl hs hw H locs ls hP hD hS hv
  obtain ⟨d1, rfl, d3, d4⟩ := ok_at C.2.2.2.2.2.2.2.2.1 hd
  obtain ⟨r1, hs⟩ := rg_c hs
  exact lv_if_gt C.1 C.2.1 d1 (d4 _ rfl) (fun q => k1 ((c3_lt c0_3 r1).mp q) l p e s m args below meth c G A C hl hs hw H locs ls hP hD hS hv) (fun q => k2 ((not_congr (c3_lt c0_3 r1)).mp q) l p e s m args below meth c G A C hl hs hw H locs ls hP hD hS hv)

theorem a_if_le {a o : Int} (hd : (tb M)[k]? = some (pc, .ifCond .le o, 3, np, tg)) (k1 : a ≤ 0 → AW M P tg lv st h) (k2 : ¬ a ≤ 0 → AW M P np lv st h) : AW M P pc lv (vi a :: st) h := by
  intro l p e s m args below meth c G A C hl hs hw H locs ls hP hD hS hv
  obtain ⟨d1, rfl, d3, d4⟩ := ok_at C.2.2.2.2.2.2.2.2.1 hd
  obtain ⟨r1, hs⟩ := rg_c hs
  exact lv_if_le C.1 C.2.1 d1 (d4 _ rfl) (fun q => k1 ((c3_le r1 c0_3).mp q) l p e s m args below meth c G A C hl hs hw H locs ls hP hD hS hv) (fun q => k2 ((not_congr (c3_le r1 c0_3)).mp q) l p e s m args below meth c G A C hl hs hw H locs ls hP hD hS hv)

theorem a_nullR {t i : Nat} {o : Int} (hd : (tb M)[k]? = some (pc, .ifnull o, 3, np, tg)) (kk : AW M P np lv st h) : AW M P pc lv (vr t i :: st) h := by
  intro l p e s m args below meth c G A C hl hs hw H locs ls hP hD hS hv
  obtain ⟨d1, rfl, d3, d4⟩ := ok_at C.2.2.2.2.2.2.2.2.1 hd
  refine lv_ifnull C.1 C.2.1 d1 ?_
  exact kk l p e s m args below meth c G A C hl (rg_c hs).2 hw H locs ls hP hD hS hv

theorem a_nullN {o : Int} (hd : (tb M)[k]? = some (pc, .ifnull o, 3, np, tg)) (kk : AW M P tg lv st h) : AW M P pc lv (vn :: st) h := by
  intro l p e s m args below meth c G A C hl hs hw H locs ls hP hD hS hv
  obtain ⟨d1, rfl, d3, d4⟩ := ok_at C.2.2.2.2.2.2.2.2.1 hd
  refine lv_ifnullN C.1 C.2.1 d1 (d4 _ rfl) ?_
  exact kk l p e s m args below meth c G A C hl (rg_c hs).2 hw H locs ls hP hD hS hv

theorem a_nonnullR {t i : Nat} {o : Int} (hd : (tb M)[k]? = some (pc, .ifnonnull o, 3, np, tg)) (kk : AW M P tg lv st h) : AW M P pc lv (vr t i :: st) h := by
  intro l p e s m args below meth c G A C hl hs hw H locs ls hP hD hS hv
  obtain ⟨d1, rfl, d3, d4⟩ := ok_at C.2.2.2.2.2.2.2.2.1 hd
  refine lv_ifnonnull C.1 C.2.1 d1 (d4 _ rfl) ?_
  exact kk l p e s m args below meth c G A C hl (rg_c hs).2 hw H locs ls hP hD hS hv

theorem a_nonnullN {o : Int} (hd : (tb M)[k]? = some (pc, .ifnonnull o, 3, np, tg)) (kk : AW M P np lv st h) : AW M P pc lv (vn :: st) h := by
  intro l p e s m args below meth c G A C hl hs hw H locs ls hP hD hS hv
  obtain ⟨d1, rfl, d3, d4⟩ := ok_at C.2.2.2.2.2.2.2.2.1 hd
  refine lv_ifnonnullN C.1 C.2.1 d1 ?_
  exact kk l p e s m args below meth c G A C hl (rg_c hs).2 hw H locs ls hP hD hS hv

theorem a_tabIn {a dflt lo hi o : Int} {offs : Array Int} {n t : Nat} (hd : (tb M)[k]? = some (pc, .tableswitch dflt lo hi offs, n, np, tg)) (h1 : ¬ a < lo) (h2 : ¬ hi < a) (ho : offs[(a - lo).toNat]? = some o) (ht : (pc : Int) + o = (t : Int)) (kk : AW M P t lv st h) : AW M P pc lv (vi a :: st) h := by
  intro l p e s m args below meth c G A C hl hs hw H locs ls hP hD hS hv
  obtain ⟨d1, rfl, d3, d4⟩ := ok_at C.2.2.2.2.2.2.2.2.1 hd
  obtain ⟨r1, hs⟩ := rg_c hs
  refine lv_tableIn C.1 C.2.1 d1 (by rw [to3 r1]; exact h1) (by rw [to3 r1]; exact h2) (by rw [to3 r1]; exact ho) ht ?_
  exact kk l p e s m args below meth c G A C hl hs hw H locs ls hP hD hS hv
theorem a_tabOut {a dflt lo hi : Int} {offs : Array Int} {n t : Nat} (hd : (tb M)[k]? = some (pc, .tableswitch dflt lo hi offs, n, np, tg)) (h1 : a < lo ∨ hi < a) (ht : (pc : Int) + dflt = (t : Int)) (kk : AW M P t lv st h) : AW M P pc lv (vi a :: st) h := by
  intro l p e s m args below meth c G A C hl hs hw H locs ls hP hD hS hv
  obtain ⟨d1, rfl, d3, d4⟩ := ok_at C.2.2.2.2.2.2.2.2.1 hd
  obtain ⟨r1, hs⟩ := rg_c hs
  refine lv_tableOut C.1 C.2.1 d1 (by rw [to3 r1]; exact h1) ht ?_
  exact kk l p e s m args below meth c G A C hl hs hw H locs ls hP hD hS hv
/-- fewer locals, by their places -/
theorem a_sub {lv' : LV} (ks : List Nat) (hk : ks.filterMap (fun j => lv[j]?) = lv') (kk : AW M P pc lv' st h) : AW M P pc lv st h := by
  intro l p e s m args below meth c G A C hl hs hw H locs ls hP hD hS hv
  subst hk
  refine kk l p e s m args below meth c G A C (fun q hq => ?_) hs hw H locs ls hP hD hS ⟨hv.1, hv.2.1, fun q hq => ?_⟩
  · obtain ⟨j, -, hj⟩ := List.mem_filterMap.mp hq
    exact hl q (List.mem_of_getElem? hj)
  · obtain ⟨r, hr, rfl⟩ := List.mem_map.mp hq
    obtain ⟨j, -, hj⟩ := List.mem_filterMap.mp hr
    exact hv.2.2 _ (List.mem_map.mpr ⟨r, List.mem_of_getElem? hj, rfl⟩)
/-- what is known of all numbers -/
theorem a_know (kk : (∀ q ∈ lv, rg q.2) → (∀ v ∈ st, rg v) → HW h → AW M P pc lv st h) : AW M P pc lv st h := fun l p e s m args below meth c G A C hl hs hw => kk hl hs hw l p e s m args below meth c G A C hl hs hw
theorem a_eq {pc' : Nat} {lv' : LV} {st' : List AV} {h' : HH} (kk : AW M P pc' lv' st' h') (e1 : pc' = pc) (e2 : lv' = lv) (e3 : st' = st) (e4 : h' = h) : AW M P pc lv st h := by
  subst e1 e2 e3 e4; exact kk
end AWR
end
section
theorem rf_vt {t i k : Nat} {q : Nat × Nat} (hv : vt t i) (hk : ∀ an, ka t = some an → k < an.2) (h : rf t i k = some q) : vt q.1 q.2 := by
  obtain ⟨-, hi⟩ := hv
  unfold rf at h
  split at h <;> (try split at h) <;> first | (cases h; done) | (cases h; refine ⟨by simp [tg_all], ?_⟩; first | decide | (have hk' := hk _ rfl; simp only [cnt] at hi ⊢; first | omega | (dsimp only at hk'; omega)) | (simp only [cnt] at hi ⊢; omega))
theorem ci_all : ∀ (c : Nat) (q : vw_C), vwCl[c]? = some q → (∀ w ∈ u_ws q.1 q.2.1 q.2.2, w ∈ lw_gd) ∧ (∃ ty : Nat → FieldType, ∀ k, k < q.2.2 → parseFieldDescriptor (q.2.1 k).2.2.1 = some (ty k)) ∧ (∀ a, a < q.2.2 → ∀ b, b < q.2.2 → a ≠ b → (q.2.1 a).2.1 ≠ (q.2.1 b).2.1) := by
  intro c q hq
  match c, hq with
  | 0, hq => cases hq; exact ⟨by decide +kernel, ⟨_, tyX0_ok⟩, nmX0⟩
  | 1, hq => cases hq; exact ⟨by decide +kernel, ⟨_, tyX1_ok⟩, nmX1⟩
  | 2, hq => cases hq; exact ⟨by decide +kernel, ⟨_, tyX2_ok⟩, nmX2⟩
  | 3, hq => cases hq; exact ⟨by decide +kernel, ⟨_, tyX3_ok⟩, nmX3⟩
  | 4, hq => cases hq; exact ⟨by decide +kernel, ⟨_, tyX4_ok⟩, nmX4⟩
  | 5, hq => cases hq; exact ⟨by decide +kernel, ⟨_, tyX5_ok⟩, nmX5⟩
  | 6, hq => cases hq; exact ⟨by decide +kernel, ⟨_, tyX6_ok⟩, nmX6⟩
  | 7, hq => cases hq; exact ⟨by decide +kernel, ⟨_, tyX7_ok⟩, nmX7⟩
  | 8, hq => cases hq; exact ⟨by decide +kernel, ⟨_, tyX8_ok⟩, nmX8⟩
  | 9, hq => cases hq; exact ⟨by decide +kernel, ⟨_, tyX9_ok⟩, nmX9⟩
  | 10, hq => cases hq; exact ⟨by decide +kernel, ⟨_, tyX10_ok⟩, nmX10⟩
  | 11, hq => cases hq; exact ⟨by decide +kernel, ⟨_, tyX11_ok⟩, nmX11⟩
  | c + 12, hq => simp [vwCl] at hq
def fl (own : String) (x ci kf : Nat) : Prop := ∃ q : vw_C, vwCl[ci]? = some q ∧ kf < q.2.2 ∧ Cond.fieldLink own x (q.2.1 kf).1 (q.2.1 kf).2.1 (q.2.1 kf).2.2.1 ∈ lw_gd
def fp (own : String) (x ci kf : Nat) (ty : FieldType) : Prop := ∃ q : vw_C, vwCl[ci]? = some q ∧ kf < q.2.2 ∧ Cond.fieldLink own x (q.2.1 kf).1 (q.2.1 kf).2.1 (q.2.1 kf).2.2.1 ∈ lw_gd ∧ (q.2.1 kf).2.2.2 = false ∧ parseFieldDescriptor (q.2.1 kf).2.2.1 = some ty
theorem nfc_of {c : Nat} {q : vw_C} (h : vwCl[c]? = some q) : nfc c = q.2.2 := by simp [nfc, h]
theorem ce_o {G : GG} {t i c : Nat} {g : Nat → Int} (h : ko t = some c) : ce G t i g = .inr (c, (List.range (nfc c)).map fun k => fv G.2.2 t i k (g k)) := by simp [ce, h]
theorem ce_i {G : GG} {t i a n : Nat} {g : Nat → Int} (h : ko t = none) (h2 : ka t = some (a, n)) (h3 : a ≤ 1) : ce G t i g = .inl (G.2.1 a, n, .inl fun k => Int32.ofInt (g k)) := by simp [ce, h, h2, h3]
theorem ce_q {G : GG} {t i a n : Nat} {g : Nat → Int} (h : ko t = none) (h2 : ka t = some (a, n)) (h3 : ¬ a ≤ 1) : ce G t i g = .inl (G.2.1 a, n, .inr (.inr (.inr (.inr fun k => (rf t i k).map fun q => G.2.2 q.1 q.2)))) := by simp [ce, h, h2, h3]
theorem put_same (h : HH) (t i k : Nat) (v : Int) : put h t i k v t i k = v := by simp [put]
theorem put_at (h : HH) (t i k : Nat) (v : Int) (j : Nat) : put h t i k v t i j = if j = k then v else h t i j := by simp [put]
theorem put_oc (h : HH) (t i k : Nat) (v : Int) (t' i' : Nat) (hne : ¬ (t' = t ∧ i' = i)) : put h t i k v t' i' = h t' i' := by
  funext j
  unfold put
  rw [if_neg (fun q => hne ⟨q.1, q.2.1⟩)]
theorem ce_put {G : GG} {t i c kf : Nat} {h : HH} {a : Int} (ho : ko t = some c) (hr : rf t i kf = none) : ce G t i (put h t i kf a t i) = .inr (c, ((List.range (nfc c)).map fun k => fv G.2.2 t i k (h t i k)).set kf (.int (Int32.ofInt a))) := by
  rw [ce_o ho]
  congr 2
  apply List.ext_getElem?
  intro j
  rw [List.getElem?_set]
  by_cases hj : kf = j
  · subst hj
    by_cases hl : kf < nfc c
    · simp [hl, fv, hr, put_at]
    · simp [hl]
  · rw [if_neg hj]
    by_cases hl : j < nfc c
    · simp [hl, put_at, Ne.symm hj]
    · simp [hl]
theorem ce_putA {G : GG} {t i a n k : Nat} {h : HH} {x : Int} (ho : ko t = none) (h2 : ka t = some (a, n)) (h3 : a ≤ 1) : ce G t i (put h t i k x t i) = .inl (G.2.1 a, n, .inl (upd (fun j => Int32.ofInt (h t i j)) k (Int32.ofInt x))) := by
  rw [ce_i ho h2 h3]
  congr 4
  funext j
  rw [put_at, upd]
  split <;> rfl
section AWH
variable {M : MD} {P : Option AV → HH → Prop} {lv : LV} {st : List AV} {h : HH} {k pc np tg t i : Nat}
theorem a_geti {x ci kf : Nat} (hd : (tb M)[k]? = some (pc, .getfield x, 3, np, tg)) (hf : fl M.1.cls x ci kf) (ho : ko t = some ci) (hr : rf t i kf = none) (kk : AW M P np lv (vi (h t i kf) :: st) h) : AW M P pc lv (vr t i :: st) h := by
  intro l p e s m args below meth c G A C hl hs hw H locs ls hP hD hS hv
  obtain ⟨d1, rfl, d3, d4⟩ := ok_at C.2.2.2.2.2.2.2.2.1 hd
  obtain ⟨r1, hs⟩ := rg_c hs
  have r1 : vt t i := r1
  obtain ⟨q, hq, hk, hlk⟩ := hf
  obtain ⟨k0, h1, h2⟩ := ws_at (G := G) (h := h) r1
  rw [ce_o ho] at h2
  refine va_get (D := G.1) (v := .int (Int32.ofInt (h t i kf))) C.1 C.2.1 (fun w hw => C.2.2.2.2.2.1 w (List.mem_cons_of_mem _ hw)) (ci_all ci q hq).1 C.2.2.2.2.1 C.2.2.2.2.2.2.2.1.1 hP k0 h2 hq kf hk (C.2.2.2.2.2.1 _ (List.mem_cons_of_mem _ hlk)) (fun _ z => z) ?_ d1 ?_
  · simp [nfc_of hq, hk, fv, hr]
  exact kk l p e s m args below meth c G A C hl (rg_k (hw t i kf) hs) hw H locs ls hP hD hS hv
theorem a_getr {x ci kf t' i' : Nat} (hd : (tb M)[k]? = some (pc, .getfield x, 3, np, tg)) (hf : fl M.1.cls x ci kf) (ho : ko t = some ci) (hka : ka t = none) (hr : rf t i kf = some (t', i')) (kk : AW M P np lv (vr t' i' :: st) h) : AW M P pc lv (vr t i :: st) h := by
  intro l p e s m args below meth c G A C hl hs hw H locs ls hP hD hS hv
  obtain ⟨d1, rfl, d3, d4⟩ := ok_at C.2.2.2.2.2.2.2.2.1 hd
  obtain ⟨r1, hs⟩ := rg_c hs
  have r1 : vt t i := r1
  obtain ⟨q, hq, hk, hlk⟩ := hf
  obtain ⟨k0, h1, h2⟩ := ws_at (G := G) (h := h) r1
  rw [ce_o ho] at h2
  refine va_get (D := G.1) (v := .ref (G.2.2 t' i')) C.1 C.2.1 (fun w hw => C.2.2.2.2.2.1 w (List.mem_cons_of_mem _ hw)) (ci_all ci q hq).1 C.2.2.2.2.1 C.2.2.2.2.2.2.2.1.1 hP k0 h2 hq kf hk (C.2.2.2.2.2.1 _ (List.mem_cons_of_mem _ hlk)) (fun _ z => z) ?_ d1 ?_
  · simp [nfc_of hq, hk, fv, hr]
  exact kk l p e s m args below meth c G A C hl (rg_k (rf_vt r1 (fun an h9 => by rw [hka] at h9; cases h9) hr) hs) hw H locs ls hP hD hS hv
theorem put_core {ty : FieldType} {x ci kf : Nat} {a : Int} (hd : (tb M)[k]? = some (pc, .putfield x, 3, np, tg)) (hf : fp M.1.cls x ci kf ty) (ho : ko t = some ci) (hr : rf t i kf = none) (hn : narrow ty (.int (Int32.ofInt a)) = .int (Int32.ofInt a)) (hfit : fits ty (.int (Int32.ofInt a)) = true) (kk : AW M P np lv st (put h t i kf a)) : AW M P pc lv (vi a :: vr t i :: st) h := by
  intro l p e s m args below meth c G A C hl hs hw H locs ls hP hD hS hv
  obtain ⟨d1, rfl, d3, d4⟩ := ok_at C.2.2.2.2.2.2.2.2.1 hd
  obtain ⟨r0, hs⟩ := rg_c hs
  obtain ⟨r1, hs⟩ := rg_c hs
  have r1 : vt t i := r1
  obtain ⟨q, hq, hk, hlk, hfin, hty⟩ := hf
  obtain ⟨k0, h1, h2⟩ := ws_at (G := G) (h := h) r1
  rw [ce_o ho] at h2
  obtain ⟨w1, ⟨ty0, w2⟩, w3⟩ := ci_all ci q hq
  refine va_put (D := G.1) (v := .int (Int32.ofInt a)) C.1 C.2.1 (fun w hw => C.2.2.2.2.2.1 w (List.mem_cons_of_mem _ hw)) w1 ty0 w2 w3 C.2.2.2.2.1 C.2.2.2.2.2.2.2.1.1 hP hD hS k0 h2 hq kf hk (C.2.2.2.2.2.1 _ (List.mem_cons_of_mem _ hlk)) (fun _ z => z) hfin hty hn hfit ?_ d1 (fun H1 locs1 hP1 hD1 hS1 => ?_)
  · simp [nfc_of hq, hk]
  rw [← ce_put (G := G) (h := h) (a := a) ho hr, ws_set hD h1 (put_oc h t i kf a)] at hP1 hD1
  exact kk l p e s m args below meth c G A C hl hs (put_wf hw r0) H1 locs1 ls hP1 hD1 hS1 hv
theorem a_puti {x ci kf : Nat} {a : Int} (hd : (tb M)[k]? = some (pc, .putfield x, 3, np, tg)) (hf : fp M.1.cls x ci kf .int) (ho : ko t = some ci) (hr : rf t i kf = none) (kk : AW M P np lv st (put h t i kf a)) : AW M P pc lv (vi a :: vr t i :: st) h := put_core hd hf ho hr rfl rfl kk
theorem a_putz {x ci kf : Nat} {a : Int} (hd : (tb M)[k]? = some (pc, .putfield x, 3, np, tg)) (hf : fp M.1.cls x ci kf .boolean) (ho : ko t = some ci) (hr : rf t i kf = none) (hz : a = 0 ∨ a = 1) (kk : AW M P np lv st (put h t i kf a)) : AW M P pc lv (vi a :: vr t i :: st) h := by
  refine put_core hd hf ho hr ?_ ?_ kk
  · rcases hz with rfl | rfl <;> rfl
  · rcases hz with rfl | rfl <;> rfl
theorem tk_at {G : GG} {a : Nat} (ha : a ≤ 4) : ∃ ty, (tk G)[a]? = some (G.2.1 a, ty) := by
  match a, ha with
  | 0, _ => exact ⟨_, rfl⟩
  | 1, _ => exact ⟨_, rfl⟩
  | 2, _ => exact ⟨_, rfl⟩
  | 3, _ => exact ⟨_, rfl⟩
  | 4, _ => exact ⟨_, rfl⟩
theorem a_iald {n : Nat} {j : Int} (hd : (tb M)[k]? = some (pc, .iaload, 1, np, tg)) (ho : ko t = none) (hk : ka t = some (0, n)) (h0 : 0 ≤ j) (h1 : j < n) (kk : AW M P np lv (vi (h t i j.toNat) :: st) h) : AW M P pc lv (vi j :: vr t i :: st) h := by
  intro l p e s m args below meth c G A C hl hs hw H locs ls hP hD hS hv
  obtain ⟨d1, rfl, d3, d4⟩ := ok_at C.2.2.2.2.2.2.2.2.1 hd
  obtain ⟨r0, hs⟩ := rg_c hs
  obtain ⟨r1, hs⟩ := rg_c hs
  have r1 : vt t i := r1
  obtain ⟨k0, q1, q2⟩ := ws_at (G := G) (h := h) r1
  rw [ce_i ho hk (Nat.zero_le 1)] at q2
  refine va_iald C.1 C.2.1 C.2.2.2.2.2.2.2.1.1 hP k0 0 q2 rfl (in_of r0 h0 h1) d1 ?_
  rw [clamp3 r0]
  exact kk l p e s m args below meth c G A C hl (rg_k (hw t i _) hs) hw H locs ls hP hD hS hv
theorem a_bald {n : Nat} {j : Int} (hd : (tb M)[k]? = some (pc, .baload, 1, np, tg)) (ho : ko t = none) (hk : ka t = some (1, n)) (h0 : 0 ≤ j) (h1 : j < n) (kk : AW M P np lv (vi (h t i j.toNat) :: st) h) : AW M P pc lv (vi j :: vr t i :: st) h := by
  intro l p e s m args below meth c G A C hl hs hw H locs ls hP hD hS hv
  obtain ⟨d1, rfl, d3, d4⟩ := ok_at C.2.2.2.2.2.2.2.2.1 hd
  obtain ⟨r0, hs⟩ := rg_c hs
  obtain ⟨r1, hs⟩ := rg_c hs
  have r1 : vt t i := r1
  obtain ⟨k0, q1, q2⟩ := ws_at (G := G) (h := h) r1
  rw [ce_i ho hk (Nat.le_refl 1)] at q2
  refine va_bald C.1 C.2.1 C.2.2.2.2.2.2.2.1.1 hP k0 1 q2 rfl (in_of r0 h0 h1) d1 ?_
  rw [clamp3 r0]
  exact kk l p e s m args below meth c G A C hl (rg_k (hw t i _) hs) hw H locs ls hP hD hS hv
theorem a_iast {n : Nat} {j a : Int} (hd : (tb M)[k]? = some (pc, .iastore, 1, np, tg)) (ho : ko t = none) (hk : ka t = some (0, n)) (h0 : 0 ≤ j) (h1 : j < n) (kk : AW M P np lv st (put h t i j.toNat a)) : AW M P pc lv (vi a :: vi j :: vr t i :: st) h := by
  intro l p e s m args below meth c G A C hl hs hw H locs ls hP hD hS hv
  obtain ⟨d1, rfl, d3, d4⟩ := ok_at C.2.2.2.2.2.2.2.2.1 hd
  obtain ⟨ra, hs⟩ := rg_c hs
  obtain ⟨r0, hs⟩ := rg_c hs
  obtain ⟨r1, hs⟩ := rg_c hs
  have r1 : vt t i := r1
  obtain ⟨k0, q1, q2⟩ := ws_at (G := G) (h := h) r1
  rw [ce_i ho hk (Nat.zero_le 1)] at q2
  refine va_iast C.1 C.2.1 C.2.2.2.2.2.2.2.1.1 hP hD hS k0 0 q2 rfl (in_of r0 h0 h1) d1 (fun H1 locs1 hP1 hD1 hS1 => ?_)
  rw [clamp3 r0, ← ce_putA (G := G) (h := h) (x := a) ho hk (Nat.zero_le 1), ws_set hD q1 (put_oc h t i _ a)] at hP1 hD1
  exact kk l p e s m args below meth c G A C hl hs (put_wf hw ra) H1 locs1 ls hP1 hD1 hS1 hv
theorem a_bast {n : Nat} {j a : Int} (hd : (tb M)[k]? = some (pc, .bastore, 1, np, tg)) (ho : ko t = none) (hk : ka t = some (1, n)) (h0 : 0 ≤ j) (h1 : j < n) (kk : AW M P np lv st (put h t i j.toNat (sb a))) : AW M P pc lv (vi a :: vi j :: vr t i :: st) h := by
  intro l p e s m args below meth c G A C hl hs hw H locs ls hP hD hS hv
  obtain ⟨d1, rfl, d3, d4⟩ := ok_at C.2.2.2.2.2.2.2.2.1 hd
  obtain ⟨ra, hs⟩ := rg_c hs
  obtain ⟨r0, hs⟩ := rg_c hs
  obtain ⟨r1, hs⟩ := rg_c hs
  have r1 : vt t i := r1
  obtain ⟨k0, q1, q2⟩ := ws_at (G := G) (h := h) r1
  rw [ce_i ho hk (Nat.le_refl 1)] at q2
  refine va_bast C.1 C.2.1 C.2.2.2.2.2.2.2.1.1 hP hD hS k0 1 q2 rfl (in_of r0 h0 h1) d1 (fun H1 locs1 hP1 hD1 hS1 => ?_)
  rw [clamp3 r0, vp_nar_byte, ← cv_sb, ← ce_putA (G := G) (h := h) (x := sb a) ho hk (Nat.le_refl 1), ws_set hD q1 (put_oc h t i _ (sb a))] at hP1 hD1
  exact kk l p e s m args below meth c G A C hl hs (put_wf hw (i3_of _)) H1 locs1 ls hP1 hD1 hS1 hv
theorem a_alen {a n : Nat} (hd : (tb M)[k]? = some (pc, .arraylength, 1, np, tg)) (ho : ko t = none) (hk : ka t = some (a, n)) (ha : a ≤ 4) (hn : n < 65536) (kk : AW M P np lv (vi (n : Int) :: st) h) : AW M P pc lv (vr t i :: st) h := by
  intro l p e s m args below meth c G A C hl hs hw H locs ls hP hD hS hv
  obtain ⟨d1, rfl, d3, d4⟩ := ok_at C.2.2.2.2.2.2.2.2.1 hd
  obtain ⟨r1, hs⟩ := rg_c hs
  have r1 : vt t i := r1
  obtain ⟨k0, q1, q2⟩ := ws_at (G := G) (h := h) r1
  obtain ⟨ty, hty⟩ := tk_at (G := G) ha
  have z := kk l p e s m args below meth c G A C hl (rg_k (show I3 n by unfold I3; omega) hs) hw H locs ls hP hD hS hv
  by_cases h1 : a ≤ 1
  · rw [ce_i ho hk h1] at q2
    exact va_alen (v := Int32.ofInt (n : Int)) C.1 C.2.1 C.2.2.2.2.2.2.2.1.1 hP k0 a q2 hty rfl d1 z
  · rw [ce_q ho hk h1] at q2
    exact va_alen (v := Int32.ofInt (n : Int)) C.1 C.2.1 C.2.2.2.2.2.2.2.1.1 hP k0 a q2 hty rfl d1 z
theorem a_aald {a n t' i' : Nat} {j : Int} (hd : (tb M)[k]? = some (pc, .aaload, 1, np, tg)) (ho : ko t = none) (hk : ka t = some (a, n)) (ha : a = 2 ∨ a = 3 ∨ a = 4) (h0 : 0 ≤ j) (h1 : j < n) (hr : rf t i j.toNat = some (t', i')) (kk : AW M P np lv (vr t' i' :: st) h) : AW M P pc lv (vi j :: vr t i :: st) h := by
  intro l p e s m args below meth c G A C hl hs hw H locs ls hP hD hS hv
  obtain ⟨d1, rfl, d3, d4⟩ := ok_at C.2.2.2.2.2.2.2.2.1 hd
  obtain ⟨r0, hs⟩ := rg_c hs
  obtain ⟨r1, hs⟩ := rg_c hs
  have r1 : vt t i := r1
  have z := kk l p e s m args below meth c G A C hl (rg_k (rf_vt r1 (fun an h9 => by rw [hk] at h9; cases h9; dsimp only; omega) hr) hs) hw H locs ls hP hD hS hv
  obtain ⟨k0, q1, q2⟩ := ws_at (G := G) (h := h) r1
  rw [ce_q ho hk (by omega)] at q2
  have hlt : (Int32.ofInt j).toNatClampNeg < n := by rw [clamp3 r0]; omega
  have hin := in_of r0 h0 h1
  rcases ha with rfl | rfl | rfl
  · refine va_aldq C.1 C.2.1 C.2.2.2.2.2.2.2.1.1 hP k0 2 q2 rfl hin d1 ?_
    rw [clamp3 r0, hr]
    exact z
  · refine va_aldq C.1 C.2.1 C.2.2.2.2.2.2.2.1.1 hP k0 3 q2 rfl hin d1 ?_
    rw [clamp3 r0, hr]
    exact z
  · refine W.aald (v := va_rf ((fun k => (rf t i k).map fun q => G.2.2 q.1 q.2) (Int32.ofInt j).toNatClampNeg)) (ty := .array .int) C.1 C.2.1 (hP k0 _ q2) ((C.2.2.2.2.2.2.2.1.1.2 4 _ rfl).1 n (fun j => va_rf ((rf t i j).map fun q => G.2.2 q.1 q.2))) rfl (fun q => by cases q) (by show ¬ (_ < 0 ∨ (arrV _ _ _).slots.size ≤ _); rw [arrV_size]; exact hin) (by show (arrV _ _ _).slots[_]? = _; rw [arrV_read _ _ hlt]) rfl rfl d1 ?_
    dsimp only
    rw [clamp3 r0, hr]
    exact z
theorem a_ireturn {a : Int} (hd : (tb M)[k]? = some (pc, .ireturn, 1, np, tg)) (hr : M.2.2.2.1 = some .int) (hp : P (some (vi a)) h) : AW M P pc lv [vi a] h := by
  intro l p e s m args below meth c G A C hl hs hw H locs ls hP hD hS hv
  obtain ⟨d1, rfl, d3, d4⟩ := ok_at C.2.2.2.2.2.2.2.2.1 hd
  exact W.iret (v := Int32.ofInt a) C.1 C.2.1 (C.2.2.1.trans hr) (fun t ht hW => ⟨⟨some (vi a), h, rfl, hp, fun v hv => by cases hv; exact (rg_c hs).1, hw, by rw [ht]; exact hP, C.2.2.2.2.2.2.2.1.warm hW, hD⟩, hS.F ht⟩) hS.2.2 d1 C.2.2.2.2.2.2.1
theorem a_zreturn {a : Int} (hd : (tb M)[k]? = some (pc, .ireturn, 1, np, tg)) (hr : M.2.2.2.1 = some .boolean) (hz : a = 0 ∨ a = 1) (hp : P (some (vi a)) h) : AW M P pc lv [vi a] h := by
  intro l p e s m args below meth c G A C hl hs hw H locs ls hP hD hS hv
  obtain ⟨d1, rfl, d3, d4⟩ := ok_at C.2.2.2.2.2.2.2.2.1 hd
  exact W.zret (v := Int32.ofInt a) C.1 C.2.1 (C.2.2.1.trans hr) (by rcases hz with rfl | rfl <;> rfl) (fun t ht hW => ⟨⟨some (vi a), h, rfl, hp, fun v hv => by cases hv; exact (rg_c hs).1, hw, by rw [ht]; exact hP, C.2.2.2.2.2.2.2.1.warm hW, hD⟩, hS.F ht⟩) hS.2.2 d1 C.2.2.2.2.2.2.1
theorem a_areturn {n : String} {v : AV} (hd : (tb M)[k]? = some (pc, .areturn, 1, np, tg)) (hr : M.2.2.2.1 = some (.object n)) (hvv : v = vn ∨ ∃ t i, v = vr t i) (hp : P (some v) h) : AW M P pc lv [v] h := by
  intro l p e s m args below meth c G A C hl hs hw H locs ls hP hD hS hv
  obtain ⟨d1, rfl, d3, d4⟩ := ok_at C.2.2.2.2.2.2.2.2.1 hd
  exact W.aret (v := cv G.2.2 v) C.1 C.2.1 (C.2.2.1.trans hr) (Or.inl ⟨_, rfl⟩) (hvv.elim (fun q => Or.inl (by rw [q]; rfl)) (fun ⟨t, i, q⟩ => Or.inr ⟨G.2.2 t i, by rw [q]; rfl⟩)) (fun t ht hW => ⟨⟨some v, h, rfl, hp, fun v hv => by cases hv; exact (rg_c hs).1, hw, by rw [ht]; exact hP, C.2.2.2.2.2.2.2.1.warm hW, hD⟩, hS.F ht⟩) hS.2.2 d1 C.2.2.2.2.2.2.1
theorem a_return (hd : (tb M)[k]? = some (pc, .return_, 1, np, tg)) (hr : M.2.2.2.1 = none) (hp : P none h) : AW M P pc lv [] h := by
  intro l p e s m args below meth c G A C hl hs hw H locs ls hP hD hS hv
  obtain ⟨d1, rfl, d3, d4⟩ := ok_at C.2.2.2.2.2.2.2.2.1 hd
  exact W.vret C.1 C.2.1 (C.2.2.1.trans hr) (fun t ht hW => ⟨⟨none, h, rfl, hp, fun v hv => (by cases hv), hw, by rw [ht]; exact hP, C.2.2.2.2.2.2.2.1.warm hW, hD⟩, hS.F ht⟩) hS.2.2 d1 C.2.2.2.2.2.2.1
end AWH
end
section
/-! calls -/
theorem met_pre {G : GG} {h : HH} {av : List AV} {s : State} {H : Heap} {A : Nat → Prop} (hK : WK G s) (hP : va_P G.1 vwCl (ws_ G h) H) (hD : va_D A (ws_ G h)) : FrameBlind (va_Pc (av.map (cv G.2.2)) (fun U => U.heap.size = H.size ∧ WK G U ∧ va_P G.1 vwCl (ws_ G h) U.heap ∧ va_D (fun _ => True) (ws_ G h))) ∧ ∀ U : State, U.heap = H → s.WarmedH U.vm → va_Pc (av.map (cv G.2.2)) (fun U => U.heap.size = H.size ∧ WK G U ∧ va_P G.1 vwCl (ws_ G h) U.heap ∧ va_D (fun _ => True) (ws_ G h)) (av.map (cv G.2.2)).toArray U := by
  refine ⟨fun a U g mk q => ?_, fun U hU hW => ?_⟩
  · obtain ⟨q0, q1, qK, qP, qD⟩ := q
    exact ⟨q0, q1, WK.same (U := U.calling g mk a) rfl qK, qP, qD⟩
  · exact ⟨rfl, by rw [hU], hK.warm hW, by rw [hU]; exact hP, hD.weaken (fun _ _ _ _ => trivial)⟩
theorem call_go {M : MD} {G : GG} {A : Nat → Prop} {P P' : Option AV → HH → Prop} {h : HH} {rest : List Value} {a : Array Value} {p : Program} {l : Launch} {e : Env} {s : State} {m : MethodId} {args : Array Value} {below : List Frame} {meth : Method} {c : Code} {H : Heap} {locs : List Loc} {Q : State → Prop} {pc : Nat} {ls : Array Slot} {st0 : List Value} (hA : ∀ q, s.heap.size ≤ q → A q)
    (hD : va_D A (ws_ G h)) (hS : va_S A s.heap H locs) (hr : va_Run p l e (rq M) s m args below meth c H locs 0 0 0 0 (F0 m pc ls st0) rest (QQ G P' (va_A (ws_ G h) H.size) a) (va_A (ws_ G h) H.size))
    (kk : ∀ (r : Option AV) (h' : HH) (H1 : Heap) (locs1 : List Loc), P' r h' → (∀ v ∈ r, rg v) → HW h' → va_P G.1 vwCl (ws_ G h') H1 → va_D A (ws_ G h') → va_S A s.heap H1 locs1 → W p l e (rq M) s m args below meth c H1 locs1 0 0 Q (F0 m (pc + 3) ls ((r.map (cv G.2.2)).toList ++ rest))) : W p l e (rq M) s m args below meth c H locs 0 0 Q (F0 m pc ls st0) := by
  intro T hT X
  obtain ⟨v, st₀, t, T', L, h0, X', hL, e1, e2, ⟨⟨r, h', hv, hp, hrg, hw, hP1, hK1, hD1⟩, hz, hk⟩, st⟩ := hr T hT X
  have hv : v = r.map (cv G.2.2) := by cases hv; rfl
  subst hv
  have hFA : ∀ q, va_A (ws_ G h) H.size q → A q := by
    intro q hq
    rcases hq with ⟨k, en, hq⟩ | hq
    · exact hD.2 k (q, en) hq
    · exact hA q (Nat.le_trans hS.1 hq)
  rw [h0] at hz hk
  obtain ⟨t2, a1, b1⟩ := kk r h' T'.heap (locs ++ L) hp hrg hw (by rw [e1]; exact hP1) (hD1.weaken (fun _ _ _ z => hFA _ z))
    ⟨Nat.le_trans hS.1 (by rw [e1]; exact hz), fun q h1 h2 => by rw [e1, hk q (Nat.lt_of_lt_of_le h1 hS.1) (fun z => h2 (hFA q z))]; exact hS.2.1 q h1 h2, fun q hq => by
      rcases List.mem_append.mp hq with h | h
      · exact hS.2.2 q h
      · exact hFA _ (hL q h)⟩ T' rfl X'
  exact ⟨t2, st t2 a1, b1⟩
/-- what links a call of M' at a place x of M's class -/
def rmok (M M' : MD) : Prop := (rq M').frames + 1 ≤ (rq M).frames ∧ 8 + (M'.2.2.1 + 11) + (rq M').locals ≤ (rq M).locals
def mdok (M' : MD) (n : Nat) : Prop := Cond.code M'.1 M'.2.1 M'.2.2.1 M'.2.2.2.1 ∈ lw_gd ∧ Cond.initialized M'.1.cls ∈ lw_gd ∧ M'.1.cls ≠ "java/lang/invoke/MethodHandle" ∧ M'.1.cls ≠ "java/lang/invoke/VarHandle" ∧ (parseMethodDescriptor M'.1.desc).map (fun d => d.parameters.length) = some n
def mvok (M' : MD) : Prop := Cond.instanceMethod M'.1 ∈ lw_gd ∧ Cond.selects M'.1.cls M'.1 M'.1 ∈ lw_gd
theorem good_wq {M' : MD} {n : Nat} (h : mdok M' n) : GoodIn lw_gd (wq M') := fun w hw => by
  rcases List.mem_cons.mp hw with rfl | hw
  · exact gd_good _ h.1
  · exact gd_good _ hw
theorem cat_sum (ad : Nat → Nat → Nat) : ∀ st : List AV, (((st.map (cv ad)).map fun v => v.category).sum) = aw_ st
  | [] => rfl
  | .inl a :: st => by
    show 1 + ((st.map (cv ad)).map fun v => v.category).sum = 1 + aw_ st
    rw [cat_sum ad st]
  | .inr (.inl a) :: st => by
    show 2 + ((st.map (cv ad)).map fun v => v.category).sum = 2 + aw_ st
    rw [cat_sum ad st]
  | .inr (.inr (some q)) :: st => by
    show 1 + ((st.map (cv ad)).map fun v => v.category).sum = 1 + aw_ st
    rw [cat_sum ad st]
  | .inr (.inr none) :: st => by
    show 1 + ((st.map (cv ad)).map fun v => v.category).sum = 1 + aw_ st
    rw [cat_sum ad st]
theorem rg_app {r : Option AV} {st : List AV} (h1 : ∀ v ∈ r, rg v) (h2 : ∀ v ∈ st, rg v) : ∀ v ∈ r.toList ++ st, rg v := fun v hv => by
  rcases List.mem_append.mp hv with h | h
  · exact h1 v (Option.mem_toList.mp h)
  · exact h2 v h
theorem opt_cv (ad : Nat → Nat → Nat) (r : Option AV) (st : List AV) : (r.map (cv ad)).toList ++ st.map (cv ad) = (r.toList ++ st).map (cv ad) := by
  cases r <;> rfl
section AWC
variable {M M' : MD} {P P' : Option AV → HH → Prop} {lv : LV} {st stk : List AV} {h : HH} {k pc np tg t i x n : Nat} {as : List AV}
theorem a_virt (hd : (tb M)[k]? = some (pc, .invokevirtual x, 3, np, tg)) (hlk : Cond.methodLink M.1.cls x M'.1 ∈ lw_gd) (hm : mdok M' n) (hmv : mvok M') (hR : rmok M M') (hn : as.length = n) (ho : ((ko t).bind fun c => (vwCl[c]?).map fun q => q.1) = some M'.1.cls) (hst : stk = as.reverse ++ vr t i :: st) (hwd : aw_ st ≤ 8) (hSp : Sp M' (vr t i :: as) h P') (kk : ∀ r h', P' r h' → AW M P np lv (r.toList ++ st) h') : AW M P pc lv stk h := by
  intro l p e s m args below meth c G A C hl hs hw H locs ls hP hD hS hv
  obtain ⟨d1, rfl, d3, d4⟩ := ok_at C.2.2.2.2.2.2.2.2.1 hd
  subst hst
  have hs1 : ∀ v ∈ st, rg v := fun v h9 => hs v (List.mem_append_right _ (List.mem_cons_of_mem _ h9))
  have r1 : vt t i := hs (vr t i) (List.mem_append_right _ List.mem_cons_self)
  have hsa : ∀ v ∈ vr t i :: as, rg v := fun v h9 => by
    rcases List.mem_cons.mp h9 with rfl | h9
    · exact r1
    · exact hs v (List.mem_append_left _ (List.mem_reverse.mpr h9))
  obtain ⟨k0, q1, q2⟩ := ws_at (G := G) (h := h) r1
  have hts : ∀ w ∈ lw_gd, w.before args s = true := fun w hw => C.2.2.2.2.2.1 w (List.mem_cons_of_mem _ hw)
  obtain ⟨pre1, pre2⟩ := met_pre (av := vr t i :: as) C.2.2.2.2.2.2.2.1 hP hD
  have hGI : GoodIn lw_gd (wsV M.1.cls x M'.1.cls M'.1 (wq M')) := fun w hw9 => by
    unfold wsV at hw9
    rcases List.mem_append.mp hw9 with h9 | h9
    · simp only [List.mem_cons, List.not_mem_nil, or_false] at h9
      rcases h9 with rfl | rfl | rfl | rfl
      · exact gd_good _ hlk
      · exact gd_good _ hmv.1
      · exact gd_good _ hmv.2
      · exact gd_good _ hm.2.1
    · exact good_wq hm w h9
  have hrecv : ∃ cellB : Cell, H[G.2.2 t i]? = some cellB ∧ cellB.vm.isStatics = false ∧ s.vm.findClass M'.1.cls = some cellB.cls := by
    cases hko : ko t with
    | none => rw [hko] at ho; cases ho
    | some ci =>
      rw [hko] at ho
      cases hq : vwCl[ci]? with
      | none => simp [hq] at ho
      | some q =>
        simp only [hq, Option.bind_some, Option.map_some, Option.some.injEq] at ho
        rw [ce_o hko] at q2
        rw [← ho]
        exact va_recv C.2.2.2.2.2.2.2.1.1 hP hq q2
  refine call_go (st0 := (as.reverse ++ vr t i :: st).map (cv G.2.2)) (rest := st.map (cv G.2.2)) C.2.2.2.2.2.2.2.2.2 hD hS (va_runV (C := M'.1.cls) (b := G.2.2 t i) (As := as.map (cv G.2.2)) (rest := st.map (cv G.2.2)) (nL := M.2.2.1) ⟨C.1, C.2.1, C.2.2.2.1, C.2.2.2.2.1, hts⟩ (hSp hsa hw l G H.size) (cwV n hts hGI rfl rfl rfl ⟨rfl, hm.2.2⟩ hR) ⟨pre1, hrecv, pre2⟩ rfl (by rw [List.length_map]; exact hn) hv.1 (by simp [vr, cv]) (by show 2 * 0 + _ ≤ 8; rw [cat_sum]; omega) d1 ⟨Nat.le_refl 0, Nat.le_refl 0⟩) ?_
  intro r h' H1 locs1 hp hrg hw' hP1 hD1 hS1
  rw [opt_cv]
  exact kk r h' hp l p e s m args below meth c G A C hl (rg_app hrg hs1) hw' H1 locs1 ls hP1 hD1 hS1 hv
theorem a_stat0 (hG : ∀ {s : State} {args : Array Value}, (∀ w ∈ lw_gd, w.before args s = true) → CallB (rq M) s args M.1.cls x M'.1 M'.2.1 M'.2.2.1 M'.2.2.2.1 (wq M') (rq M') 0 0 n ∧ (Cond.static M'.1).before args s = true) (hd : (tb M)[k]? = some (pc, .invokestatic x, 3, np, tg)) (hn : as.length = n) (hst : stk = as.reverse ++ st) (hwd : aw_ st ≤ 8) (hSp : Sp M' as h P') (kk : ∀ r h', P' r h' → AW M P np lv (r.toList ++ st) h') : AW M P pc lv stk h := by
  intro l p e s m args below meth c G A C hl hs hw H locs ls hP hD hS hv
  obtain ⟨d1, rfl, d3, d4⟩ := ok_at C.2.2.2.2.2.2.2.2.1 hd
  subst hst
  have hs1 : ∀ v ∈ st, rg v := fun v h9 => hs v (List.mem_append_right _ h9)
  have hsa : ∀ v ∈ as, rg v := fun v h9 => hs v (List.mem_append_left _ (List.mem_reverse.mpr h9))
  have hts : ∀ w ∈ lw_gd, w.before args s = true := fun w hw => C.2.2.2.2.2.1 w (List.mem_cons_of_mem _ hw)
  have pre := met_pre (av := as) C.2.2.2.2.2.2.2.1 hP hD
  refine call_go (st0 := (as.reverse ++ st).map (cv G.2.2)) (rest := st.map (cv G.2.2)) C.2.2.2.2.2.2.2.2.2 hD hS (va_runS (As := as.map (cv G.2.2)) (rest := st.map (cv G.2.2)) (nL := M.2.2.1) ⟨C.1, C.2.1, C.2.2.2.1, C.2.2.2.2.1, hts⟩ (hSp hsa hw l G H.size) (hG hts) pre rfl (by rw [List.length_map]; exact hn) hv.1 (by simp) (by show 2 * 0 + _ ≤ 8; rw [cat_sum]; omega) d1 ⟨Nat.le_refl 0, Nat.le_refl 0⟩) ?_
  intro r h' H1 locs1 hp hrg hw' hP1 hD1 hS1
  rw [opt_cv]
  exact kk r h' hp l p e s m args below meth c G A C hl (rg_app hrg hs1) hw' H1 locs1 ls hP1 hD1 hS1 hv
theorem a_stat (hd : (tb M)[k]? = some (pc, .invokestatic x, 3, np, tg)) (hlk : Cond.methodLink M.1.cls x M'.1 ∈ lw_gd) (hm : mdok M' n) (hms : Cond.static M'.1 ∈ lw_gd) (hR : rmok M M') (hn : as.length = n) (hst : stk = as.reverse ++ st) (hwd : aw_ st ≤ 8) (hSp : Sp M' as h P') (kk : ∀ r h', P' r h' → AW M P np lv (r.toList ++ st) h') : AW M P pc lv stk h := by
  refine a_stat0 (n := n) (fun hts => va_cwS n hts ?_ rfl rfl rfl hm.2.2 hR) hd hn hst hwd hSp kk
  intro w hw9
  unfold va_wsS at hw9
  rcases List.mem_append.mp hw9 with h9 | h9
  · simp only [List.mem_cons, List.not_mem_nil, or_false] at h9
    rcases h9 with rfl | rfl | rfl
    · exact gd_good _ hlk
    · exact gd_good _ hms
    · exact gd_good _ hm.2.1
  · exact good_wq hm w h9
/-- a nest mate's private static method -/
theorem a_statN {host : String} (hd : (tb M)[k]? = some (pc, .invokestatic x, 3, np, tg)) (hlk : Cond.methodLinkNest M.1.cls x M'.1 host ∈ nw_all) (hm : mdok M' n) (hms : Cond.static M'.1 ∈ lw_gd) (hR : rmok M M') (hn : as.length = n) (hst : stk = as.reverse ++ st) (hwd : aw_ st ≤ 8) (hSp : Sp M' as h P') (kk : ∀ r h', P' r h' → AW M P np lv (r.toList ++ st) h') : AW M P pc lv stk h := by
  intro l p e s m args below meth c G A C hl hs hw H locs ls hP hD hS hv
  obtain ⟨d1, rfl, d3, d4⟩ := ok_at C.2.2.2.2.2.2.2.2.1 hd
  subst hst
  have hs1 : ∀ v ∈ st, rg v := fun v h9 => hs v (List.mem_append_right _ h9)
  have hsa : ∀ v ∈ as, rg v := fun v h9 => hs v (List.mem_append_left _ (List.mem_reverse.mpr h9))
  have hts : ∀ w ∈ lw_gd, w.before args s = true := fun w hw => C.2.2.2.2.2.1 w (List.mem_cons_of_mem _ hw)
  have pre := met_pre (av := as) C.2.2.2.2.2.2.2.1 hP hD
  refine call_go (st0 := (as.reverse ++ st).map (cv G.2.2)) (rest := st.map (cv G.2.2)) C.2.2.2.2.2.2.2.2.2 hD hS (va_runSN (host := host) (As := as.map (cv G.2.2)) (rest := st.map (cv G.2.2)) (nL := M.2.2.1) ⟨C.1, C.2.1, C.2.2.2.1, C.2.2.2.2.1, hts⟩ (hSp hsa hw l G H.size) ⟨va_cnB n hts (good_wq hm) rfl rfl rfl (C.2.2.2.2.2.2.2.1.2 _ hlk) (hts _ hm.2.1) hm.2.2 hR, hts _ hms, trivial⟩ pre rfl (by rw [List.length_map]; exact hn) hv.1 (by simp) (by show 2 * 0 + _ ≤ 8; rw [cat_sum]; omega) d1 ⟨Nat.le_refl 0, Nat.le_refl 0⟩) ?_
  intro r h' H1 locs1 hp hrg hw' hP1 hD1 hS1
  rw [opt_cv]
  exact kk r h' hp l p e s m args below meth c G A C hl (rg_app hrg hs1) hw' H1 locs1 ls hP1 hD1 hS1 hv
end AWC
theorem Sp.weak {M : MD} {av : List AV} {h : HH} {P P' : Option AV → HH → Prop} (hS : Sp M av h P) (hw : ∀ r h', P r h' → P' r h') : Sp M av h P' := by
  intro hr hh l G sz
  have hM := hS hr hh l G sz
  intro p e ha hc hk s m args below hf hA hP hK
  obtain ⟨k, o, h1, h2, h3, ⟨⟨⟨r, h', e1, e2, e3⟩, hF⟩, hL⟩⟩ := hM p e ha hc hk s m args below hf hA hP hK
  exact ⟨k, o, h1, h2, h3, ⟨⟨⟨r, h', e1, hw r h' e2, e3⟩, hF⟩, hL⟩⟩
end
