/-! the law, case by case -/
def tL_h : List EN := [(0, .new 7, 3, 3, 0), (3, .dup, 1, 4, 0), (4, .invokespecial 9, 3, 7, 0), (7, .astore_n 1, 1, 8, 0), (8, .new 10, 3, 11, 0), (11, .dup, 1, 12, 0), (12, .invokespecial 12, 3, 15, 0), (15, .astore_n 2, 1, 16, 0), (16, .iconst 0, 1, 17, 0), (17, .istore_n 3, 1, 18, 0), (18, .iload_n 3, 1, 19, 0), (19, .aload_n 0, 1, 20, 0), (20, .arraylength, 1, 21, 0), (21, .iconst 4, 1, 22, 0), (22, .isub, 1, 23, 0), (23, .if_icmp .gt 1013, 3, 26, 1036), (26, .aload_n 0, 1, 27, 0), (27, .iload_n 3, 1, 28, 0), (28, .iaload, 1, 29, 0), (29, .bipush 31, 2, 31, 0), (31, .iand, 1, 32, 0), (32, .tableswitch 998 0 29 #[136, 159, 172, 185, 208, 241, 274, 307, 350, 409, 442, 465, 488, 511, 544, 603, 626, 639, 672, 705, 738, 771, 804, 837, 870, 903, 916, 929, 952, 975], 136, 168, 0)]
theorem kL_h : okc code tL_h = true := by decide +kernel
def tL_e : List EN := [(1030, .iinc 3 4, 3, 1033, 0), (1033, .goto (-1015), 3, 1036, 18), (1036, .iconst 1, 1, 1037, 0), (1037, .ireturn, 1, 1038, 0)]
theorem kL_e : okc code tL_e = true := by decide +kernel
theorem lL_9 : Cond.methodLink R_law 9 yX10_init ∈ lw_gd := gd_in (ti_1 (List.mem_of_getElem? (i := 19) rfl)) rfl
theorem lL_12 : Cond.methodLink R_law 12 yX11_init ∈ lw_gd := gd_in (ti_4 (List.mem_of_getElem? (i := 108) rfl)) rfl
theorem lL_13 : Cond.methodLink R_law 13 yX10_feed ∈ lw_gd := gd_in (ti_2 (List.mem_of_getElem? (i := 84) rfl)) rfl
theorem lL_17 : Cond.methodLink R_law 17 yX11_feed ∈ lw_gd := gd_in (ti_4 (List.mem_of_getElem? (i := 219) rfl)) rfl
theorem lL_18 : Cond.methodLink R_law 18 yX10_tray ∈ lw_gd := gd_in (ti_2 (List.mem_of_getElem? (i := 94) rfl)) rfl
theorem lL_22 : Cond.methodLink R_law 22 yX11_tray ∈ lw_gd := gd_in (ti_4 (List.mem_of_getElem? (i := 229) rfl)) rfl
theorem lL_23 : Cond.methodLink R_law 23 yX10_fault ∈ lw_gd := gd_in (ti_2 (List.mem_of_getElem? (i := 198) rfl)) rfl
theorem lL_26 : Cond.methodLink R_law 26 yX11_fault ∈ lw_gd := gd_in (ti_5 (List.mem_of_getElem? (i := 41) rfl)) rfl
theorem lL_27 : Cond.methodLink R_law 27 yX10_told ∈ lw_gd := gd_in (ti_2 (List.mem_of_getElem? (i := 202) rfl)) rfl
theorem lL_30 : Cond.methodLink R_law 30 yX11_told ∈ lw_gd := gd_in (ti_5 (List.mem_of_getElem? (i := 120) rfl)) rfl
theorem lL_31 : Cond.methodLink R_law 31 yX10_pretzel ∈ lw_gd := gd_in (ti_3 (List.mem_of_getElem? (i := 22) rfl)) rfl
theorem lL_35 : Cond.methodLink R_law 35 yX11_pretzel ∈ lw_gd := gd_in (ti_5 (List.mem_of_getElem? (i := 125) rfl)) rfl
theorem lL_36 : Cond.methodLink R_law 36 yX10_pass ∈ lw_gd := gd_in (ti_3 (List.mem_of_getElem? (i := 95) rfl)) rfl
theorem lL_39 : Cond.methodLink R_law 39 yX11_pass ∈ lw_gd := gd_in (ti_5 (List.mem_of_getElem? (i := 166) rfl)) rfl
theorem lL_40 : Cond.methodLink R_law 40 yX10_moves ∈ lw_gd := gd_in (ti_3 (List.mem_of_getElem? (i := 103) rfl)) rfl
theorem lL_43 : Cond.methodLink R_law 43 yX11_moves ∈ lw_gd := gd_in (ti_5 (List.mem_of_getElem? (i := 45) rfl)) rfl
theorem lL_44 : Cond.methodLink R_law 44 yX10_shake ∈ lw_gd := gd_in (ti_3 (List.mem_of_getElem? (i := 115) rfl)) rfl
theorem lL_48 : Cond.methodLink R_law 48 yX11_shake ∈ lw_gd := gd_in (ti_5 (List.mem_of_getElem? (i := 202) rfl)) rfl
theorem lL_49 : Cond.methodLink R_law 49 yX10_curl ∈ lw_gd := gd_in (ti_3 (List.mem_of_getElem? (i := 147) rfl)) rfl
theorem lL_53 : Cond.methodLink R_law 53 yX11_curl ∈ lw_gd := gd_in (ti_5 (List.mem_of_getElem? (i := 219) rfl)) rfl
theorem lL_54 : Cond.methodLink R_law 54 yX10_turn ∈ lw_gd := gd_in (ti_3 (List.mem_of_getElem? (i := 156) rfl)) rfl
theorem lL_57 : Cond.methodLink R_law 57 yX11_turn ∈ lw_gd := gd_in (ti_5 (List.mem_of_getElem? (i := 227) rfl)) rfl
theorem lL_58 : Cond.methodLink R_law 58 yX10_reverse ∈ lw_gd := gd_in (ti_3 (List.mem_of_getElem? (i := 164) rfl)) rfl
theorem lL_61 : Cond.methodLink R_law 61 yX11_reverse ∈ lw_gd := gd_in (ti_5 (List.mem_of_getElem? (i := 231) rfl)) rfl
theorem lL_62 : Cond.methodLink R_law 62 yX10_mirror ∈ lw_gd := gd_in (ti_3 (List.mem_of_getElem? (i := 172) rfl)) rfl
theorem lL_65 : Cond.methodLink R_law 65 yX11_mirror ∈ lw_gd := gd_in (ti_5 (List.mem_of_getElem? (i := 235) rfl)) rfl
theorem lL_66 : Cond.methodLink R_law 66 yX10_roll ∈ lw_gd := gd_in (ti_3 (List.mem_of_getElem? (i := 176) rfl)) rfl
theorem lL_69 : Cond.methodLink R_law 69 yX11_roll ∈ lw_gd := gd_in (ti_5 (List.mem_of_getElem? (i := 239) rfl)) rfl
theorem lL_70 : Cond.methodLink R_law 70 yX10_join ∈ lw_gd := gd_in (ti_3 (List.mem_of_getElem? (i := 184) rfl)) rfl
theorem lL_73 : Cond.methodLink R_law 73 yX11_join ∈ lw_gd := gd_in (ti_6 (List.mem_of_getElem? (i := 8) rfl)) rfl
theorem lL_74 : Cond.methodLink R_law 74 yX10_salt ∈ lw_gd := gd_in (ti_3 (List.mem_of_getElem? (i := 193) rfl)) rfl
theorem lL_77 : Cond.methodLink R_law 77 yX11_salt ∈ lw_gd := gd_in (ti_6 (List.mem_of_getElem? (i := 12) rfl)) rfl
theorem lL_78 : Cond.methodLink R_law 78 yX10_drift ∈ lw_gd := gd_in (ti_3 (List.mem_of_getElem? (i := 198) rfl)) rfl
theorem lL_81 : Cond.methodLink R_law 81 yX11_drift ∈ lw_gd := gd_in (ti_6 (List.mem_of_getElem? (i := 16) rfl)) rfl
theorem lL_82 : Cond.methodLink R_law 82 yX10_undo ∈ lw_gd := gd_in (ti_3 (List.mem_of_getElem? (i := 224) rfl)) rfl
theorem lL_85 : Cond.methodLink R_law 85 yX11_undo ∈ lw_gd := gd_in (ti_6 (List.mem_of_getElem? (i := 34) rfl)) rfl
theorem lL_86 : Cond.methodLink R_law 86 yX10_toShake ∈ lw_gd := gd_in (ti_3 (List.mem_of_getElem? (i := 232) rfl)) rfl
theorem lL_89 : Cond.methodLink R_law 89 yX11_toShake ∈ lw_gd := gd_in (ti_5 (List.mem_of_getElem? (i := 78) rfl)) rfl
theorem lL_90 : Cond.methodLink R_law 90 yX10_within ∈ lw_gd := gd_in (ti_4 (List.mem_of_getElem? (i := 14) rfl)) rfl
theorem lL_93 : Cond.methodLink R_law 93 yX11_within ∈ lw_gd := gd_in (ti_5 (List.mem_of_getElem? (i := 170) rfl)) rfl
theorem lL_94 : Cond.methodLink R_law 94 yX10_same ∈ lw_gd := gd_in (ti_4 (List.mem_of_getElem? (i := 18) rfl)) rfl
theorem lL_97 : Cond.methodLink R_law 97 yX11_same ∈ lw_gd := gd_in (ti_5 (List.mem_of_getElem? (i := 178) rfl)) rfl
theorem lL_98 : Cond.methodLink R_law 98 yX10_tells ∈ lw_gd := gd_in (ti_4 (List.mem_of_getElem? (i := 42) rfl)) rfl
theorem lL_101 : Cond.methodLink R_law 101 yX11_tells ∈ lw_gd := gd_in (ti_5 (List.mem_of_getElem? (i := 194) rfl)) rfl
theorem lL_102 : Cond.methodLink R_law 102 yX10_words ∈ lw_gd := gd_in (ti_4 (List.mem_of_getElem? (i := 50) rfl)) rfl
theorem lL_105 : Cond.methodLink R_law 105 yX11_words ∈ lw_gd := gd_in (ti_5 (List.mem_of_getElem? (i := 198) rfl)) rfl
theorem lL_106 : Cond.methodLink R_law 106 yX10_colour ∈ lw_gd := gd_in (ti_4 (List.mem_of_getElem? (i := 59) rfl)) rfl
theorem lL_109 : Cond.methodLink R_law 109 yX11_colour ∈ lw_gd := gd_in (ti_5 (List.mem_of_getElem? (i := 101) rfl)) rfl
theorem lL_110 : Cond.methodLink R_law 110 yX10_whole ∈ lw_gd := gd_in (ti_4 (List.mem_of_getElem? (i := 67) rfl)) rfl
theorem lL_113 : Cond.methodLink R_law 113 yX11_whole ∈ lw_gd := gd_in (ti_6 (List.mem_of_getElem? (i := 38) rfl)) rfl
theorem lL_114 : Cond.methodLink R_law 114 yX10_write ∈ lw_gd := gd_in (ti_4 (List.mem_of_getElem? (i := 73) rfl)) rfl
theorem lL_117 : Cond.methodLink R_law 117 yX11_write ∈ lw_gd := gd_in (ti_6 (List.mem_of_getElem? (i := 45) rfl)) rfl
theorem lL_118 : Cond.methodLink R_law 118 yX10_tear ∈ lw_gd := gd_in (ti_4 (List.mem_of_getElem? (i := 81) rfl)) rfl
theorem lL_121 : Cond.methodLink R_law 121 yX11_tear ∈ lw_gd := gd_in (ti_6 (List.mem_of_getElem? (i := 49) rfl)) rfl
theorem lL_122 : Cond.methodLink R_law 122 yX10_judge ∈ lw_gd := gd_in (ti_4 (List.mem_of_getElem? (i := 85) rfl)) rfl
theorem lL_125 : Cond.methodLink R_law 125 yX11_judge ∈ lw_gd := gd_in (ti_6 (List.mem_of_getElem? (i := 53) rfl)) rfl
theorem lL_126 : Cond.methodLink R_law 126 yX10_seed ∈ lw_gd := gd_in (ti_4 (List.mem_of_getElem? (i := 94) rfl)) rfl
theorem lL_129 : Cond.methodLink R_law 129 yX11_seed ∈ lw_gd := gd_in (ti_6 (List.mem_of_getElem? (i := 57) rfl)) rfl
theorem lL_130 : Cond.methodLink R_law 130 yX10_keep ∈ lw_gd := gd_in (ti_4 (List.mem_of_getElem? (i := 98) rfl)) rfl
theorem lL_133 : Cond.methodLink R_law 133 yX11_keep ∈ lw_gd := gd_in (ti_6 (List.mem_of_getElem? (i := 61) rfl)) rfl
theorem lL_134 : Cond.methodLink R_law 134 yX10_goBack ∈ lw_gd := gd_in (ti_4 (List.mem_of_getElem? (i := 102) rfl)) rfl
theorem lL_137 : Cond.methodLink R_law 137 yX11_goBack ∈ lw_gd := gd_in (ti_6 (List.mem_of_getElem? (i := 65) rfl)) rfl
def tL_0 : List EN := [(168, .aload_n 1, 1, 169, 0), (169, .aload_n 0, 1, 170, 0), (170, .iload_n 3, 1, 171, 0), (171, .iconst 1, 1, 172, 0), (172, .iadd, 1, 173, 0), (173, .iaload, 1, 174, 0), (174, .invokevirtual 13, 3, 177, 0), (177, .aload_n 2, 1, 178, 0), (178, .aload_n 0, 1, 179, 0), (179, .iload_n 3, 1, 180, 0), (180, .iconst 1, 1, 181, 0), (181, .iadd, 1, 182, 0), (182, .iaload, 1, 183, 0), (183, .invokevirtual 17, 3, 186, 0), (186, .if_icmp .eq 844, 3, 189, 1030), (189, .iconst 0, 1, 190, 0), (190, .ireturn, 1, 191, 0)]
theorem kL_0 : okc code tL_0 = true := by decide +kernel
theorem q_feed {L i B : Nat} {xs : Nat → Int32} {σ : AS} {h : HH} (K : ∀ (g : HH) (B1 : Nat) (σ1 : AS), 99 ≤ B1 → B1 ≤ B + 1 → WA B1 σ1 → CR σ1 g → MR σ1 g → LJ L xs i 1030 [] g) (hL : L ≤ 256) (hi : i + 4 ≤ L) (hB : 99 ≤ B) (hB2 : B ≤ 99 + i) (hW : WA B σ) (hC : CR σ h) (hM : MR σ h) : LJ L xs i 168 [] h := by
  refine l_a1 kL_0 (k := 0) rfl ?_
  refine l_arg kL_0 (k := 1) (d := 1) rfl rfl rfl rfl rfl rfl hL (by omega) ?_
  refine l_call kL_0 (k := 6) (t := 0) (j := 0) (as := [vi (xs (i + 1)).toInt]) (st := []) rfl lL_13 oX10_feed vX10_feed ⟨by decide, by decide⟩ rfl rfl rfl (Nat.le_of_ble_eq_true rfl) (c_feed hW hC (xs (i + 1)).toInt) (fun r g1 hp => ?_)
  obtain ⟨rfl, hC1, hF1⟩ := hp
  have hM1 := hM.fc hW hF1
  refine l_a2 kL_0 (k := 7) rfl ?_
  refine l_arg kL_0 (k := 8) (d := 1) rfl rfl rfl rfl rfl rfl hL (by omega) ?_
  refine l_call kL_0 (k := 13) (t := 40) (j := 0) (as := [vi (xs (i + 1)).toInt]) (st := [_]) rfl lL_17 oX11_feed vX11_feed ⟨by decide, by decide⟩ rfl rfl rfl (Nat.le_of_ble_eq_true rfl) (n_feed hW hM1 (xs (i + 1)).toInt) (fun r g2 hp => ?_)
  obtain ⟨rfl, hM2, hF2⟩ := hp
  refine l_eq kL_0 (k := 14) rfl ?_
  have hW1 := (w_feed hW (xs (i + 1)).toInt)
  exact K _ B _ (by omega) (by omega) hW1 (hC1.mo hW1 hF2) hM2
def tL_1 : List EN := [(191, .aload_n 1, 1, 192, 0), (192, .invokevirtual 18, 3, 195, 0), (195, .aload_n 2, 1, 196, 0), (196, .invokevirtual 22, 3, 199, 0), (199, .if_icmp .eq 831, 3, 202, 1030), (202, .iconst 0, 1, 203, 0), (203, .ireturn, 1, 204, 0)]
theorem kL_1 : okc code tL_1 = true := by decide +kernel
theorem q_tray {L i B : Nat} {xs : Nat → Int32} {σ : AS} {h : HH} (K : ∀ (g : HH) (B1 : Nat) (σ1 : AS), 99 ≤ B1 → B1 ≤ B + 1 → WA B1 σ1 → CR σ1 g → MR σ1 g → LJ L xs i 1030 [] g) (hL : L ≤ 256) (hi : i + 4 ≤ L) (hB : 99 ≤ B) (hB2 : B ≤ 99 + i) (hW : WA B σ) (hC : CR σ h) (hM : MR σ h) : LJ L xs i 191 [] h := by
  refine l_a1 kL_1 (k := 0) rfl ?_
  refine l_call kL_1 (k := 1) (t := 0) (j := 0) (as := []) (st := []) rfl lL_18 oX10_tray vX10_tray ⟨by decide, by decide⟩ rfl rfl rfl (Nat.le_of_ble_eq_true rfl) (c_tray hW hC) (fun r g1 hp => ?_)
  obtain ⟨rfl, hC1, hF1⟩ := hp
  have hM1 := hM.fc hW hF1
  refine l_a2 kL_1 (k := 2) rfl ?_
  refine l_call kL_1 (k := 3) (t := 40) (j := 0) (as := []) (st := [_]) rfl lL_22 oX11_tray vX11_tray ⟨by decide, by decide⟩ rfl rfl rfl (Nat.le_of_ble_eq_true rfl) (n_tray hW hM1) (fun r g2 hp => ?_)
  obtain ⟨rfl, hM2, hF2⟩ := hp
  refine l_eq kL_1 (k := 4) rfl ?_
  have hW1 := (w_tray hW hB)
  exact K _ B _ (by omega) (by omega) hW1 (hC1.mo hW1 hF2) hM2
def tL_2 : List EN := [(204, .aload_n 1, 1, 205, 0), (205, .invokevirtual 23, 3, 208, 0), (208, .aload_n 2, 1, 209, 0), (209, .invokevirtual 26, 3, 212, 0), (212, .if_icmp .eq 818, 3, 215, 1030), (215, .iconst 0, 1, 216, 0), (216, .ireturn, 1, 217, 0)]
theorem kL_2 : okc code tL_2 = true := by decide +kernel
theorem q_fault {L i B : Nat} {xs : Nat → Int32} {σ : AS} {h : HH} (K : ∀ (g : HH) (B1 : Nat) (σ1 : AS), 99 ≤ B1 → B1 ≤ B + 1 → WA B1 σ1 → CR σ1 g → MR σ1 g → LJ L xs i 1030 [] g) (hL : L ≤ 256) (hi : i + 4 ≤ L) (hB : 99 ≤ B) (hB2 : B ≤ 99 + i) (hW : WA B σ) (hC : CR σ h) (hM : MR σ h) : LJ L xs i 204 [] h := by
  refine l_a1 kL_2 (k := 0) rfl ?_
  refine l_call kL_2 (k := 1) (t := 0) (j := 0) (as := []) (st := []) rfl lL_23 oX10_fault vX10_fault ⟨by decide, by decide⟩ rfl rfl rfl (Nat.le_of_ble_eq_true rfl) (c_fault hC) (fun r g1 hp => ?_)
  obtain ⟨rfl, hC1, hF1⟩ := hp
  have hM1 := hM.fc hW hF1
  refine l_a2 kL_2 (k := 2) rfl ?_
  refine l_call kL_2 (k := 3) (t := 40) (j := 0) (as := []) (st := [_]) rfl lL_26 oX11_fault vX11_fault ⟨by decide, by decide⟩ rfl rfl rfl (Nat.le_of_ble_eq_true rfl) (n_fault hM1) (fun r g2 hp => ?_)
  obtain ⟨rfl, hM2, hF2⟩ := hp
  refine l_eq kL_2 (k := 4) rfl ?_
  have hW1 := hW
  exact K _ B _ (by omega) (by omega) hW1 (hC1.mo hW1 hF2) hM2
def tL_3 : List EN := [(217, .aload_n 1, 1, 218, 0), (218, .aload_n 0, 1, 219, 0), (219, .iload_n 3, 1, 220, 0), (220, .iconst 1, 1, 221, 0), (221, .iadd, 1, 222, 0), (222, .iaload, 1, 223, 0), (223, .invokevirtual 27, 3, 226, 0), (226, .aload_n 2, 1, 227, 0), (227, .aload_n 0, 1, 228, 0), (228, .iload_n 3, 1, 229, 0), (229, .iconst 1, 1, 230, 0), (230, .iadd, 1, 231, 0), (231, .iaload, 1, 232, 0), (232, .invokevirtual 30, 3, 235, 0), (235, .if_icmp .eq 795, 3, 238, 1030), (238, .iconst 0, 1, 239, 0), (239, .ireturn, 1, 240, 0)]
theorem kL_3 : okc code tL_3 = true := by decide +kernel
theorem q_told {L i B : Nat} {xs : Nat → Int32} {σ : AS} {h : HH} (K : ∀ (g : HH) (B1 : Nat) (σ1 : AS), 99 ≤ B1 → B1 ≤ B + 1 → WA B1 σ1 → CR σ1 g → MR σ1 g → LJ L xs i 1030 [] g) (hL : L ≤ 256) (hi : i + 4 ≤ L) (hB : 99 ≤ B) (hB2 : B ≤ 99 + i) (hW : WA B σ) (hC : CR σ h) (hM : MR σ h) : LJ L xs i 217 [] h := by
  refine l_a1 kL_3 (k := 0) rfl ?_
  refine l_arg kL_3 (k := 1) (d := 1) rfl rfl rfl rfl rfl rfl hL (by omega) ?_
  refine l_call kL_3 (k := 6) (t := 0) (j := 0) (as := [vi (xs (i + 1)).toInt]) (st := []) rfl lL_27 oX10_told vX10_told ⟨by decide, by decide⟩ rfl rfl rfl (Nat.le_of_ble_eq_true rfl) (c_told hW hC (xs (i + 1)).toInt) (fun r g1 hp => ?_)
  obtain ⟨rfl, hC1, hF1⟩ := hp
  have hM1 := hM.fc hW hF1
  refine l_a2 kL_3 (k := 7) rfl ?_
  refine l_arg kL_3 (k := 8) (d := 1) rfl rfl rfl rfl rfl rfl hL (by omega) ?_
  refine l_call kL_3 (k := 13) (t := 40) (j := 0) (as := [vi (xs (i + 1)).toInt]) (st := [_]) rfl lL_30 oX11_told vX11_told ⟨by decide, by decide⟩ rfl rfl rfl (Nat.le_of_ble_eq_true rfl) (n_told hW hM1 (xs (i + 1)).toInt) (fun r g2 hp => ?_)
  obtain ⟨rfl, hM2, hF2⟩ := hp
  refine l_eq kL_3 (k := 14) rfl ?_
  have hW1 := hW
  exact K _ B _ (by omega) (by omega) hW1 (hC1.mo hW1 hF2) hM2
def tL_4 : List EN := [(240, .aload_n 1, 1, 241, 0), (241, .aload_n 0, 1, 242, 0), (242, .iload_n 3, 1, 243, 0), (243, .iconst 1, 1, 244, 0), (244, .iadd, 1, 245, 0), (245, .iaload, 1, 246, 0), (246, .aload_n 0, 1, 247, 0), (247, .iload_n 3, 1, 248, 0), (248, .iconst 2, 1, 249, 0), (249, .iadd, 1, 250, 0), (250, .iaload, 1, 251, 0), (251, .invokevirtual 31, 3, 254, 0), (254, .aload_n 2, 1, 255, 0), (255, .aload_n 0, 1, 256, 0), (256, .iload_n 3, 1, 257, 0), (257, .iconst 1, 1, 258, 0), (258, .iadd, 1, 259, 0), (259, .iaload, 1, 260, 0), (260, .aload_n 0, 1, 261, 0), (261, .iload_n 3, 1, 262, 0), (262, .iconst 2, 1, 263, 0), (263, .iadd, 1, 264, 0), (264, .iaload, 1, 265, 0), (265, .invokevirtual 35, 3, 268, 0), (268, .if_icmp .eq 762, 3, 271, 1030), (271, .iconst 0, 1, 272, 0), (272, .ireturn, 1, 273, 0)]
theorem kL_4 : okc code tL_4 = true := by decide +kernel
theorem q_pretzel {L i B : Nat} {xs : Nat → Int32} {σ : AS} {h : HH} (K : ∀ (g : HH) (B1 : Nat) (σ1 : AS), 99 ≤ B1 → B1 ≤ B + 1 → WA B1 σ1 → CR σ1 g → MR σ1 g → LJ L xs i 1030 [] g) (hL : L ≤ 256) (hi : i + 4 ≤ L) (hB : 99 ≤ B) (hB2 : B ≤ 99 + i) (hW : WA B σ) (hC : CR σ h) (hM : MR σ h) : LJ L xs i 240 [] h := by
  refine l_a1 kL_4 (k := 0) rfl ?_
  refine l_arg kL_4 (k := 1) (d := 1) rfl rfl rfl rfl rfl rfl hL (by omega) ?_
  refine l_arg kL_4 (k := 6) (d := 2) rfl rfl rfl rfl rfl rfl hL (by omega) ?_
  refine l_call kL_4 (k := 11) (t := 0) (j := 0) (as := [vi (xs (i + 1)).toInt, vi (xs (i + 2)).toInt]) (st := []) rfl lL_31 oX10_pretzel vX10_pretzel ⟨by decide, by decide⟩ rfl rfl rfl (Nat.le_of_ble_eq_true rfl) (c_pretzel hW hC (xs (i + 1)).toInt (xs (i + 2)).toInt) (fun r g1 hp => ?_)
  obtain ⟨rfl, hC1, hF1⟩ := hp
  have hM1 := hM.fc hW hF1
  refine l_a2 kL_4 (k := 12) rfl ?_
  refine l_arg kL_4 (k := 13) (d := 1) rfl rfl rfl rfl rfl rfl hL (by omega) ?_
  refine l_arg kL_4 (k := 18) (d := 2) rfl rfl rfl rfl rfl rfl hL (by omega) ?_
  refine l_call kL_4 (k := 23) (t := 40) (j := 0) (as := [vi (xs (i + 1)).toInt, vi (xs (i + 2)).toInt]) (st := [_]) rfl lL_35 oX11_pretzel vX11_pretzel ⟨by decide, by decide⟩ rfl rfl rfl (Nat.le_of_ble_eq_true rfl) (n_pretzel hW hM1 (xs (i + 1)).toInt (xs (i + 2)).toInt) (fun r g2 hp => ?_)
  obtain ⟨rfl, hM2, hF2⟩ := hp
  refine l_eq kL_4 (k := 24) rfl ?_
  have hW1 := (w_pretzel hW (xs (i + 1)).toInt (xs (i + 2)).toInt)
  exact K _ B _ (by omega) (by omega) hW1 (hC1.mo hW1 hF2) hM2
def tL_5 : List EN := [(273, .aload_n 1, 1, 274, 0), (274, .aload_n 0, 1, 275, 0), (275, .iload_n 3, 1, 276, 0), (276, .iconst 1, 1, 277, 0), (277, .iadd, 1, 278, 0), (278, .iaload, 1, 279, 0), (279, .aload_n 0, 1, 280, 0), (280, .iload_n 3, 1, 281, 0), (281, .iconst 2, 1, 282, 0), (282, .iadd, 1, 283, 0), (283, .iaload, 1, 284, 0), (284, .invokevirtual 36, 3, 287, 0), (287, .aload_n 2, 1, 288, 0), (288, .aload_n 0, 1, 289, 0), (289, .iload_n 3, 1, 290, 0), (290, .iconst 1, 1, 291, 0), (291, .iadd, 1, 292, 0), (292, .iaload, 1, 293, 0), (293, .aload_n 0, 1, 294, 0), (294, .iload_n 3, 1, 295, 0), (295, .iconst 2, 1, 296, 0), (296, .iadd, 1, 297, 0), (297, .iaload, 1, 298, 0), (298, .invokevirtual 39, 3, 301, 0), (301, .if_icmp .eq 729, 3, 304, 1030), (304, .iconst 0, 1, 305, 0), (305, .ireturn, 1, 306, 0)]
theorem kL_5 : okc code tL_5 = true := by decide +kernel
theorem q_pass {L i B : Nat} {xs : Nat → Int32} {σ : AS} {h : HH} (K : ∀ (g : HH) (B1 : Nat) (σ1 : AS), 99 ≤ B1 → B1 ≤ B + 1 → WA B1 σ1 → CR σ1 g → MR σ1 g → LJ L xs i 1030 [] g) (hL : L ≤ 256) (hi : i + 4 ≤ L) (hB : 99 ≤ B) (hB2 : B ≤ 99 + i) (hW : WA B σ) (hC : CR σ h) (hM : MR σ h) : LJ L xs i 273 [] h := by
  refine l_a1 kL_5 (k := 0) rfl ?_
  refine l_arg kL_5 (k := 1) (d := 1) rfl rfl rfl rfl rfl rfl hL (by omega) ?_
  refine l_arg kL_5 (k := 6) (d := 2) rfl rfl rfl rfl rfl rfl hL (by omega) ?_
  refine l_call kL_5 (k := 11) (t := 0) (j := 0) (as := [vi (xs (i + 1)).toInt, vi (xs (i + 2)).toInt]) (st := []) rfl lL_36 oX10_pass vX10_pass ⟨by decide, by decide⟩ rfl rfl rfl (Nat.le_of_ble_eq_true rfl) (c_pass hW hC (xs (i + 1)).toInt (xs (i + 2)).toInt) (fun r g1 hp => ?_)
  obtain ⟨rfl, hC1, hF1⟩ := hp
  have hM1 := hM.fc hW hF1
  refine l_a2 kL_5 (k := 12) rfl ?_
  refine l_arg kL_5 (k := 13) (d := 1) rfl rfl rfl rfl rfl rfl hL (by omega) ?_
  refine l_arg kL_5 (k := 18) (d := 2) rfl rfl rfl rfl rfl rfl hL (by omega) ?_
  refine l_call kL_5 (k := 23) (t := 40) (j := 0) (as := [vi (xs (i + 1)).toInt, vi (xs (i + 2)).toInt]) (st := [_]) rfl lL_39 oX11_pass vX11_pass ⟨by decide, by decide⟩ rfl rfl rfl (Nat.le_of_ble_eq_true rfl) (n_pass hW hM1 (xs (i + 1)).toInt (xs (i + 2)).toInt) (fun r g2 hp => ?_)
  obtain ⟨rfl, hM2, hF2⟩ := hp
  refine l_eq kL_5 (k := 24) rfl ?_
  have hW1 := (w_pass hW (xs (i + 1)).toInt (xs (i + 2)).toInt)
  exact K _ B _ (by omega) (by omega) hW1 (hC1.mo hW1 hF2) hM2
def tL_6 : List EN := [(306, .aload_n 1, 1, 307, 0), (307, .aload_n 0, 1, 308, 0), (308, .iload_n 3, 1, 309, 0), (309, .iconst 1, 1, 310, 0), (310, .iadd, 1, 311, 0), (311, .iaload, 1, 312, 0), (312, .aload_n 0, 1, 313, 0), (313, .iload_n 3, 1, 314, 0), (314, .iconst 2, 1, 315, 0), (315, .iadd, 1, 316, 0), (316, .iaload, 1, 317, 0), (317, .invokevirtual 40, 3, 320, 0), (320, .aload_n 2, 1, 321, 0), (321, .aload_n 0, 1, 322, 0), (322, .iload_n 3, 1, 323, 0), (323, .iconst 1, 1, 324, 0), (324, .iadd, 1, 325, 0), (325, .iaload, 1, 326, 0), (326, .aload_n 0, 1, 327, 0), (327, .iload_n 3, 1, 328, 0), (328, .iconst 2, 1, 329, 0), (329, .iadd, 1, 330, 0), (330, .iaload, 1, 331, 0), (331, .invokevirtual 43, 3, 334, 0), (334, .if_icmp .eq 696, 3, 337, 1030), (337, .iconst 0, 1, 338, 0), (338, .ireturn, 1, 339, 0)]
theorem kL_6 : okc code tL_6 = true := by decide +kernel
theorem q_moves {L i B : Nat} {xs : Nat → Int32} {σ : AS} {h : HH} (K : ∀ (g : HH) (B1 : Nat) (σ1 : AS), 99 ≤ B1 → B1 ≤ B + 1 → WA B1 σ1 → CR σ1 g → MR σ1 g → LJ L xs i 1030 [] g) (hL : L ≤ 256) (hi : i + 4 ≤ L) (hB : 99 ≤ B) (hB2 : B ≤ 99 + i) (hW : WA B σ) (hC : CR σ h) (hM : MR σ h) : LJ L xs i 306 [] h := by
  refine l_a1 kL_6 (k := 0) rfl ?_
  refine l_arg kL_6 (k := 1) (d := 1) rfl rfl rfl rfl rfl rfl hL (by omega) ?_
  refine l_arg kL_6 (k := 6) (d := 2) rfl rfl rfl rfl rfl rfl hL (by omega) ?_
  refine l_call kL_6 (k := 11) (t := 0) (j := 0) (as := [vi (xs (i + 1)).toInt, vi (xs (i + 2)).toInt]) (st := []) rfl lL_40 oX10_moves vX10_moves ⟨by decide, by decide⟩ rfl rfl rfl (Nat.le_of_ble_eq_true rfl) (c_moves hW hC (xs (i + 1)).toInt (xs (i + 2)).toInt) (fun r g1 hp => ?_)
  obtain ⟨rfl, hC1, hF1⟩ := hp
  have hM1 := hM.fc hW hF1
  refine l_a2 kL_6 (k := 12) rfl ?_
  refine l_arg kL_6 (k := 13) (d := 1) rfl rfl rfl rfl rfl rfl hL (by omega) ?_
  refine l_arg kL_6 (k := 18) (d := 2) rfl rfl rfl rfl rfl rfl hL (by omega) ?_
  refine l_call kL_6 (k := 23) (t := 40) (j := 0) (as := [vi (xs (i + 1)).toInt, vi (xs (i + 2)).toInt]) (st := [_]) rfl lL_43 oX11_moves vX11_moves ⟨by decide, by decide⟩ rfl rfl rfl (Nat.le_of_ble_eq_true rfl) (n_moves hW hM1 (xs (i + 1)).toInt (xs (i + 2)).toInt) (fun r g2 hp => ?_)
  obtain ⟨rfl, hM2, hF2⟩ := hp
  refine l_eq kL_6 (k := 24) rfl ?_
  have hW1 := (w_moves hW (xs (i + 1)).toInt (xs (i + 2)).toInt)
  exact K _ B _ (by omega) (by omega) hW1 (hC1.mo hW1 hF2) hM2
def tL_7 : List EN := [(339, .aload_n 1, 1, 340, 0), (340, .aload_n 0, 1, 341, 0), (341, .iload_n 3, 1, 342, 0), (342, .iconst 1, 1, 343, 0), (343, .iadd, 1, 344, 0), (344, .iaload, 1, 345, 0), (345, .aload_n 0, 1, 346, 0), (346, .iload_n 3, 1, 347, 0), (347, .iconst 2, 1, 348, 0), (348, .iadd, 1, 349, 0), (349, .iaload, 1, 350, 0), (350, .aload_n 0, 1, 351, 0), (351, .iload_n 3, 1, 352, 0), (352, .iconst 3, 1, 353, 0), (353, .iadd, 1, 354, 0), (354, .iaload, 1, 355, 0), (355, .invokevirtual 44, 3, 358, 0), (358, .aload_n 2, 1, 359, 0), (359, .aload_n 0, 1, 360, 0), (360, .iload_n 3, 1, 361, 0), (361, .iconst 1, 1, 362, 0), (362, .iadd, 1, 363, 0), (363, .iaload, 1, 364, 0), (364, .aload_n 0, 1, 365, 0), (365, .iload_n 3, 1, 366, 0), (366, .iconst 2, 1, 367, 0), (367, .iadd, 1, 368, 0), (368, .iaload, 1, 369, 0), (369, .aload_n 0, 1, 370, 0), (370, .iload_n 3, 1, 371, 0), (371, .iconst 3, 1, 372, 0), (372, .iadd, 1, 373, 0), (373, .iaload, 1, 374, 0), (374, .invokevirtual 48, 3, 377, 0), (377, .if_icmp .eq 653, 3, 380, 1030), (380, .iconst 0, 1, 381, 0), (381, .ireturn, 1, 382, 0)]
theorem kL_7 : okc code tL_7 = true := by decide +kernel
theorem q_shake {L i B : Nat} {xs : Nat → Int32} {σ : AS} {h : HH} (K : ∀ (g : HH) (B1 : Nat) (σ1 : AS), 99 ≤ B1 → B1 ≤ B + 1 → WA B1 σ1 → CR σ1 g → MR σ1 g → LJ L xs i 1030 [] g) (hL : L ≤ 256) (hi : i + 4 ≤ L) (hB : 99 ≤ B) (hB2 : B ≤ 99 + i) (hW : WA B σ) (hC : CR σ h) (hM : MR σ h) : LJ L xs i 339 [] h := by
  refine l_a1 kL_7 (k := 0) rfl ?_
  refine l_arg kL_7 (k := 1) (d := 1) rfl rfl rfl rfl rfl rfl hL (by omega) ?_
  refine l_arg kL_7 (k := 6) (d := 2) rfl rfl rfl rfl rfl rfl hL (by omega) ?_
  refine l_arg kL_7 (k := 11) (d := 3) rfl rfl rfl rfl rfl rfl hL (by omega) ?_
  refine l_call kL_7 (k := 16) (t := 0) (j := 0) (as := [vi (xs (i + 1)).toInt, vi (xs (i + 2)).toInt, vi (xs (i + 3)).toInt]) (st := []) rfl lL_44 oX10_shake vX10_shake ⟨by decide, by decide⟩ rfl rfl rfl (Nat.le_of_ble_eq_true rfl) (c_shake hW hC (xs (i + 1)).toInt (xs (i + 2)).toInt (xs (i + 3)).toInt) (fun r g1 hp => ?_)
  obtain ⟨rfl, hC1, hF1⟩ := hp
  have hM1 := hM.fc hW hF1
  refine l_a2 kL_7 (k := 17) rfl ?_
  refine l_arg kL_7 (k := 18) (d := 1) rfl rfl rfl rfl rfl rfl hL (by omega) ?_
  refine l_arg kL_7 (k := 23) (d := 2) rfl rfl rfl rfl rfl rfl hL (by omega) ?_
  refine l_arg kL_7 (k := 28) (d := 3) rfl rfl rfl rfl rfl rfl hL (by omega) ?_
  refine l_call kL_7 (k := 33) (t := 40) (j := 0) (as := [vi (xs (i + 1)).toInt, vi (xs (i + 2)).toInt, vi (xs (i + 3)).toInt]) (st := [_]) rfl lL_48 oX11_shake vX11_shake ⟨by decide, by decide⟩ rfl rfl rfl (Nat.le_of_ble_eq_true rfl) (n_shake hW hM1 (xs (i + 1)).toInt (xs (i + 2)).toInt (xs (i + 3)).toInt) (fun r g2 hp => ?_)
  obtain ⟨rfl, hM2, hF2⟩ := hp
  refine l_eq kL_7 (k := 34) rfl ?_
  have hW1 := (w_shake hW (xs (i + 1)).toInt (xs (i + 2)).toInt (xs (i + 3)).toInt)
  exact K _ B _ (by omega) (by omega) hW1 (hC1.mo hW1 hF2) hM2
def tL_8 : List EN := [(382, .aload_n 1, 1, 383, 0), (383, .aload_n 0, 1, 384, 0), (384, .iload_n 3, 1, 385, 0), (385, .iconst 1, 1, 386, 0), (386, .iadd, 1, 387, 0), (387, .iaload, 1, 388, 0), (388, .aload_n 0, 1, 389, 0), (389, .iload_n 3, 1, 390, 0), (390, .iconst 2, 1, 391, 0), (391, .iadd, 1, 392, 0), (392, .iaload, 1, 393, 0), (393, .aload_n 0, 1, 394, 0), (394, .iload_n 3, 1, 395, 0), (395, .iconst 3, 1, 396, 0), (396, .iadd, 1, 397, 0), (397, .iaload, 1, 398, 0), (398, .ifCond .eq 7, 3, 401, 405), (401, .iconst 1, 1, 402, 0), (402, .goto 4, 3, 405, 406), (405, .iconst 0, 1, 406, 0), (406, .invokevirtual 49, 3, 409, 0), (409, .aload_n 2, 1, 410, 0), (410, .aload_n 0, 1, 411, 0), (411, .iload_n 3, 1, 412, 0), (412, .iconst 1, 1, 413, 0), (413, .iadd, 1, 414, 0), (414, .iaload, 1, 415, 0), (415, .aload_n 0, 1, 416, 0), (416, .iload_n 3, 1, 417, 0), (417, .iconst 2, 1, 418, 0), (418, .iadd, 1, 419, 0), (419, .iaload, 1, 420, 0), (420, .aload_n 0, 1, 421, 0), (421, .iload_n 3, 1, 422, 0), (422, .iconst 3, 1, 423, 0), (423, .iadd, 1, 424, 0), (424, .iaload, 1, 425, 0), (425, .ifCond .eq 7, 3, 428, 432), (428, .iconst 1, 1, 429, 0), (429, .goto 4, 3, 432, 433), (432, .iconst 0, 1, 433, 0), (433, .invokevirtual 53, 3, 436, 0), (436, .if_icmp .eq 594, 3, 439, 1030), (439, .iconst 0, 1, 440, 0), (440, .ireturn, 1, 441, 0)]
theorem kL_8 : okc code tL_8 = true := by decide +kernel
theorem q_curl {L i B : Nat} {xs : Nat → Int32} {σ : AS} {h : HH} (K : ∀ (g : HH) (B1 : Nat) (σ1 : AS), 99 ≤ B1 → B1 ≤ B + 1 → WA B1 σ1 → CR σ1 g → MR σ1 g → LJ L xs i 1030 [] g) (hL : L ≤ 256) (hi : i + 4 ≤ L) (hB : 99 ≤ B) (hB2 : B ≤ 99 + i) (hW : WA B σ) (hC : CR σ h) (hM : MR σ h) : LJ L xs i 382 [] h := by
  refine l_a1 kL_8 (k := 0) rfl ?_
  refine l_arg kL_8 (k := 1) (d := 1) rfl rfl rfl rfl rfl rfl hL (by omega) ?_
  refine l_arg kL_8 (k := 6) (d := 2) rfl rfl rfl rfl rfl rfl hL (by omega) ?_
  refine l_arg kL_8 (k := 11) (d := 3) rfl rfl rfl rfl rfl rfl hL (by omega) ?_
  refine l_bool kL_8 (k := 16) rfl rfl rfl rfl ?_
  refine l_call kL_8 (k := 20) (t := 0) (j := 0) (as := [vi (xs (i + 1)).toInt, vi (xs (i + 2)).toInt, vi (b01 (decide ((xs (i + 3)).toInt ≠ 0)))]) (st := []) rfl lL_49 oX10_curl vX10_curl ⟨by decide, by decide⟩ rfl rfl rfl (Nat.le_of_ble_eq_true rfl) (c_curl hW hC (xs (i + 1)).toInt (xs (i + 2)).toInt (decide ((xs (i + 3)).toInt ≠ 0))) (fun r g1 hp => ?_)
  obtain ⟨rfl, hC1, hF1⟩ := hp
  have hM1 := hM.fc hW hF1
  refine l_a2 kL_8 (k := 21) rfl ?_
  refine l_arg kL_8 (k := 22) (d := 1) rfl rfl rfl rfl rfl rfl hL (by omega) ?_
  refine l_arg kL_8 (k := 27) (d := 2) rfl rfl rfl rfl rfl rfl hL (by omega) ?_
  refine l_arg kL_8 (k := 32) (d := 3) rfl rfl rfl rfl rfl rfl hL (by omega) ?_
  refine l_bool kL_8 (k := 37) rfl rfl rfl rfl ?_
  refine l_call kL_8 (k := 41) (t := 40) (j := 0) (as := [vi (xs (i + 1)).toInt, vi (xs (i + 2)).toInt, vi (b01 (decide ((xs (i + 3)).toInt ≠ 0)))]) (st := [_]) rfl lL_53 oX11_curl vX11_curl ⟨by decide, by decide⟩ rfl rfl rfl (Nat.le_of_ble_eq_true rfl) (n_curl hW hM1 (xs (i + 1)).toInt (xs (i + 2)).toInt (decide ((xs (i + 3)).toInt ≠ 0))) (fun r g2 hp => ?_)
  obtain ⟨rfl, hM2, hF2⟩ := hp
  refine l_eq kL_8 (k := 42) rfl ?_
  have hW1 := (w_curl hW (xs (i + 1)).toInt (xs (i + 2)).toInt (decide ((xs (i + 3)).toInt ≠ 0)))
  exact K _ B _ (by omega) (by omega) hW1 (hC1.mo hW1 hF2) hM2
def tL_9 : List EN := [(441, .aload_n 1, 1, 442, 0), (442, .aload_n 0, 1, 443, 0), (443, .iload_n 3, 1, 444, 0), (444, .iconst 1, 1, 445, 0), (445, .iadd, 1, 446, 0), (446, .iaload, 1, 447, 0), (447, .aload_n 0, 1, 448, 0), (448, .iload_n 3, 1, 449, 0), (449, .iconst 2, 1, 450, 0), (450, .iadd, 1, 451, 0), (451, .iaload, 1, 452, 0), (452, .invokevirtual 54, 3, 455, 0), (455, .aload_n 2, 1, 456, 0), (456, .aload_n 0, 1, 457, 0), (457, .iload_n 3, 1, 458, 0), (458, .iconst 1, 1, 459, 0), (459, .iadd, 1, 460, 0), (460, .iaload, 1, 461, 0), (461, .aload_n 0, 1, 462, 0), (462, .iload_n 3, 1, 463, 0), (463, .iconst 2, 1, 464, 0), (464, .iadd, 1, 465, 0), (465, .iaload, 1, 466, 0), (466, .invokevirtual 57, 3, 469, 0), (469, .if_icmp .eq 561, 3, 472, 1030), (472, .iconst 0, 1, 473, 0), (473, .ireturn, 1, 474, 0)]
theorem kL_9 : okc code tL_9 = true := by decide +kernel
theorem q_turn {L i B : Nat} {xs : Nat → Int32} {σ : AS} {h : HH} (K : ∀ (g : HH) (B1 : Nat) (σ1 : AS), 99 ≤ B1 → B1 ≤ B + 1 → WA B1 σ1 → CR σ1 g → MR σ1 g → LJ L xs i 1030 [] g) (hL : L ≤ 256) (hi : i + 4 ≤ L) (hB : 99 ≤ B) (hB2 : B ≤ 99 + i) (hW : WA B σ) (hC : CR σ h) (hM : MR σ h) : LJ L xs i 441 [] h := by
  refine l_a1 kL_9 (k := 0) rfl ?_
  refine l_arg kL_9 (k := 1) (d := 1) rfl rfl rfl rfl rfl rfl hL (by omega) ?_
  refine l_arg kL_9 (k := 6) (d := 2) rfl rfl rfl rfl rfl rfl hL (by omega) ?_
  refine l_call kL_9 (k := 11) (t := 0) (j := 0) (as := [vi (xs (i + 1)).toInt, vi (xs (i + 2)).toInt]) (st := []) rfl lL_54 oX10_turn vX10_turn ⟨by decide, by decide⟩ rfl rfl rfl (Nat.le_of_ble_eq_true rfl) (c_turn hW hC (xs (i + 1)).toInt (xs (i + 2)).toInt) (fun r g1 hp => ?_)
  obtain ⟨rfl, hC1, hF1⟩ := hp
  have hM1 := hM.fc hW hF1
  refine l_a2 kL_9 (k := 12) rfl ?_
  refine l_arg kL_9 (k := 13) (d := 1) rfl rfl rfl rfl rfl rfl hL (by omega) ?_
  refine l_arg kL_9 (k := 18) (d := 2) rfl rfl rfl rfl rfl rfl hL (by omega) ?_
  refine l_call kL_9 (k := 23) (t := 40) (j := 0) (as := [vi (xs (i + 1)).toInt, vi (xs (i + 2)).toInt]) (st := [_]) rfl lL_57 oX11_turn vX11_turn ⟨by decide, by decide⟩ rfl rfl rfl (Nat.le_of_ble_eq_true rfl) (n_turn hW hM1 (xs (i + 1)).toInt (xs (i + 2)).toInt) (fun r g2 hp => ?_)
  obtain ⟨rfl, hM2, hF2⟩ := hp
  refine l_eq kL_9 (k := 24) rfl ?_
  have hW1 := (w_turn hW (xs (i + 1)).toInt (xs (i + 2)).toInt)
  exact K _ B _ (by omega) (by omega) hW1 (hC1.mo hW1 hF2) hM2
def tL_10 : List EN := [(474, .aload_n 1, 1, 475, 0), (475, .aload_n 0, 1, 476, 0), (476, .iload_n 3, 1, 477, 0), (477, .iconst 1, 1, 478, 0), (478, .iadd, 1, 479, 0), (479, .iaload, 1, 480, 0), (480, .invokevirtual 58, 3, 483, 0), (483, .aload_n 2, 1, 484, 0), (484, .aload_n 0, 1, 485, 0), (485, .iload_n 3, 1, 486, 0), (486, .iconst 1, 1, 487, 0), (487, .iadd, 1, 488, 0), (488, .iaload, 1, 489, 0), (489, .invokevirtual 61, 3, 492, 0), (492, .if_icmp .eq 538, 3, 495, 1030), (495, .iconst 0, 1, 496, 0), (496, .ireturn, 1, 497, 0)]
theorem kL_10 : okc code tL_10 = true := by decide +kernel
theorem q_reverse {L i B : Nat} {xs : Nat → Int32} {σ : AS} {h : HH} (K : ∀ (g : HH) (B1 : Nat) (σ1 : AS), 99 ≤ B1 → B1 ≤ B + 1 → WA B1 σ1 → CR σ1 g → MR σ1 g → LJ L xs i 1030 [] g) (hL : L ≤ 256) (hi : i + 4 ≤ L) (hB : 99 ≤ B) (hB2 : B ≤ 99 + i) (hW : WA B σ) (hC : CR σ h) (hM : MR σ h) : LJ L xs i 474 [] h := by
  refine l_a1 kL_10 (k := 0) rfl ?_
  refine l_arg kL_10 (k := 1) (d := 1) rfl rfl rfl rfl rfl rfl hL (by omega) ?_
  refine l_call kL_10 (k := 6) (t := 0) (j := 0) (as := [vi (xs (i + 1)).toInt]) (st := []) rfl lL_58 oX10_reverse vX10_reverse ⟨by decide, by decide⟩ rfl rfl rfl (Nat.le_of_ble_eq_true rfl) (c_reverse hW hC (xs (i + 1)).toInt) (fun r g1 hp => ?_)
  obtain ⟨rfl, hC1, hF1⟩ := hp
  have hM1 := hM.fc hW hF1
  refine l_a2 kL_10 (k := 7) rfl ?_
  refine l_arg kL_10 (k := 8) (d := 1) rfl rfl rfl rfl rfl rfl hL (by omega) ?_
  refine l_call kL_10 (k := 13) (t := 40) (j := 0) (as := [vi (xs (i + 1)).toInt]) (st := [_]) rfl lL_61 oX11_reverse vX11_reverse ⟨by decide, by decide⟩ rfl rfl rfl (Nat.le_of_ble_eq_true rfl) (n_reverse hW hM1 (xs (i + 1)).toInt) (fun r g2 hp => ?_)
  obtain ⟨rfl, hM2, hF2⟩ := hp
  refine l_eq kL_10 (k := 14) rfl ?_
  have hW1 := (w_reverse hW (xs (i + 1)).toInt)
  exact K _ B _ (by omega) (by omega) hW1 (hC1.mo hW1 hF2) hM2
def tL_11 : List EN := [(497, .aload_n 1, 1, 498, 0), (498, .aload_n 0, 1, 499, 0), (499, .iload_n 3, 1, 500, 0), (500, .iconst 1, 1, 501, 0), (501, .iadd, 1, 502, 0), (502, .iaload, 1, 503, 0), (503, .invokevirtual 62, 3, 506, 0), (506, .aload_n 2, 1, 507, 0), (507, .aload_n 0, 1, 508, 0), (508, .iload_n 3, 1, 509, 0), (509, .iconst 1, 1, 510, 0), (510, .iadd, 1, 511, 0), (511, .iaload, 1, 512, 0), (512, .invokevirtual 65, 3, 515, 0), (515, .if_icmp .eq 515, 3, 518, 1030), (518, .iconst 0, 1, 519, 0), (519, .ireturn, 1, 520, 0)]
theorem kL_11 : okc code tL_11 = true := by decide +kernel
theorem q_mirror {L i B : Nat} {xs : Nat → Int32} {σ : AS} {h : HH} (K : ∀ (g : HH) (B1 : Nat) (σ1 : AS), 99 ≤ B1 → B1 ≤ B + 1 → WA B1 σ1 → CR σ1 g → MR σ1 g → LJ L xs i 1030 [] g) (hL : L ≤ 256) (hi : i + 4 ≤ L) (hB : 99 ≤ B) (hB2 : B ≤ 99 + i) (hW : WA B σ) (hC : CR σ h) (hM : MR σ h) : LJ L xs i 497 [] h := by
  refine l_a1 kL_11 (k := 0) rfl ?_
  refine l_arg kL_11 (k := 1) (d := 1) rfl rfl rfl rfl rfl rfl hL (by omega) ?_
  refine l_call kL_11 (k := 6) (t := 0) (j := 0) (as := [vi (xs (i + 1)).toInt]) (st := []) rfl lL_62 oX10_mirror vX10_mirror ⟨by decide, by decide⟩ rfl rfl rfl (Nat.le_of_ble_eq_true rfl) (c_mirror hW hC (xs (i + 1)).toInt) (fun r g1 hp => ?_)
  obtain ⟨rfl, hC1, hF1⟩ := hp
  have hM1 := hM.fc hW hF1
  refine l_a2 kL_11 (k := 7) rfl ?_
  refine l_arg kL_11 (k := 8) (d := 1) rfl rfl rfl rfl rfl rfl hL (by omega) ?_
  refine l_call kL_11 (k := 13) (t := 40) (j := 0) (as := [vi (xs (i + 1)).toInt]) (st := [_]) rfl lL_65 oX11_mirror vX11_mirror ⟨by decide, by decide⟩ rfl rfl rfl (Nat.le_of_ble_eq_true rfl) (n_mirror hW hM1 (xs (i + 1)).toInt) (fun r g2 hp => ?_)
  obtain ⟨rfl, hM2, hF2⟩ := hp
  refine l_eq kL_11 (k := 14) rfl ?_
  have hW1 := (w_mirror hW (xs (i + 1)).toInt)
  exact K _ B _ (by omega) (by omega) hW1 (hC1.mo hW1 hF2) hM2
def tL_12 : List EN := [(520, .aload_n 1, 1, 521, 0), (521, .aload_n 0, 1, 522, 0), (522, .iload_n 3, 1, 523, 0), (523, .iconst 1, 1, 524, 0), (524, .iadd, 1, 525, 0), (525, .iaload, 1, 526, 0), (526, .invokevirtual 66, 3, 529, 0), (529, .aload_n 2, 1, 530, 0), (530, .aload_n 0, 1, 531, 0), (531, .iload_n 3, 1, 532, 0), (532, .iconst 1, 1, 533, 0), (533, .iadd, 1, 534, 0), (534, .iaload, 1, 535, 0), (535, .invokevirtual 69, 3, 538, 0), (538, .if_icmp .eq 492, 3, 541, 1030), (541, .iconst 0, 1, 542, 0), (542, .ireturn, 1, 543, 0)]
theorem kL_12 : okc code tL_12 = true := by decide +kernel
theorem q_roll {L i B : Nat} {xs : Nat → Int32} {σ : AS} {h : HH} (K : ∀ (g : HH) (B1 : Nat) (σ1 : AS), 99 ≤ B1 → B1 ≤ B + 1 → WA B1 σ1 → CR σ1 g → MR σ1 g → LJ L xs i 1030 [] g) (hL : L ≤ 256) (hi : i + 4 ≤ L) (hB : 99 ≤ B) (hB2 : B ≤ 99 + i) (hW : WA B σ) (hC : CR σ h) (hM : MR σ h) : LJ L xs i 520 [] h := by
  refine l_a1 kL_12 (k := 0) rfl ?_
  refine l_arg kL_12 (k := 1) (d := 1) rfl rfl rfl rfl rfl rfl hL (by omega) ?_
  refine l_call kL_12 (k := 6) (t := 0) (j := 0) (as := [vi (xs (i + 1)).toInt]) (st := []) rfl lL_66 oX10_roll vX10_roll ⟨by decide, by decide⟩ rfl rfl rfl (Nat.le_of_ble_eq_true rfl) (c_roll hW hC (xs (i + 1)).toInt) (fun r g1 hp => ?_)
  obtain ⟨rfl, hC1, hF1⟩ := hp
  have hM1 := hM.fc hW hF1
  refine l_a2 kL_12 (k := 7) rfl ?_
  refine l_arg kL_12 (k := 8) (d := 1) rfl rfl rfl rfl rfl rfl hL (by omega) ?_
  refine l_call kL_12 (k := 13) (t := 40) (j := 0) (as := [vi (xs (i + 1)).toInt]) (st := [_]) rfl lL_69 oX11_roll vX11_roll ⟨by decide, by decide⟩ rfl rfl rfl (Nat.le_of_ble_eq_true rfl) (n_roll hW hM1 (xs (i + 1)).toInt) (fun r g2 hp => ?_)
  obtain ⟨rfl, hM2, hF2⟩ := hp
  refine l_eq kL_12 (k := 14) rfl ?_
  have hW1 := (w_roll hW (xs (i + 1)).toInt)
  exact K _ B _ (by omega) (by omega) hW1 (hC1.mo hW1 hF2) hM2
def tL_13 : List EN := [(543, .aload_n 1, 1, 544, 0), (544, .aload_n 0, 1, 545, 0), (545, .iload_n 3, 1, 546, 0), (546, .iconst 1, 1, 547, 0), (547, .iadd, 1, 548, 0), (548, .iaload, 1, 549, 0), (549, .aload_n 0, 1, 550, 0), (550, .iload_n 3, 1, 551, 0), (551, .iconst 2, 1, 552, 0), (552, .iadd, 1, 553, 0), (553, .iaload, 1, 554, 0), (554, .invokevirtual 70, 3, 557, 0), (557, .aload_n 2, 1, 558, 0), (558, .aload_n 0, 1, 559, 0), (559, .iload_n 3, 1, 560, 0), (560, .iconst 1, 1, 561, 0), (561, .iadd, 1, 562, 0), (562, .iaload, 1, 563, 0), (563, .aload_n 0, 1, 564, 0), (564, .iload_n 3, 1, 565, 0), (565, .iconst 2, 1, 566, 0), (566, .iadd, 1, 567, 0), (567, .iaload, 1, 568, 0), (568, .invokevirtual 73, 3, 571, 0), (571, .if_icmp .eq 459, 3, 574, 1030), (574, .iconst 0, 1, 575, 0), (575, .ireturn, 1, 576, 0)]
theorem kL_13 : okc code tL_13 = true := by decide +kernel
theorem q_join {L i B : Nat} {xs : Nat → Int32} {σ : AS} {h : HH} (K : ∀ (g : HH) (B1 : Nat) (σ1 : AS), 99 ≤ B1 → B1 ≤ B + 1 → WA B1 σ1 → CR σ1 g → MR σ1 g → LJ L xs i 1030 [] g) (hL : L ≤ 256) (hi : i + 4 ≤ L) (hB : 99 ≤ B) (hB2 : B ≤ 99 + i) (hW : WA B σ) (hC : CR σ h) (hM : MR σ h) : LJ L xs i 543 [] h := by
  refine l_a1 kL_13 (k := 0) rfl ?_
  refine l_arg kL_13 (k := 1) (d := 1) rfl rfl rfl rfl rfl rfl hL (by omega) ?_
  refine l_arg kL_13 (k := 6) (d := 2) rfl rfl rfl rfl rfl rfl hL (by omega) ?_
  refine l_call kL_13 (k := 11) (t := 0) (j := 0) (as := [vi (xs (i + 1)).toInt, vi (xs (i + 2)).toInt]) (st := []) rfl lL_70 oX10_join vX10_join ⟨by decide, by decide⟩ rfl rfl rfl (Nat.le_of_ble_eq_true rfl) (c_join hW hC (xs (i + 1)).toInt (xs (i + 2)).toInt) (fun r g1 hp => ?_)
  obtain ⟨rfl, hC1, hF1⟩ := hp
  have hM1 := hM.fc hW hF1
  refine l_a2 kL_13 (k := 12) rfl ?_
  refine l_arg kL_13 (k := 13) (d := 1) rfl rfl rfl rfl rfl rfl hL (by omega) ?_
  refine l_arg kL_13 (k := 18) (d := 2) rfl rfl rfl rfl rfl rfl hL (by omega) ?_
  refine l_call kL_13 (k := 23) (t := 40) (j := 0) (as := [vi (xs (i + 1)).toInt, vi (xs (i + 2)).toInt]) (st := [_]) rfl lL_73 oX11_join vX11_join ⟨by decide, by decide⟩ rfl rfl rfl (Nat.le_of_ble_eq_true rfl) (n_join hW hM1 (xs (i + 1)).toInt (xs (i + 2)).toInt) (fun r g2 hp => ?_)
  obtain ⟨rfl, hM2, hF2⟩ := hp
  refine l_eq kL_13 (k := 24) rfl ?_
  have hW1 := (w_join hW (xs (i + 1)).toInt (xs (i + 2)).toInt)
  exact K _ B _ (by omega) (by omega) hW1 (hC1.mo hW1 hF2) hM2
def tL_14 : List EN := [(576, .aload_n 1, 1, 577, 0), (577, .aload_n 0, 1, 578, 0), (578, .iload_n 3, 1, 579, 0), (579, .iconst 1, 1, 580, 0), (580, .iadd, 1, 581, 0), (581, .iaload, 1, 582, 0), (582, .aload_n 0, 1, 583, 0), (583, .iload_n 3, 1, 584, 0), (584, .iconst 2, 1, 585, 0), (585, .iadd, 1, 586, 0), (586, .iaload, 1, 587, 0), (587, .aload_n 0, 1, 588, 0), (588, .iload_n 3, 1, 589, 0), (589, .iconst 3, 1, 590, 0), (590, .iadd, 1, 591, 0), (591, .iaload, 1, 592, 0), (592, .ifCond .eq 7, 3, 595, 599), (595, .iconst 1, 1, 596, 0), (596, .goto 4, 3, 599, 600), (599, .iconst 0, 1, 600, 0), (600, .invokevirtual 74, 3, 603, 0), (603, .aload_n 2, 1, 604, 0), (604, .aload_n 0, 1, 605, 0), (605, .iload_n 3, 1, 606, 0), (606, .iconst 1, 1, 607, 0), (607, .iadd, 1, 608, 0), (608, .iaload, 1, 609, 0), (609, .aload_n 0, 1, 610, 0), (610, .iload_n 3, 1, 611, 0), (611, .iconst 2, 1, 612, 0), (612, .iadd, 1, 613, 0), (613, .iaload, 1, 614, 0), (614, .aload_n 0, 1, 615, 0), (615, .iload_n 3, 1, 616, 0), (616, .iconst 3, 1, 617, 0), (617, .iadd, 1, 618, 0), (618, .iaload, 1, 619, 0), (619, .ifCond .eq 7, 3, 622, 626), (622, .iconst 1, 1, 623, 0), (623, .goto 4, 3, 626, 627), (626, .iconst 0, 1, 627, 0), (627, .invokevirtual 77, 3, 630, 0), (630, .if_icmp .eq 400, 3, 633, 1030), (633, .iconst 0, 1, 634, 0), (634, .ireturn, 1, 635, 0)]
theorem kL_14 : okc code tL_14 = true := by decide +kernel
theorem q_salt {L i B : Nat} {xs : Nat → Int32} {σ : AS} {h : HH} (K : ∀ (g : HH) (B1 : Nat) (σ1 : AS), 99 ≤ B1 → B1 ≤ B + 1 → WA B1 σ1 → CR σ1 g → MR σ1 g → LJ L xs i 1030 [] g) (hL : L ≤ 256) (hi : i + 4 ≤ L) (hB : 99 ≤ B) (hB2 : B ≤ 99 + i) (hW : WA B σ) (hC : CR σ h) (hM : MR σ h) : LJ L xs i 576 [] h := by
  refine l_a1 kL_14 (k := 0) rfl ?_
  refine l_arg kL_14 (k := 1) (d := 1) rfl rfl rfl rfl rfl rfl hL (by omega) ?_
  refine l_arg kL_14 (k := 6) (d := 2) rfl rfl rfl rfl rfl rfl hL (by omega) ?_
  refine l_arg kL_14 (k := 11) (d := 3) rfl rfl rfl rfl rfl rfl hL (by omega) ?_
  refine l_bool kL_14 (k := 16) rfl rfl rfl rfl ?_
  refine l_call kL_14 (k := 20) (t := 0) (j := 0) (as := [vi (xs (i + 1)).toInt, vi (xs (i + 2)).toInt, vi (b01 (decide ((xs (i + 3)).toInt ≠ 0)))]) (st := []) rfl lL_74 oX10_salt vX10_salt ⟨by decide, by decide⟩ rfl rfl rfl (Nat.le_of_ble_eq_true rfl) (c_salt hW (by omega) hC (xs (i + 1)).toInt (xs (i + 2)).toInt (decide ((xs (i + 3)).toInt ≠ 0))) (fun r g1 hp => ?_)
  obtain ⟨rfl, hC1, hF1⟩ := hp
  have hM1 := hM.fc hW hF1
  refine l_a2 kL_14 (k := 21) rfl ?_
  refine l_arg kL_14 (k := 22) (d := 1) rfl rfl rfl rfl rfl rfl hL (by omega) ?_
  refine l_arg kL_14 (k := 27) (d := 2) rfl rfl rfl rfl rfl rfl hL (by omega) ?_
  refine l_arg kL_14 (k := 32) (d := 3) rfl rfl rfl rfl rfl rfl hL (by omega) ?_
  refine l_bool kL_14 (k := 37) rfl rfl rfl rfl ?_
  refine l_call kL_14 (k := 41) (t := 40) (j := 0) (as := [vi (xs (i + 1)).toInt, vi (xs (i + 2)).toInt, vi (b01 (decide ((xs (i + 3)).toInt ≠ 0)))]) (st := [_]) rfl lL_77 oX11_salt vX11_salt ⟨by decide, by decide⟩ rfl rfl rfl (Nat.le_of_ble_eq_true rfl) (n_salt hW (by omega) hM1 (xs (i + 1)).toInt (xs (i + 2)).toInt (decide ((xs (i + 3)).toInt ≠ 0))) (fun r g2 hp => ?_)
  obtain ⟨rfl, hM2, hF2⟩ := hp
  refine l_eq kL_14 (k := 42) rfl ?_
  have hW1 := (w_salt hW (xs (i + 1)).toInt (xs (i + 2)).toInt (decide ((xs (i + 3)).toInt ≠ 0)))
  exact K _ (B + 1) _ (by omega) (by omega) hW1 (hC1.mo hW1 hF2) hM2
def tL_15 : List EN := [(635, .aload_n 1, 1, 636, 0), (636, .aload_n 0, 1, 637, 0), (637, .iload_n 3, 1, 638, 0), (638, .iconst 1, 1, 639, 0), (639, .iadd, 1, 640, 0), (640, .iaload, 1, 641, 0), (641, .invokevirtual 78, 3, 644, 0), (644, .aload_n 2, 1, 645, 0), (645, .aload_n 0, 1, 646, 0), (646, .iload_n 3, 1, 647, 0), (647, .iconst 1, 1, 648, 0), (648, .iadd, 1, 649, 0), (649, .iaload, 1, 650, 0), (650, .invokevirtual 81, 3, 653, 0), (653, .if_icmp .eq 377, 3, 656, 1030), (656, .iconst 0, 1, 657, 0), (657, .ireturn, 1, 658, 0)]
theorem kL_15 : okc code tL_15 = true := by decide +kernel
theorem q_drift {L i B : Nat} {xs : Nat → Int32} {σ : AS} {h : HH} (K : ∀ (g : HH) (B1 : Nat) (σ1 : AS), 99 ≤ B1 → B1 ≤ B + 1 → WA B1 σ1 → CR σ1 g → MR σ1 g → LJ L xs i 1030 [] g) (hL : L ≤ 256) (hi : i + 4 ≤ L) (hB : 99 ≤ B) (hB2 : B ≤ 99 + i) (hW : WA B σ) (hC : CR σ h) (hM : MR σ h) : LJ L xs i 635 [] h := by
  refine l_a1 kL_15 (k := 0) rfl ?_
  refine l_arg kL_15 (k := 1) (d := 1) rfl rfl rfl rfl rfl rfl hL (by omega) ?_
  refine l_call kL_15 (k := 6) (t := 0) (j := 0) (as := [vi (xs (i + 1)).toInt]) (st := []) rfl lL_78 oX10_drift vX10_drift ⟨by decide, by decide⟩ rfl rfl rfl (Nat.le_of_ble_eq_true rfl) (c_drift hW hC (xs (i + 1)).toInt) (fun r g1 hp => ?_)
  obtain ⟨rfl, hC1, hF1⟩ := hp
  have hM1 := hM.fc hW hF1
  refine l_a2 kL_15 (k := 7) rfl ?_
  refine l_arg kL_15 (k := 8) (d := 1) rfl rfl rfl rfl rfl rfl hL (by omega) ?_
  refine l_call kL_15 (k := 13) (t := 40) (j := 0) (as := [vi (xs (i + 1)).toInt]) (st := [_]) rfl lL_81 oX11_drift vX11_drift ⟨by decide, by decide⟩ rfl rfl rfl (Nat.le_of_ble_eq_true rfl) (n_drift hW hM1 (xs (i + 1)).toInt) (fun r g2 hp => ?_)
  obtain ⟨rfl, hM2, hF2⟩ := hp
  refine l_eq kL_15 (k := 14) rfl ?_
  have hW1 := (w_drift hW (xs (i + 1)).toInt)
  exact K _ B _ (by omega) (by omega) hW1 (hC1.mo hW1 hF2) hM2
def tL_16 : List EN := [(658, .aload_n 1, 1, 659, 0), (659, .invokevirtual 82, 3, 662, 0), (662, .aload_n 2, 1, 663, 0), (663, .invokevirtual 85, 3, 666, 0), (666, .if_icmp .eq 364, 3, 669, 1030), (669, .iconst 0, 1, 670, 0), (670, .ireturn, 1, 671, 0)]
theorem kL_16 : okc code tL_16 = true := by decide +kernel
theorem q_undo {L i B : Nat} {xs : Nat → Int32} {σ : AS} {h : HH} (K : ∀ (g : HH) (B1 : Nat) (σ1 : AS), 99 ≤ B1 → B1 ≤ B + 1 → WA B1 σ1 → CR σ1 g → MR σ1 g → LJ L xs i 1030 [] g) (hL : L ≤ 256) (hi : i + 4 ≤ L) (hB : 99 ≤ B) (hB2 : B ≤ 99 + i) (hW : WA B σ) (hC : CR σ h) (hM : MR σ h) : LJ L xs i 658 [] h := by
  refine l_a1 kL_16 (k := 0) rfl ?_
  refine l_call kL_16 (k := 1) (t := 0) (j := 0) (as := []) (st := []) rfl lL_82 oX10_undo vX10_undo ⟨by decide, by decide⟩ rfl rfl rfl (Nat.le_of_ble_eq_true rfl) (c_undo hW hC) (fun r g1 hp => ?_)
  obtain ⟨rfl, hC1, hF1⟩ := hp
  have hM1 := hM.fc hW hF1
  refine l_a2 kL_16 (k := 2) rfl ?_
  refine l_call kL_16 (k := 3) (t := 40) (j := 0) (as := []) (st := [_]) rfl lL_85 oX11_undo vX11_undo ⟨by decide, by decide⟩ rfl rfl rfl (Nat.le_of_ble_eq_true rfl) (n_undo hW hM1) (fun r g2 hp => ?_)
  obtain ⟨rfl, hM2, hF2⟩ := hp
  refine l_eq kL_16 (k := 4) rfl ?_
  have hW1 := (w_undo hW)
  exact K _ B _ (by omega) (by omega) hW1 (hC1.mo hW1 hF2) hM2
def tL_17 : List EN := [(671, .aload_n 1, 1, 672, 0), (672, .aload_n 0, 1, 673, 0), (673, .iload_n 3, 1, 674, 0), (674, .iconst 1, 1, 675, 0), (675, .iadd, 1, 676, 0), (676, .iaload, 1, 677, 0), (677, .aload_n 0, 1, 678, 0), (678, .iload_n 3, 1, 679, 0), (679, .iconst 2, 1, 680, 0), (680, .iadd, 1, 681, 0), (681, .iaload, 1, 682, 0), (682, .invokevirtual 86, 3, 685, 0), (685, .aload_n 2, 1, 686, 0), (686, .aload_n 0, 1, 687, 0), (687, .iload_n 3, 1, 688, 0), (688, .iconst 1, 1, 689, 0), (689, .iadd, 1, 690, 0), (690, .iaload, 1, 691, 0), (691, .aload_n 0, 1, 692, 0), (692, .iload_n 3, 1, 693, 0), (693, .iconst 2, 1, 694, 0), (694, .iadd, 1, 695, 0), (695, .iaload, 1, 696, 0), (696, .invokevirtual 89, 3, 699, 0), (699, .if_icmp .eq 331, 3, 702, 1030), (702, .iconst 0, 1, 703, 0), (703, .ireturn, 1, 704, 0)]
theorem kL_17 : okc code tL_17 = true := by decide +kernel
theorem q_toShake {L i B : Nat} {xs : Nat → Int32} {σ : AS} {h : HH} (K : ∀ (g : HH) (B1 : Nat) (σ1 : AS), 99 ≤ B1 → B1 ≤ B + 1 → WA B1 σ1 → CR σ1 g → MR σ1 g → LJ L xs i 1030 [] g) (hL : L ≤ 256) (hi : i + 4 ≤ L) (hB : 99 ≤ B) (hB2 : B ≤ 99 + i) (hW : WA B σ) (hC : CR σ h) (hM : MR σ h) : LJ L xs i 671 [] h := by
  refine l_a1 kL_17 (k := 0) rfl ?_
  refine l_arg kL_17 (k := 1) (d := 1) rfl rfl rfl rfl rfl rfl hL (by omega) ?_
  refine l_arg kL_17 (k := 6) (d := 2) rfl rfl rfl rfl rfl rfl hL (by omega) ?_
  refine l_call kL_17 (k := 11) (t := 0) (j := 0) (as := [vi (xs (i + 1)).toInt, vi (xs (i + 2)).toInt]) (st := []) rfl lL_86 oX10_toShake vX10_toShake ⟨by decide, by decide⟩ rfl rfl rfl (Nat.le_of_ble_eq_true rfl) (c_toShake hW hC (xs (i + 1)).toInt (xs (i + 2)).toInt) (fun r g1 hp => ?_)
  obtain ⟨rfl, hC1, hF1⟩ := hp
  have hM1 := hM.fc hW hF1
  refine l_a2 kL_17 (k := 12) rfl ?_
  refine l_arg kL_17 (k := 13) (d := 1) rfl rfl rfl rfl rfl rfl hL (by omega) ?_
  refine l_arg kL_17 (k := 18) (d := 2) rfl rfl rfl rfl rfl rfl hL (by omega) ?_
  refine l_call kL_17 (k := 23) (t := 40) (j := 0) (as := [vi (xs (i + 1)).toInt, vi (xs (i + 2)).toInt]) (st := [_]) rfl lL_89 oX11_toShake vX11_toShake ⟨by decide, by decide⟩ rfl rfl rfl (Nat.le_of_ble_eq_true rfl) (n_toShake hW hM1 (xs (i + 1)).toInt (xs (i + 2)).toInt) (fun r g2 hp => ?_)
  obtain ⟨rfl, hM2, hF2⟩ := hp
  refine l_eq kL_17 (k := 24) rfl ?_
  have hW1 := (w_toShake hW (xs (i + 1)).toInt (xs (i + 2)).toInt)
  exact K _ B _ (by omega) (by omega) hW1 (hC1.mo hW1 hF2) hM2
def tL_18 : List EN := [(704, .aload_n 1, 1, 705, 0), (705, .aload_n 0, 1, 706, 0), (706, .iload_n 3, 1, 707, 0), (707, .iconst 1, 1, 708, 0), (708, .iadd, 1, 709, 0), (709, .iaload, 1, 710, 0), (710, .aload_n 0, 1, 711, 0), (711, .iload_n 3, 1, 712, 0), (712, .iconst 2, 1, 713, 0), (713, .iadd, 1, 714, 0), (714, .iaload, 1, 715, 0), (715, .invokevirtual 90, 3, 718, 0), (718, .aload_n 2, 1, 719, 0), (719, .aload_n 0, 1, 720, 0), (720, .iload_n 3, 1, 721, 0), (721, .iconst 1, 1, 722, 0), (722, .iadd, 1, 723, 0), (723, .iaload, 1, 724, 0), (724, .aload_n 0, 1, 725, 0), (725, .iload_n 3, 1, 726, 0), (726, .iconst 2, 1, 727, 0), (727, .iadd, 1, 728, 0), (728, .iaload, 1, 729, 0), (729, .invokevirtual 93, 3, 732, 0), (732, .if_icmp .eq 298, 3, 735, 1030), (735, .iconst 0, 1, 736, 0), (736, .ireturn, 1, 737, 0)]
theorem kL_18 : okc code tL_18 = true := by decide +kernel
theorem q_within {L i B : Nat} {xs : Nat → Int32} {σ : AS} {h : HH} (K : ∀ (g : HH) (B1 : Nat) (σ1 : AS), 99 ≤ B1 → B1 ≤ B + 1 → WA B1 σ1 → CR σ1 g → MR σ1 g → LJ L xs i 1030 [] g) (hL : L ≤ 256) (hi : i + 4 ≤ L) (hB : 99 ≤ B) (hB2 : B ≤ 99 + i) (hW : WA B σ) (hC : CR σ h) (hM : MR σ h) : LJ L xs i 704 [] h := by
  refine l_a1 kL_18 (k := 0) rfl ?_
  refine l_arg kL_18 (k := 1) (d := 1) rfl rfl rfl rfl rfl rfl hL (by omega) ?_
  refine l_arg kL_18 (k := 6) (d := 2) rfl rfl rfl rfl rfl rfl hL (by omega) ?_
  refine l_call kL_18 (k := 11) (t := 0) (j := 0) (as := [vi (xs (i + 1)).toInt, vi (xs (i + 2)).toInt]) (st := []) rfl lL_90 oX10_within vX10_within ⟨by decide, by decide⟩ rfl rfl rfl (Nat.le_of_ble_eq_true rfl) (c_within hW hC (xs (i + 1)).toInt (xs (i + 2)).toInt) (fun r g1 hp => ?_)
  obtain ⟨rfl, hC1, hF1⟩ := hp
  have hM1 := hM.fc hW hF1
  refine l_a2 kL_18 (k := 12) rfl ?_
  refine l_arg kL_18 (k := 13) (d := 1) rfl rfl rfl rfl rfl rfl hL (by omega) ?_
  refine l_arg kL_18 (k := 18) (d := 2) rfl rfl rfl rfl rfl rfl hL (by omega) ?_
  refine l_call kL_18 (k := 23) (t := 40) (j := 0) (as := [vi (xs (i + 1)).toInt, vi (xs (i + 2)).toInt]) (st := [_]) rfl lL_93 oX11_within vX11_within ⟨by decide, by decide⟩ rfl rfl rfl (Nat.le_of_ble_eq_true rfl) (n_within hW hM1 (xs (i + 1)).toInt (xs (i + 2)).toInt) (fun r g2 hp => ?_)
  obtain ⟨rfl, hM2, hF2⟩ := hp
  refine l_eq kL_18 (k := 24) rfl ?_
  have hW1 := (w_within hW (xs (i + 1)).toInt (xs (i + 2)).toInt)
  exact K _ B _ (by omega) (by omega) hW1 (hC1.mo hW1 hF2) hM2
def tL_19 : List EN := [(737, .aload_n 1, 1, 738, 0), (738, .aload_n 0, 1, 739, 0), (739, .iload_n 3, 1, 740, 0), (740, .iconst 1, 1, 741, 0), (741, .iadd, 1, 742, 0), (742, .iaload, 1, 743, 0), (743, .aload_n 0, 1, 744, 0), (744, .iload_n 3, 1, 745, 0), (745, .iconst 2, 1, 746, 0), (746, .iadd, 1, 747, 0), (747, .iaload, 1, 748, 0), (748, .invokevirtual 94, 3, 751, 0), (751, .aload_n 2, 1, 752, 0), (752, .aload_n 0, 1, 753, 0), (753, .iload_n 3, 1, 754, 0), (754, .iconst 1, 1, 755, 0), (755, .iadd, 1, 756, 0), (756, .iaload, 1, 757, 0), (757, .aload_n 0, 1, 758, 0), (758, .iload_n 3, 1, 759, 0), (759, .iconst 2, 1, 760, 0), (760, .iadd, 1, 761, 0), (761, .iaload, 1, 762, 0), (762, .invokevirtual 97, 3, 765, 0), (765, .if_icmp .eq 265, 3, 768, 1030), (768, .iconst 0, 1, 769, 0), (769, .ireturn, 1, 770, 0)]
theorem kL_19 : okc code tL_19 = true := by decide +kernel
theorem q_same {L i B : Nat} {xs : Nat → Int32} {σ : AS} {h : HH} (K : ∀ (g : HH) (B1 : Nat) (σ1 : AS), 99 ≤ B1 → B1 ≤ B + 1 → WA B1 σ1 → CR σ1 g → MR σ1 g → LJ L xs i 1030 [] g) (hL : L ≤ 256) (hi : i + 4 ≤ L) (hB : 99 ≤ B) (hB2 : B ≤ 99 + i) (hW : WA B σ) (hC : CR σ h) (hM : MR σ h) : LJ L xs i 737 [] h := by
  refine l_a1 kL_19 (k := 0) rfl ?_
  refine l_arg kL_19 (k := 1) (d := 1) rfl rfl rfl rfl rfl rfl hL (by omega) ?_
  refine l_arg kL_19 (k := 6) (d := 2) rfl rfl rfl rfl rfl rfl hL (by omega) ?_
  refine l_call kL_19 (k := 11) (t := 0) (j := 0) (as := [vi (xs (i + 1)).toInt, vi (xs (i + 2)).toInt]) (st := []) rfl lL_94 oX10_same vX10_same ⟨by decide, by decide⟩ rfl rfl rfl (Nat.le_of_ble_eq_true rfl) (c_same hW hC (xs (i + 1)).toInt (xs (i + 2)).toInt) (fun r g1 hp => ?_)
  obtain ⟨rfl, hC1, hF1⟩ := hp
  have hM1 := hM.fc hW hF1
  refine l_a2 kL_19 (k := 12) rfl ?_
  refine l_arg kL_19 (k := 13) (d := 1) rfl rfl rfl rfl rfl rfl hL (by omega) ?_
  refine l_arg kL_19 (k := 18) (d := 2) rfl rfl rfl rfl rfl rfl hL (by omega) ?_
  refine l_call kL_19 (k := 23) (t := 40) (j := 0) (as := [vi (xs (i + 1)).toInt, vi (xs (i + 2)).toInt]) (st := [_]) rfl lL_97 oX11_same vX11_same ⟨by decide, by decide⟩ rfl rfl rfl (Nat.le_of_ble_eq_true rfl) (n_same hW hM1 (xs (i + 1)).toInt (xs (i + 2)).toInt) (fun r g2 hp => ?_)
  obtain ⟨rfl, hM2, hF2⟩ := hp
  refine l_eq kL_19 (k := 24) rfl ?_
  have hW1 := (w_same hW (xs (i + 1)).toInt (xs (i + 2)).toInt)
  exact K _ B _ (by omega) (by omega) hW1 (hC1.mo hW1 hF2) hM2
def tL_20 : List EN := [(770, .aload_n 1, 1, 771, 0), (771, .aload_n 0, 1, 772, 0), (772, .iload_n 3, 1, 773, 0), (773, .iconst 1, 1, 774, 0), (774, .iadd, 1, 775, 0), (775, .iaload, 1, 776, 0), (776, .aload_n 0, 1, 777, 0), (777, .iload_n 3, 1, 778, 0), (778, .iconst 2, 1, 779, 0), (779, .iadd, 1, 780, 0), (780, .iaload, 1, 781, 0), (781, .invokevirtual 98, 3, 784, 0), (784, .aload_n 2, 1, 785, 0), (785, .aload_n 0, 1, 786, 0), (786, .iload_n 3, 1, 787, 0), (787, .iconst 1, 1, 788, 0), (788, .iadd, 1, 789, 0), (789, .iaload, 1, 790, 0), (790, .aload_n 0, 1, 791, 0), (791, .iload_n 3, 1, 792, 0), (792, .iconst 2, 1, 793, 0), (793, .iadd, 1, 794, 0), (794, .iaload, 1, 795, 0), (795, .invokevirtual 101, 3, 798, 0), (798, .if_icmp .eq 232, 3, 801, 1030), (801, .iconst 0, 1, 802, 0), (802, .ireturn, 1, 803, 0)]
theorem kL_20 : okc code tL_20 = true := by decide +kernel
theorem q_tells {L i B : Nat} {xs : Nat → Int32} {σ : AS} {h : HH} (K : ∀ (g : HH) (B1 : Nat) (σ1 : AS), 99 ≤ B1 → B1 ≤ B + 1 → WA B1 σ1 → CR σ1 g → MR σ1 g → LJ L xs i 1030 [] g) (hL : L ≤ 256) (hi : i + 4 ≤ L) (hB : 99 ≤ B) (hB2 : B ≤ 99 + i) (hW : WA B σ) (hC : CR σ h) (hM : MR σ h) : LJ L xs i 770 [] h := by
  refine l_a1 kL_20 (k := 0) rfl ?_
  refine l_arg kL_20 (k := 1) (d := 1) rfl rfl rfl rfl rfl rfl hL (by omega) ?_
  refine l_arg kL_20 (k := 6) (d := 2) rfl rfl rfl rfl rfl rfl hL (by omega) ?_
  refine l_call kL_20 (k := 11) (t := 0) (j := 0) (as := [vi (xs (i + 1)).toInt, vi (xs (i + 2)).toInt]) (st := []) rfl lL_98 oX10_tells vX10_tells ⟨by decide, by decide⟩ rfl rfl rfl (Nat.le_of_ble_eq_true rfl) (c_tells hW hC (xs (i + 1)).toInt (xs (i + 2)).toInt) (fun r g1 hp => ?_)
  obtain ⟨rfl, hC1, hF1⟩ := hp
  have hM1 := hM.fc hW hF1
  refine l_a2 kL_20 (k := 12) rfl ?_
  refine l_arg kL_20 (k := 13) (d := 1) rfl rfl rfl rfl rfl rfl hL (by omega) ?_
  refine l_arg kL_20 (k := 18) (d := 2) rfl rfl rfl rfl rfl rfl hL (by omega) ?_
  refine l_call kL_20 (k := 23) (t := 40) (j := 0) (as := [vi (xs (i + 1)).toInt, vi (xs (i + 2)).toInt]) (st := [_]) rfl lL_101 oX11_tells vX11_tells ⟨by decide, by decide⟩ rfl rfl rfl (Nat.le_of_ble_eq_true rfl) (n_tells hW hM1 (xs (i + 1)).toInt (xs (i + 2)).toInt) (fun r g2 hp => ?_)
  obtain ⟨rfl, hM2, hF2⟩ := hp
  refine l_eq kL_20 (k := 24) rfl ?_
  have hW1 := (w_tells hW (xs (i + 1)).toInt (xs (i + 2)).toInt)
  exact K _ B _ (by omega) (by omega) hW1 (hC1.mo hW1 hF2) hM2
def tL_21 : List EN := [(803, .aload_n 1, 1, 804, 0), (804, .aload_n 0, 1, 805, 0), (805, .iload_n 3, 1, 806, 0), (806, .iconst 1, 1, 807, 0), (807, .iadd, 1, 808, 0), (808, .iaload, 1, 809, 0), (809, .aload_n 0, 1, 810, 0), (810, .iload_n 3, 1, 811, 0), (811, .iconst 2, 1, 812, 0), (812, .iadd, 1, 813, 0), (813, .iaload, 1, 814, 0), (814, .invokevirtual 102, 3, 817, 0), (817, .aload_n 2, 1, 818, 0), (818, .aload_n 0, 1, 819, 0), (819, .iload_n 3, 1, 820, 0), (820, .iconst 1, 1, 821, 0), (821, .iadd, 1, 822, 0), (822, .iaload, 1, 823, 0), (823, .aload_n 0, 1, 824, 0), (824, .iload_n 3, 1, 825, 0), (825, .iconst 2, 1, 826, 0), (826, .iadd, 1, 827, 0), (827, .iaload, 1, 828, 0), (828, .invokevirtual 105, 3, 831, 0), (831, .if_icmp .eq 199, 3, 834, 1030), (834, .iconst 0, 1, 835, 0), (835, .ireturn, 1, 836, 0)]
theorem kL_21 : okc code tL_21 = true := by decide +kernel
theorem q_words {L i B : Nat} {xs : Nat → Int32} {σ : AS} {h : HH} (K : ∀ (g : HH) (B1 : Nat) (σ1 : AS), 99 ≤ B1 → B1 ≤ B + 1 → WA B1 σ1 → CR σ1 g → MR σ1 g → LJ L xs i 1030 [] g) (hL : L ≤ 256) (hi : i + 4 ≤ L) (hB : 99 ≤ B) (hB2 : B ≤ 99 + i) (hW : WA B σ) (hC : CR σ h) (hM : MR σ h) : LJ L xs i 803 [] h := by
  refine l_a1 kL_21 (k := 0) rfl ?_
  refine l_arg kL_21 (k := 1) (d := 1) rfl rfl rfl rfl rfl rfl hL (by omega) ?_
  refine l_arg kL_21 (k := 6) (d := 2) rfl rfl rfl rfl rfl rfl hL (by omega) ?_
  refine l_call kL_21 (k := 11) (t := 0) (j := 0) (as := [vi (xs (i + 1)).toInt, vi (xs (i + 2)).toInt]) (st := []) rfl lL_102 oX10_words vX10_words ⟨by decide, by decide⟩ rfl rfl rfl (Nat.le_of_ble_eq_true rfl) (c_words hW hC (xs (i + 1)).toInt (xs (i + 2)).toInt) (fun r g1 hp => ?_)
  obtain ⟨rfl, hC1, hF1⟩ := hp
  have hM1 := hM.fc hW hF1
  refine l_a2 kL_21 (k := 12) rfl ?_
  refine l_arg kL_21 (k := 13) (d := 1) rfl rfl rfl rfl rfl rfl hL (by omega) ?_
  refine l_arg kL_21 (k := 18) (d := 2) rfl rfl rfl rfl rfl rfl hL (by omega) ?_
  refine l_call kL_21 (k := 23) (t := 40) (j := 0) (as := [vi (xs (i + 1)).toInt, vi (xs (i + 2)).toInt]) (st := [_]) rfl lL_105 oX11_words vX11_words ⟨by decide, by decide⟩ rfl rfl rfl (Nat.le_of_ble_eq_true rfl) (n_words hW hM1 (xs (i + 1)).toInt (xs (i + 2)).toInt) (fun r g2 hp => ?_)
  obtain ⟨rfl, hM2, hF2⟩ := hp
  refine l_eq kL_21 (k := 24) rfl ?_
  have hW1 := (w_words hW (xs (i + 1)).toInt (xs (i + 2)).toInt)
  exact K _ B _ (by omega) (by omega) hW1 (hC1.mo hW1 hF2) hM2
def tL_22 : List EN := [(836, .aload_n 1, 1, 837, 0), (837, .aload_n 0, 1, 838, 0), (838, .iload_n 3, 1, 839, 0), (839, .iconst 1, 1, 840, 0), (840, .iadd, 1, 841, 0), (841, .iaload, 1, 842, 0), (842, .aload_n 0, 1, 843, 0), (843, .iload_n 3, 1, 844, 0), (844, .iconst 2, 1, 845, 0), (845, .iadd, 1, 846, 0), (846, .iaload, 1, 847, 0), (847, .invokevirtual 106, 3, 850, 0), (850, .aload_n 2, 1, 851, 0), (851, .aload_n 0, 1, 852, 0), (852, .iload_n 3, 1, 853, 0), (853, .iconst 1, 1, 854, 0), (854, .iadd, 1, 855, 0), (855, .iaload, 1, 856, 0), (856, .aload_n 0, 1, 857, 0), (857, .iload_n 3, 1, 858, 0), (858, .iconst 2, 1, 859, 0), (859, .iadd, 1, 860, 0), (860, .iaload, 1, 861, 0), (861, .invokevirtual 109, 3, 864, 0), (864, .if_icmp .eq 166, 3, 867, 1030), (867, .iconst 0, 1, 868, 0), (868, .ireturn, 1, 869, 0)]
theorem kL_22 : okc code tL_22 = true := by decide +kernel
theorem q_colour {L i B : Nat} {xs : Nat → Int32} {σ : AS} {h : HH} (K : ∀ (g : HH) (B1 : Nat) (σ1 : AS), 99 ≤ B1 → B1 ≤ B + 1 → WA B1 σ1 → CR σ1 g → MR σ1 g → LJ L xs i 1030 [] g) (hL : L ≤ 256) (hi : i + 4 ≤ L) (hB : 99 ≤ B) (hB2 : B ≤ 99 + i) (hW : WA B σ) (hC : CR σ h) (hM : MR σ h) : LJ L xs i 836 [] h := by
  refine l_a1 kL_22 (k := 0) rfl ?_
  refine l_arg kL_22 (k := 1) (d := 1) rfl rfl rfl rfl rfl rfl hL (by omega) ?_
  refine l_arg kL_22 (k := 6) (d := 2) rfl rfl rfl rfl rfl rfl hL (by omega) ?_
  refine l_call kL_22 (k := 11) (t := 0) (j := 0) (as := [vi (xs (i + 1)).toInt, vi (xs (i + 2)).toInt]) (st := []) rfl lL_106 oX10_colour vX10_colour ⟨by decide, by decide⟩ rfl rfl rfl (Nat.le_of_ble_eq_true rfl) (c_colour hW hC (xs (i + 1)).toInt (xs (i + 2)).toInt) (fun r g1 hp => ?_)
  obtain ⟨rfl, hC1, hF1⟩ := hp
  have hM1 := hM.fc hW hF1
  refine l_a2 kL_22 (k := 12) rfl ?_
  refine l_arg kL_22 (k := 13) (d := 1) rfl rfl rfl rfl rfl rfl hL (by omega) ?_
  refine l_arg kL_22 (k := 18) (d := 2) rfl rfl rfl rfl rfl rfl hL (by omega) ?_
  refine l_call kL_22 (k := 23) (t := 40) (j := 0) (as := [vi (xs (i + 1)).toInt, vi (xs (i + 2)).toInt]) (st := [_]) rfl lL_109 oX11_colour vX11_colour ⟨by decide, by decide⟩ rfl rfl rfl (Nat.le_of_ble_eq_true rfl) (n_colour hW hM1 (xs (i + 1)).toInt (xs (i + 2)).toInt) (fun r g2 hp => ?_)
  obtain ⟨rfl, hM2, hF2⟩ := hp
  refine l_eq kL_22 (k := 24) rfl ?_
  have hW1 := (w_colour hW (xs (i + 1)).toInt (xs (i + 2)).toInt)
  exact K _ B _ (by omega) (by omega) hW1 (hC1.mo hW1 hF2) hM2
def tL_23 : List EN := [(869, .aload_n 1, 1, 870, 0), (870, .aload_n 0, 1, 871, 0), (871, .iload_n 3, 1, 872, 0), (872, .iconst 1, 1, 873, 0), (873, .iadd, 1, 874, 0), (874, .iaload, 1, 875, 0), (875, .aload_n 0, 1, 876, 0), (876, .iload_n 3, 1, 877, 0), (877, .iconst 2, 1, 878, 0), (878, .iadd, 1, 879, 0), (879, .iaload, 1, 880, 0), (880, .invokevirtual 110, 3, 883, 0), (883, .aload_n 2, 1, 884, 0), (884, .aload_n 0, 1, 885, 0), (885, .iload_n 3, 1, 886, 0), (886, .iconst 1, 1, 887, 0), (887, .iadd, 1, 888, 0), (888, .iaload, 1, 889, 0), (889, .aload_n 0, 1, 890, 0), (890, .iload_n 3, 1, 891, 0), (891, .iconst 2, 1, 892, 0), (892, .iadd, 1, 893, 0), (893, .iaload, 1, 894, 0), (894, .invokevirtual 113, 3, 897, 0), (897, .if_icmp .eq 133, 3, 900, 1030), (900, .iconst 0, 1, 901, 0), (901, .ireturn, 1, 902, 0)]
theorem kL_23 : okc code tL_23 = true := by decide +kernel
theorem q_whole {L i B : Nat} {xs : Nat → Int32} {σ : AS} {h : HH} (K : ∀ (g : HH) (B1 : Nat) (σ1 : AS), 99 ≤ B1 → B1 ≤ B + 1 → WA B1 σ1 → CR σ1 g → MR σ1 g → LJ L xs i 1030 [] g) (hL : L ≤ 256) (hi : i + 4 ≤ L) (hB : 99 ≤ B) (hB2 : B ≤ 99 + i) (hW : WA B σ) (hC : CR σ h) (hM : MR σ h) : LJ L xs i 869 [] h := by
  refine l_a1 kL_23 (k := 0) rfl ?_
  refine l_arg kL_23 (k := 1) (d := 1) rfl rfl rfl rfl rfl rfl hL (by omega) ?_
  refine l_arg kL_23 (k := 6) (d := 2) rfl rfl rfl rfl rfl rfl hL (by omega) ?_
  refine l_call kL_23 (k := 11) (t := 0) (j := 0) (as := [vi (xs (i + 1)).toInt, vi (xs (i + 2)).toInt]) (st := []) rfl lL_110 oX10_whole vX10_whole ⟨by decide, by decide⟩ rfl rfl rfl (Nat.le_of_ble_eq_true rfl) (c_whole hC (xs (i + 1)).toInt (xs (i + 2)).toInt) (fun r g1 hp => ?_)
  obtain ⟨rfl, hC1, hF1⟩ := hp
  have hM1 := hM.fc hW hF1
  refine l_a2 kL_23 (k := 12) rfl ?_
  refine l_arg kL_23 (k := 13) (d := 1) rfl rfl rfl rfl rfl rfl hL (by omega) ?_
  refine l_arg kL_23 (k := 18) (d := 2) rfl rfl rfl rfl rfl rfl hL (by omega) ?_
  refine l_call kL_23 (k := 23) (t := 40) (j := 0) (as := [vi (xs (i + 1)).toInt, vi (xs (i + 2)).toInt]) (st := [_]) rfl lL_113 oX11_whole vX11_whole ⟨by decide, by decide⟩ rfl rfl rfl (Nat.le_of_ble_eq_true rfl) (n_whole hM1 (xs (i + 1)).toInt (xs (i + 2)).toInt) (fun r g2 hp => ?_)
  obtain ⟨rfl, hM2, hF2⟩ := hp
  refine l_eq kL_23 (k := 24) rfl ?_
  have hW1 := (w_whole hW (xs (i + 1)).toInt (xs (i + 2)).toInt)
  exact K _ B _ (by omega) (by omega) hW1 (hC1.mo hW1 hF2) hM2
def tL_24 : List EN := [(902, .aload_n 1, 1, 903, 0), (903, .aload_n 0, 1, 904, 0), (904, .iload_n 3, 1, 905, 0), (905, .iconst 1, 1, 906, 0), (906, .iadd, 1, 907, 0), (907, .iaload, 1, 908, 0), (908, .aload_n 0, 1, 909, 0), (909, .iload_n 3, 1, 910, 0), (910, .iconst 2, 1, 911, 0), (911, .iadd, 1, 912, 0), (912, .iaload, 1, 913, 0), (913, .invokevirtual 114, 3, 916, 0), (916, .aload_n 2, 1, 917, 0), (917, .aload_n 0, 1, 918, 0), (918, .iload_n 3, 1, 919, 0), (919, .iconst 1, 1, 920, 0), (920, .iadd, 1, 921, 0), (921, .iaload, 1, 922, 0), (922, .aload_n 0, 1, 923, 0), (923, .iload_n 3, 1, 924, 0), (924, .iconst 2, 1, 925, 0), (925, .iadd, 1, 926, 0), (926, .iaload, 1, 927, 0), (927, .invokevirtual 117, 3, 930, 0), (930, .if_icmp .eq 100, 3, 933, 1030), (933, .iconst 0, 1, 934, 0), (934, .ireturn, 1, 935, 0)]
theorem kL_24 : okc code tL_24 = true := by decide +kernel
theorem q_write {L i B : Nat} {xs : Nat → Int32} {σ : AS} {h : HH} (K : ∀ (g : HH) (B1 : Nat) (σ1 : AS), 99 ≤ B1 → B1 ≤ B + 1 → WA B1 σ1 → CR σ1 g → MR σ1 g → LJ L xs i 1030 [] g) (hL : L ≤ 256) (hi : i + 4 ≤ L) (hB : 99 ≤ B) (hB2 : B ≤ 99 + i) (hW : WA B σ) (hC : CR σ h) (hM : MR σ h) : LJ L xs i 902 [] h := by
  refine l_a1 kL_24 (k := 0) rfl ?_
  refine l_arg kL_24 (k := 1) (d := 1) rfl rfl rfl rfl rfl rfl hL (by omega) ?_
  refine l_arg kL_24 (k := 6) (d := 2) rfl rfl rfl rfl rfl rfl hL (by omega) ?_
  refine l_call kL_24 (k := 11) (t := 0) (j := 0) (as := [vi (xs (i + 1)).toInt, vi (xs (i + 2)).toInt]) (st := []) rfl lL_114 oX10_write vX10_write ⟨by decide, by decide⟩ rfl rfl rfl (Nat.le_of_ble_eq_true rfl) (c_write hW hC (xs (i + 1)).toInt (xs (i + 2)).toInt) (fun r g1 hp => ?_)
  obtain ⟨rfl, hC1, hF1⟩ := hp
  have hM1 := hM.fc hW hF1
  refine l_a2 kL_24 (k := 12) rfl ?_
  refine l_arg kL_24 (k := 13) (d := 1) rfl rfl rfl rfl rfl rfl hL (by omega) ?_
  refine l_arg kL_24 (k := 18) (d := 2) rfl rfl rfl rfl rfl rfl hL (by omega) ?_
  refine l_call kL_24 (k := 23) (t := 40) (j := 0) (as := [vi (xs (i + 1)).toInt, vi (xs (i + 2)).toInt]) (st := [_]) rfl lL_117 oX11_write vX11_write ⟨by decide, by decide⟩ rfl rfl rfl (Nat.le_of_ble_eq_true rfl) (n_write hW hM1 (xs (i + 1)).toInt (xs (i + 2)).toInt) (fun r g2 hp => ?_)
  obtain ⟨rfl, hM2, hF2⟩ := hp
  refine l_eq kL_24 (k := 24) rfl ?_
  have hW1 := (w_write hW (xs (i + 1)).toInt (xs (i + 2)).toInt)
  exact K _ B _ (by omega) (by omega) hW1 (hC1.mo hW1 hF2) hM2
def tL_25 : List EN := [(935, .aload_n 1, 1, 936, 0), (936, .invokevirtual 118, 3, 939, 0), (939, .aload_n 2, 1, 940, 0), (940, .invokevirtual 121, 3, 943, 0), (943, .if_icmp .eq 87, 3, 946, 1030), (946, .iconst 0, 1, 947, 0), (947, .ireturn, 1, 948, 0)]
theorem kL_25 : okc code tL_25 = true := by decide +kernel
theorem q_tear {L i B : Nat} {xs : Nat → Int32} {σ : AS} {h : HH} (K : ∀ (g : HH) (B1 : Nat) (σ1 : AS), 99 ≤ B1 → B1 ≤ B + 1 → WA B1 σ1 → CR σ1 g → MR σ1 g → LJ L xs i 1030 [] g) (hL : L ≤ 256) (hi : i + 4 ≤ L) (hB : 99 ≤ B) (hB2 : B ≤ 99 + i) (hW : WA B σ) (hC : CR σ h) (hM : MR σ h) : LJ L xs i 935 [] h := by
  refine l_a1 kL_25 (k := 0) rfl ?_
  refine l_call kL_25 (k := 1) (t := 0) (j := 0) (as := []) (st := []) rfl lL_118 oX10_tear vX10_tear ⟨by decide, by decide⟩ rfl rfl rfl (Nat.le_of_ble_eq_true rfl) (c_tear hW hC) (fun r g1 hp => ?_)
  obtain ⟨rfl, hC1, hF1⟩ := hp
  have hM1 := hM.fc hW hF1
  refine l_a2 kL_25 (k := 2) rfl ?_
  refine l_call kL_25 (k := 3) (t := 40) (j := 0) (as := []) (st := [_]) rfl lL_121 oX11_tear vX11_tear ⟨by decide, by decide⟩ rfl rfl rfl (Nat.le_of_ble_eq_true rfl) (n_tear hW hM1) (fun r g2 hp => ?_)
  obtain ⟨rfl, hM2, hF2⟩ := hp
  refine l_eq kL_25 (k := 4) rfl ?_
  have hW1 := (w_tear hW)
  exact K _ B _ (by omega) (by omega) hW1 (hC1.mo hW1 hF2) hM2
def tL_26 : List EN := [(948, .aload_n 1, 1, 949, 0), (949, .invokevirtual 122, 3, 952, 0), (952, .aload_n 2, 1, 953, 0), (953, .invokevirtual 125, 3, 956, 0), (956, .if_icmp .eq 74, 3, 959, 1030), (959, .iconst 0, 1, 960, 0), (960, .ireturn, 1, 961, 0)]
theorem kL_26 : okc code tL_26 = true := by decide +kernel
theorem q_judge {L i B : Nat} {xs : Nat → Int32} {σ : AS} {h : HH} (K : ∀ (g : HH) (B1 : Nat) (σ1 : AS), 99 ≤ B1 → B1 ≤ B + 1 → WA B1 σ1 → CR σ1 g → MR σ1 g → LJ L xs i 1030 [] g) (hL : L ≤ 256) (hi : i + 4 ≤ L) (hB : 99 ≤ B) (hB2 : B ≤ 99 + i) (hW : WA B σ) (hC : CR σ h) (hM : MR σ h) : LJ L xs i 948 [] h := by
  refine l_a1 kL_26 (k := 0) rfl ?_
  refine l_call kL_26 (k := 1) (t := 0) (j := 0) (as := []) (st := []) rfl lL_122 oX10_judge vX10_judge ⟨by decide, by decide⟩ rfl rfl rfl (Nat.le_of_ble_eq_true rfl) (c_judge hW hC) (fun r g1 hp => ?_)
  obtain ⟨rfl, hC1, hF1⟩ := hp
  have hM1 := hM.fc hW hF1
  refine l_a2 kL_26 (k := 2) rfl ?_
  refine l_call kL_26 (k := 3) (t := 40) (j := 0) (as := []) (st := [_]) rfl lL_125 oX11_judge vX11_judge ⟨by decide, by decide⟩ rfl rfl rfl (Nat.le_of_ble_eq_true rfl) (n_judge hW hM1) (fun r g2 hp => ?_)
  obtain ⟨rfl, hM2, hF2⟩ := hp
  refine l_eq kL_26 (k := 4) rfl ?_
  have hW1 := hW
  exact K _ B _ (by omega) (by omega) hW1 (hC1.mo hW1 hF2) hM2
def tL_27 : List EN := [(961, .aload_n 1, 1, 962, 0), (962, .aload_n 0, 1, 963, 0), (963, .iload_n 3, 1, 964, 0), (964, .iconst 1, 1, 965, 0), (965, .iadd, 1, 966, 0), (966, .iaload, 1, 967, 0), (967, .invokevirtual 126, 3, 970, 0), (970, .aload_n 2, 1, 971, 0), (971, .aload_n 0, 1, 972, 0), (972, .iload_n 3, 1, 973, 0), (973, .iconst 1, 1, 974, 0), (974, .iadd, 1, 975, 0), (975, .iaload, 1, 976, 0), (976, .invokevirtual 129, 3, 979, 0), (979, .if_icmp .eq 51, 3, 982, 1030), (982, .iconst 0, 1, 983, 0), (983, .ireturn, 1, 984, 0)]
theorem kL_27 : okc code tL_27 = true := by decide +kernel
theorem q_seed {L i B : Nat} {xs : Nat → Int32} {σ : AS} {h : HH} (K : ∀ (g : HH) (B1 : Nat) (σ1 : AS), 99 ≤ B1 → B1 ≤ B + 1 → WA B1 σ1 → CR σ1 g → MR σ1 g → LJ L xs i 1030 [] g) (hL : L ≤ 256) (hi : i + 4 ≤ L) (hB : 99 ≤ B) (hB2 : B ≤ 99 + i) (hW : WA B σ) (hC : CR σ h) (hM : MR σ h) : LJ L xs i 961 [] h := by
  refine l_a1 kL_27 (k := 0) rfl ?_
  refine l_arg kL_27 (k := 1) (d := 1) rfl rfl rfl rfl rfl rfl hL (by omega) ?_
  refine l_call kL_27 (k := 6) (t := 0) (j := 0) (as := [vi (xs (i + 1)).toInt]) (st := []) rfl lL_126 oX10_seed vX10_seed ⟨by decide, by decide⟩ rfl rfl rfl (Nat.le_of_ble_eq_true rfl) (c_seed hW hC (xs (i + 1)).toInt) (fun r g1 hp => ?_)
  obtain ⟨rfl, hC1, hF1⟩ := hp
  have hM1 := hM.fc hW hF1
  refine l_a2 kL_27 (k := 7) rfl ?_
  refine l_arg kL_27 (k := 8) (d := 1) rfl rfl rfl rfl rfl rfl hL (by omega) ?_
  refine l_call kL_27 (k := 13) (t := 40) (j := 0) (as := [vi (xs (i + 1)).toInt]) (st := [_]) rfl lL_129 oX11_seed vX11_seed ⟨by decide, by decide⟩ rfl rfl rfl (Nat.le_of_ble_eq_true rfl) (n_seed hW hM1 (xs (i + 1)).toInt) (fun r g2 hp => ?_)
  obtain ⟨rfl, hM2, hF2⟩ := hp
  refine l_eq kL_27 (k := 14) rfl ?_
  have hW1 := (w_seed hW (v := (xs (i + 1)).toInt) (i3_of _).2)
  exact K _ B _ (by omega) (by omega) hW1 (hC1.mo hW1 hF2) hM2
def tL_28 : List EN := [(984, .aload_n 1, 1, 985, 0), (985, .aload_n 0, 1, 986, 0), (986, .iload_n 3, 1, 987, 0), (987, .iconst 1, 1, 988, 0), (988, .iadd, 1, 989, 0), (989, .iaload, 1, 990, 0), (990, .invokevirtual 130, 3, 993, 0), (993, .aload_n 2, 1, 994, 0), (994, .aload_n 0, 1, 995, 0), (995, .iload_n 3, 1, 996, 0), (996, .iconst 1, 1, 997, 0), (997, .iadd, 1, 998, 0), (998, .iaload, 1, 999, 0), (999, .invokevirtual 133, 3, 1002, 0), (1002, .if_icmp .eq 28, 3, 1005, 1030), (1005, .iconst 0, 1, 1006, 0), (1006, .ireturn, 1, 1007, 0)]
theorem kL_28 : okc code tL_28 = true := by decide +kernel
theorem q_keep {L i B : Nat} {xs : Nat → Int32} {σ : AS} {h : HH} (K : ∀ (g : HH) (B1 : Nat) (σ1 : AS), 99 ≤ B1 → B1 ≤ B + 1 → WA B1 σ1 → CR σ1 g → MR σ1 g → LJ L xs i 1030 [] g) (hL : L ≤ 256) (hi : i + 4 ≤ L) (hB : 99 ≤ B) (hB2 : B ≤ 99 + i) (hW : WA B σ) (hC : CR σ h) (hM : MR σ h) : LJ L xs i 984 [] h := by
  refine l_a1 kL_28 (k := 0) rfl ?_
  refine l_arg kL_28 (k := 1) (d := 1) rfl rfl rfl rfl rfl rfl hL (by omega) ?_
  refine l_call kL_28 (k := 6) (t := 0) (j := 0) (as := [vi (xs (i + 1)).toInt]) (st := []) rfl lL_130 oX10_keep vX10_keep ⟨by decide, by decide⟩ rfl rfl rfl (Nat.le_of_ble_eq_true rfl) (c_keep hW hC (xs (i + 1)).toInt) (fun r g1 hp => ?_)
  obtain ⟨rfl, hC1, hF1⟩ := hp
  have hM1 := hM.fc hW hF1
  refine l_a2 kL_28 (k := 7) rfl ?_
  refine l_arg kL_28 (k := 8) (d := 1) rfl rfl rfl rfl rfl rfl hL (by omega) ?_
  refine l_call kL_28 (k := 13) (t := 40) (j := 0) (as := [vi (xs (i + 1)).toInt]) (st := [_]) rfl lL_133 oX11_keep vX11_keep ⟨by decide, by decide⟩ rfl rfl rfl (Nat.le_of_ble_eq_true rfl) (n_keep hW hM1 (xs (i + 1)).toInt) (fun r g2 hp => ?_)
  obtain ⟨rfl, hM2, hF2⟩ := hp
  refine l_eq kL_28 (k := 14) rfl ?_
  have hW1 := (w_keep hW (xs (i + 1)).toInt)
  exact K _ B _ (by omega) (by omega) hW1 (hC1.mo hW1 hF2) hM2
def tL_29 : List EN := [(1007, .aload_n 1, 1, 1008, 0), (1008, .aload_n 0, 1, 1009, 0), (1009, .iload_n 3, 1, 1010, 0), (1010, .iconst 1, 1, 1011, 0), (1011, .iadd, 1, 1012, 0), (1012, .iaload, 1, 1013, 0), (1013, .invokevirtual 134, 3, 1016, 0), (1016, .aload_n 2, 1, 1017, 0), (1017, .aload_n 0, 1, 1018, 0), (1018, .iload_n 3, 1, 1019, 0), (1019, .iconst 1, 1, 1020, 0), (1020, .iadd, 1, 1021, 0), (1021, .iaload, 1, 1022, 0), (1022, .invokevirtual 137, 3, 1025, 0), (1025, .if_icmp .eq 5, 3, 1028, 1030), (1028, .iconst 0, 1, 1029, 0), (1029, .ireturn, 1, 1030, 0)]
theorem kL_29 : okc code tL_29 = true := by decide +kernel
theorem q_goBack {L i B : Nat} {xs : Nat → Int32} {σ : AS} {h : HH} (K : ∀ (g : HH) (B1 : Nat) (σ1 : AS), 99 ≤ B1 → B1 ≤ B + 1 → WA B1 σ1 → CR σ1 g → MR σ1 g → LJ L xs i 1030 [] g) (hL : L ≤ 256) (hi : i + 4 ≤ L) (hB : 99 ≤ B) (hB2 : B ≤ 99 + i) (hW : WA B σ) (hC : CR σ h) (hM : MR σ h) : LJ L xs i 1007 [] h := by
  refine l_a1 kL_29 (k := 0) rfl ?_
  refine l_arg kL_29 (k := 1) (d := 1) rfl rfl rfl rfl rfl rfl hL (by omega) ?_
  refine l_call kL_29 (k := 6) (t := 0) (j := 0) (as := [vi (xs (i + 1)).toInt]) (st := []) rfl lL_134 oX10_goBack vX10_goBack ⟨by decide, by decide⟩ rfl rfl rfl (Nat.le_of_ble_eq_true rfl) (c_goBack hW hC (xs (i + 1)).toInt) (fun r g1 hp => ?_)
  obtain ⟨rfl, hC1, hF1⟩ := hp
  have hM1 := hM.fc hW hF1
  refine l_a2 kL_29 (k := 7) rfl ?_
  refine l_arg kL_29 (k := 8) (d := 1) rfl rfl rfl rfl rfl rfl hL (by omega) ?_
  refine l_call kL_29 (k := 13) (t := 40) (j := 0) (as := [vi (xs (i + 1)).toInt]) (st := [_]) rfl lL_137 oX11_goBack vX11_goBack ⟨by decide, by decide⟩ rfl rfl rfl (Nat.le_of_ble_eq_true rfl) (n_goBack hW hM1 (xs (i + 1)).toInt) (fun r g2 hp => ?_)
  obtain ⟨rfl, hM2, hF2⟩ := hp
  refine l_eq kL_29 (k := 14) rfl ?_
  have hW1 := (w_goBack hW (xs (i + 1)).toInt)
  exact K _ B _ (by omega) (by omega) hW1 (hC1.mo hW1 hF2) hM2
