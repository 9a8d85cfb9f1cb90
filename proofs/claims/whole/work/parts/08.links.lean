theorem ti_0 {w : Cond} (h : w ∈ tables_1) : w ∈ lw_tbl := List.mem_append_right _ h
theorem ti_1 {w : Cond} (h : w ∈ tables_1_1) : w ∈ lw_tbl := ti_0 (List.mem_append_left _ h)
theorem ti_2 {w : Cond} (h : w ∈ tables_1_2) : w ∈ lw_tbl := ti_0 (List.mem_append_right _ (List.mem_append_left _ h))
theorem ti_3 {w : Cond} (h : w ∈ tables_1_3) : w ∈ lw_tbl := ti_0 (List.mem_append_right _ (List.mem_append_right _ (List.mem_append_left _ h)))
theorem ti_4 {w : Cond} (h : w ∈ tables_1_4) : w ∈ lw_tbl := ti_0 (List.mem_append_right _ (List.mem_append_right _ (List.mem_append_right _ (List.mem_append_left _ h))))
theorem ti_5 {w : Cond} (h : w ∈ tables_1_5) : w ∈ lw_tbl := ti_0 (List.mem_append_right _ (List.mem_append_right _ (List.mem_append_right _ (List.mem_append_right _ (List.mem_append_left _ h)))))
theorem ti_6 {w : Cond} (h : w ∈ tables_1_6) : w ∈ lw_tbl := ti_0 (List.mem_append_right _ (List.mem_append_right _ (List.mem_append_right _ (List.mem_append_right _ (List.mem_append_right _ (h))))))
theorem sel_in {y : MethodName} {n : Nat} (h : (y, n) ∈ lw_privs) : Cond.selects y.cls y y ∈ lw_tbl := List.mem_append_left _ (List.mem_map.mpr ⟨(y, n), h, rfl⟩)
theorem fRX0_9 : fl RX0 9 0 0 := ⟨_, rfl, by decide, gd_in (ti_1 (List.mem_of_getElem? (i := 171) rfl)) rfl⟩
theorem fRX0_15 : fl RX0 15 0 1 := ⟨_, rfl, by decide, gd_in (ti_1 (List.mem_of_getElem? (i := 172) rfl)) rfl⟩
theorem fRX0_18 : fl RX0 18 0 2 := ⟨_, rfl, by decide, gd_in (ti_1 (List.mem_of_getElem? (i := 173) rfl)) rfl⟩
theorem fRX0_28 : fl RX0 28 6 2 := ⟨_, rfl, by decide, gd_in (ti_1 (List.mem_of_getElem? (i := 66) rfl)) rfl⟩
theorem fRX1_11 : fl RX1 11 1 0 := ⟨_, rfl, by decide, gd_in (ti_2 (List.mem_of_getElem? (i := 6) rfl)) rfl⟩
theorem fRX1_16 : fl RX1 16 1 1 := ⟨_, rfl, by decide, gd_in (ti_2 (List.mem_of_getElem? (i := 7) rfl)) rfl⟩
theorem fRX1_20 : fl RX1 20 1 2 := ⟨_, rfl, by decide, gd_in (ti_2 (List.mem_of_getElem? (i := 8) rfl)) rfl⟩
theorem fRX1_23 : fl RX1 23 1 3 := ⟨_, rfl, by decide, gd_in (ti_2 (List.mem_of_getElem? (i := 9) rfl)) rfl⟩
theorem fRX1_30 : fl RX1 30 1 5 := ⟨_, rfl, by decide, gd_in (ti_2 (List.mem_of_getElem? (i := 11) rfl)) rfl⟩
theorem fRX1_34 : fl RX1 34 1 4 := ⟨_, rfl, by decide, gd_in (ti_2 (List.mem_of_getElem? (i := 10) rfl)) rfl⟩
theorem fRX1_48 : fl RX1 48 6 2 := ⟨_, rfl, by decide, gd_in (ti_1 (List.mem_of_getElem? (i := 68) rfl)) rfl⟩
theorem fRX1_77 : fl RX1 77 6 1 := ⟨_, rfl, by decide, gd_in (ti_1 (List.mem_of_getElem? (i := 61) rfl)) rfl⟩
theorem fRX10_20 : fl RX10 20 10 0 := ⟨_, rfl, by decide, gd_in (ti_2 (List.mem_of_getElem? (i := 41) rfl)) rfl⟩
theorem fRX10_26 : fl RX10 26 10 1 := ⟨_, rfl, by decide, gd_in (ti_2 (List.mem_of_getElem? (i := 42) rfl)) rfl⟩
theorem fRX10_33 : fl RX10 33 10 2 := ⟨_, rfl, by decide, gd_in (ti_2 (List.mem_of_getElem? (i := 43) rfl)) rfl⟩
theorem fRX10_37 : fl RX10 37 10 3 := ⟨_, rfl, by decide, gd_in (ti_2 (List.mem_of_getElem? (i := 44) rfl)) rfl⟩
theorem fRX10_41 : fl RX10 41 10 4 := ⟨_, rfl, by decide, gd_in (ti_2 (List.mem_of_getElem? (i := 45) rfl)) rfl⟩
theorem fRX10_48 : fl RX10 48 10 5 := ⟨_, rfl, by decide, gd_in (ti_2 (List.mem_of_getElem? (i := 46) rfl)) rfl⟩
theorem fRX10_55 : fl RX10 55 10 6 := ⟨_, rfl, by decide, gd_in (ti_2 (List.mem_of_getElem? (i := 47) rfl)) rfl⟩
theorem fRX10_62 : fl RX10 62 10 7 := ⟨_, rfl, by decide, gd_in (ti_2 (List.mem_of_getElem? (i := 48) rfl)) rfl⟩
theorem fRX10_69 : fl RX10 69 10 8 := ⟨_, rfl, by decide, gd_in (ti_2 (List.mem_of_getElem? (i := 49) rfl)) rfl⟩
theorem fRX10_76 : fl RX10 76 10 9 := ⟨_, rfl, by decide, gd_in (ti_2 (List.mem_of_getElem? (i := 50) rfl)) rfl⟩
theorem fRX10_80 : fl RX10 80 10 12 := ⟨_, rfl, by decide, gd_in (ti_2 (List.mem_of_getElem? (i := 53) rfl)) rfl⟩
theorem fRX10_89 : fl RX10 89 5 4 := ⟨_, rfl, by decide, gd_in (ti_1 (List.mem_of_getElem? (i := 110) rfl)) rfl⟩
theorem fRX10_97 : fl RX10 97 5 10 := ⟨_, rfl, by decide, gd_in (ti_1 (List.mem_of_getElem? (i := 117) rfl)) rfl⟩
theorem fRX10_98 : fl RX10 98 5 1 := ⟨_, rfl, by decide, gd_in (ti_1 (List.mem_of_getElem? (i := 106) rfl)) rfl⟩
theorem fRX10_104 : fl RX10 104 5 11 := ⟨_, rfl, by decide, gd_in (ti_1 (List.mem_of_getElem? (i := 118) rfl)) rfl⟩
theorem fRX10_108 : fl RX10 108 10 10 := ⟨_, rfl, by decide, gd_in (ti_2 (List.mem_of_getElem? (i := 51) rfl)) rfl⟩
theorem fRX10_111 : fl RX10 111 0 2 := ⟨_, rfl, by decide, gd_in (ti_1 (List.mem_of_getElem? (i := 174) rfl)) rfl⟩
theorem fRX10_114 : fl RX10 114 10 11 := ⟨_, rfl, by decide, gd_in (ti_2 (List.mem_of_getElem? (i := 52) rfl)) rfl⟩
theorem fRX10_120 : fl RX10 120 9 1 := ⟨_, rfl, by decide, gd_in (ti_1 (List.mem_of_getElem? (i := 87) rfl)) rfl⟩
theorem fRX10_123 : fl RX10 123 9 2 := ⟨_, rfl, by decide, gd_in (ti_1 (List.mem_of_getElem? (i := 90) rfl)) rfl⟩
theorem fRX10_138 : fl RX10 138 2 2 := ⟨_, rfl, by decide, gd_in (ti_1 (List.mem_of_getElem? (i := 157) rfl)) rfl⟩
theorem fRX10_146 : fl RX10 146 6 2 := ⟨_, rfl, by decide, gd_in (ti_1 (List.mem_of_getElem? (i := 69) rfl)) rfl⟩
theorem fRX10_151 : fl RX10 151 6 3 := ⟨_, rfl, by decide, gd_in (ti_1 (List.mem_of_getElem? (i := 74) rfl)) rfl⟩
theorem fRX10_176 : fl RX10 176 3 5 := ⟨_, rfl, by decide, gd_in (ti_1 (List.mem_of_getElem? (i := 195) rfl)) rfl⟩
theorem fRX10_243 : fl RX10 243 8 3 := ⟨_, rfl, by decide, gd_in (ti_1 (List.mem_of_getElem? (i := 220) rfl)) rfl⟩
theorem fRX10_246 : fl RX10 246 8 4 := ⟨_, rfl, by decide, gd_in (ti_1 (List.mem_of_getElem? (i := 222) rfl)) rfl⟩
theorem fRX10_249 : fl RX10 249 8 2 := ⟨_, rfl, by decide, gd_in (ti_1 (List.mem_of_getElem? (i := 218) rfl)) rfl⟩
theorem fRX10_252 : fl RX10 252 8 5 := ⟨_, rfl, by decide, gd_in (ti_1 (List.mem_of_getElem? (i := 224) rfl)) rfl⟩
theorem fRX10_282 : fl RX10 282 10 13 := ⟨_, rfl, by decide, gd_in (ti_2 (List.mem_of_getElem? (i := 54) rfl)) rfl⟩
theorem fRX11_7 : fl RX11 7 11 0 := ⟨_, rfl, by decide, gd_in (ti_4 (List.mem_of_getElem? (i := 112) rfl)) rfl⟩
theorem fRX11_13 : fl RX11 13 11 4 := ⟨_, rfl, by decide, gd_in (ti_4 (List.mem_of_getElem? (i := 116) rfl)) rfl⟩
theorem fRX11_16 : fl RX11 16 11 5 := ⟨_, rfl, by decide, gd_in (ti_4 (List.mem_of_getElem? (i := 117) rfl)) rfl⟩
theorem fRX11_19 : fl RX11 19 11 7 := ⟨_, rfl, by decide, gd_in (ti_4 (List.mem_of_getElem? (i := 119) rfl)) rfl⟩
theorem fRX11_23 : fl RX11 23 11 11 := ⟨_, rfl, by decide, gd_in (ti_4 (List.mem_of_getElem? (i := 123) rfl)) rfl⟩
theorem fRX11_27 : fl RX11 27 11 14 := ⟨_, rfl, by decide, gd_in (ti_4 (List.mem_of_getElem? (i := 126) rfl)) rfl⟩
theorem fRX11_30 : fl RX11 30 11 15 := ⟨_, rfl, by decide, gd_in (ti_4 (List.mem_of_getElem? (i := 127) rfl)) rfl⟩
theorem fRX11_33 : fl RX11 33 11 16 := ⟨_, rfl, by decide, gd_in (ti_4 (List.mem_of_getElem? (i := 128) rfl)) rfl⟩
theorem fRX11_36 : fl RX11 36 11 18 := ⟨_, rfl, by decide, gd_in (ti_4 (List.mem_of_getElem? (i := 130) rfl)) rfl⟩
theorem fRX11_39 : fl RX11 39 11 19 := ⟨_, rfl, by decide, gd_in (ti_4 (List.mem_of_getElem? (i := 131) rfl)) rfl⟩
theorem fRX11_42 : fl RX11 42 11 21 := ⟨_, rfl, by decide, gd_in (ti_4 (List.mem_of_getElem? (i := 133) rfl)) rfl⟩
theorem fRX11_45 : fl RX11 45 11 22 := ⟨_, rfl, by decide, gd_in (ti_4 (List.mem_of_getElem? (i := 134) rfl)) rfl⟩
theorem fRX11_48 : fl RX11 48 11 23 := ⟨_, rfl, by decide, gd_in (ti_4 (List.mem_of_getElem? (i := 135) rfl)) rfl⟩
theorem fRX11_51 : fl RX11 51 11 26 := ⟨_, rfl, by decide, gd_in (ti_4 (List.mem_of_getElem? (i := 138) rfl)) rfl⟩
theorem fRX11_54 : fl RX11 54 11 27 := ⟨_, rfl, by decide, gd_in (ti_4 (List.mem_of_getElem? (i := 139) rfl)) rfl⟩
theorem fRX11_57 : fl RX11 57 11 28 := ⟨_, rfl, by decide, gd_in (ti_4 (List.mem_of_getElem? (i := 140) rfl)) rfl⟩
theorem fRX11_60 : fl RX11 60 11 29 := ⟨_, rfl, by decide, gd_in (ti_4 (List.mem_of_getElem? (i := 141) rfl)) rfl⟩
theorem fRX11_63 : fl RX11 63 11 30 := ⟨_, rfl, by decide, gd_in (ti_4 (List.mem_of_getElem? (i := 142) rfl)) rfl⟩
theorem fRX11_66 : fl RX11 66 11 31 := ⟨_, rfl, by decide, gd_in (ti_4 (List.mem_of_getElem? (i := 143) rfl)) rfl⟩
theorem fRX11_69 : fl RX11 69 11 32 := ⟨_, rfl, by decide, gd_in (ti_4 (List.mem_of_getElem? (i := 144) rfl)) rfl⟩
theorem fRX11_72 : fl RX11 72 11 33 := ⟨_, rfl, by decide, gd_in (ti_4 (List.mem_of_getElem? (i := 145) rfl)) rfl⟩
theorem fRX11_75 : fl RX11 75 11 34 := ⟨_, rfl, by decide, gd_in (ti_4 (List.mem_of_getElem? (i := 146) rfl)) rfl⟩
theorem fRX11_78 : fl RX11 78 11 3 := ⟨_, rfl, by decide, gd_in (ti_4 (List.mem_of_getElem? (i := 115) rfl)) rfl⟩
theorem fRX11_98 : fl RX11 98 11 6 := ⟨_, rfl, by decide, gd_in (ti_4 (List.mem_of_getElem? (i := 118) rfl)) rfl⟩
theorem fRX11_102 : fl RX11 102 11 8 := ⟨_, rfl, by decide, gd_in (ti_4 (List.mem_of_getElem? (i := 120) rfl)) rfl⟩
theorem fRX11_105 : fl RX11 105 11 9 := ⟨_, rfl, by decide, gd_in (ti_4 (List.mem_of_getElem? (i := 121) rfl)) rfl⟩
theorem fRX11_108 : fl RX11 108 11 10 := ⟨_, rfl, by decide, gd_in (ti_4 (List.mem_of_getElem? (i := 122) rfl)) rfl⟩
theorem fRX11_123 : fl RX11 123 11 12 := ⟨_, rfl, by decide, gd_in (ti_4 (List.mem_of_getElem? (i := 124) rfl)) rfl⟩
theorem fRX11_140 : fl RX11 140 11 13 := ⟨_, rfl, by decide, gd_in (ti_4 (List.mem_of_getElem? (i := 125) rfl)) rfl⟩
theorem fRX11_149 : fl RX11 149 11 1 := ⟨_, rfl, by decide, gd_in (ti_4 (List.mem_of_getElem? (i := 113) rfl)) rfl⟩
theorem fRX11_156 : fl RX11 156 11 20 := ⟨_, rfl, by decide, gd_in (ti_4 (List.mem_of_getElem? (i := 132) rfl)) rfl⟩
theorem fRX11_159 : fl RX11 159 11 24 := ⟨_, rfl, by decide, gd_in (ti_4 (List.mem_of_getElem? (i := 136) rfl)) rfl⟩
theorem fRX11_166 : fl RX11 166 11 2 := ⟨_, rfl, by decide, gd_in (ti_4 (List.mem_of_getElem? (i := 114) rfl)) rfl⟩
theorem fRX11_169 : fl RX11 169 11 17 := ⟨_, rfl, by decide, gd_in (ti_4 (List.mem_of_getElem? (i := 129) rfl)) rfl⟩
theorem fRX11_179 : fl RX11 179 11 25 := ⟨_, rfl, by decide, gd_in (ti_4 (List.mem_of_getElem? (i := 137) rfl)) rfl⟩
theorem fRX2_11 : fl RX2 11 2 0 := ⟨_, rfl, by decide, gd_in (ti_1 (List.mem_of_getElem? (i := 154) rfl)) rfl⟩
theorem fRX2_20 : fl RX2 20 2 2 := ⟨_, rfl, by decide, gd_in (ti_1 (List.mem_of_getElem? (i := 156) rfl)) rfl⟩
theorem fRX2_24 : fl RX2 24 2 1 := ⟨_, rfl, by decide, gd_in (ti_1 (List.mem_of_getElem? (i := 155) rfl)) rfl⟩
theorem fRX3_9 : fl RX3 9 3 0 := ⟨_, rfl, by decide, gd_in (ti_1 (List.mem_of_getElem? (i := 188) rfl)) rfl⟩
theorem fRX3_15 : fl RX3 15 3 1 := ⟨_, rfl, by decide, gd_in (ti_1 (List.mem_of_getElem? (i := 189) rfl)) rfl⟩
theorem fRX3_18 : fl RX3 18 3 2 := ⟨_, rfl, by decide, gd_in (ti_1 (List.mem_of_getElem? (i := 190) rfl)) rfl⟩
theorem fRX3_21 : fl RX3 21 3 3 := ⟨_, rfl, by decide, gd_in (ti_1 (List.mem_of_getElem? (i := 191) rfl)) rfl⟩
theorem fRX3_30 : fl RX3 30 6 3 := ⟨_, rfl, by decide, gd_in (ti_1 (List.mem_of_getElem? (i := 70) rfl)) rfl⟩
theorem fRX3_49 : fl RX3 49 3 5 := ⟨_, rfl, by decide, gd_in (ti_1 (List.mem_of_getElem? (i := 194) rfl)) rfl⟩
theorem fRX3_52 : fl RX3 52 3 4 := ⟨_, rfl, by decide, gd_in (ti_1 (List.mem_of_getElem? (i := 192) rfl)) rfl⟩
theorem fRX3_62 : fl RX3 62 6 1 := ⟨_, rfl, by decide, gd_in (ti_1 (List.mem_of_getElem? (i := 62) rfl)) rfl⟩
theorem fRX4_9 : fl RX4 9 4 0 := ⟨_, rfl, by decide, gd_in (ti_1 (List.mem_of_getElem? (i := 31) rfl)) rfl⟩
theorem fRX4_15 : fl RX4 15 4 1 := ⟨_, rfl, by decide, gd_in (ti_1 (List.mem_of_getElem? (i := 32) rfl)) rfl⟩
theorem fRX4_19 : fl RX4 19 4 2 := ⟨_, rfl, by decide, gd_in (ti_1 (List.mem_of_getElem? (i := 33) rfl)) rfl⟩
theorem fRX5_9 : fl RX5 9 5 0 := ⟨_, rfl, by decide, gd_in (ti_1 (List.mem_of_getElem? (i := 104) rfl)) rfl⟩
theorem fRX5_15 : fl RX5 15 5 1 := ⟨_, rfl, by decide, gd_in (ti_1 (List.mem_of_getElem? (i := 105) rfl)) rfl⟩
theorem fRX5_22 : fl RX5 22 5 2 := ⟨_, rfl, by decide, gd_in (ti_1 (List.mem_of_getElem? (i := 107) rfl)) rfl⟩
theorem fRX5_26 : fl RX5 26 5 3 := ⟨_, rfl, by decide, gd_in (ti_1 (List.mem_of_getElem? (i := 108) rfl)) rfl⟩
theorem fRX5_33 : fl RX5 33 5 4 := ⟨_, rfl, by decide, gd_in (ti_1 (List.mem_of_getElem? (i := 109) rfl)) rfl⟩
theorem fRX5_36 : fl RX5 36 9 1 := ⟨_, rfl, by decide, gd_in (ti_1 (List.mem_of_getElem? (i := 86) rfl)) rfl⟩
theorem fRX5_41 : fl RX5 41 9 2 := ⟨_, rfl, by decide, gd_in (ti_1 (List.mem_of_getElem? (i := 89) rfl)) rfl⟩
theorem fRX5_44 : fl RX5 44 5 5 := ⟨_, rfl, by decide, gd_in (ti_1 (List.mem_of_getElem? (i := 111) rfl)) rfl⟩
theorem fRX5_55 : fl RX5 55 5 7 := ⟨_, rfl, by decide, gd_in (ti_1 (List.mem_of_getElem? (i := 113) rfl)) rfl⟩
theorem fRX5_58 : fl RX5 58 5 11 := ⟨_, rfl, by decide, gd_in (ti_1 (List.mem_of_getElem? (i := 119) rfl)) rfl⟩
theorem fRX5_85 : fl RX5 85 5 6 := ⟨_, rfl, by decide, gd_in (ti_1 (List.mem_of_getElem? (i := 112) rfl)) rfl⟩
theorem fRX5_91 : fl RX5 91 5 8 := ⟨_, rfl, by decide, gd_in (ti_1 (List.mem_of_getElem? (i := 114) rfl)) rfl⟩
theorem fRX5_94 : fl RX5 94 5 9 := ⟨_, rfl, by decide, gd_in (ti_1 (List.mem_of_getElem? (i := 115) rfl)) rfl⟩
theorem fRX5_111 : fl RX5 111 4 2 := ⟨_, rfl, by decide, gd_in (ti_1 (List.mem_of_getElem? (i := 34) rfl)) rfl⟩
theorem fRX6_9 : fl RX6 9 6 0 := ⟨_, rfl, by decide, gd_in (ti_1 (List.mem_of_getElem? (i := 58) rfl)) rfl⟩
theorem fRX6_15 : fl RX6 15 6 1 := ⟨_, rfl, by decide, gd_in (ti_1 (List.mem_of_getElem? (i := 59) rfl)) rfl⟩
theorem fRX6_19 : fl RX6 19 6 2 := ⟨_, rfl, by decide, gd_in (ti_1 (List.mem_of_getElem? (i := 64) rfl)) rfl⟩
theorem fRX6_27 : fl RX6 27 6 3 := ⟨_, rfl, by decide, gd_in (ti_1 (List.mem_of_getElem? (i := 73) rfl)) rfl⟩
theorem fRX7_9 : fl RX7 9 7 0 := ⟨_, rfl, by decide, gd_in (ti_2 (List.mem_of_getElem? (i := 31) rfl)) rfl⟩
theorem fRX7_15 : fl RX7 15 7 1 := ⟨_, rfl, by decide, gd_in (ti_2 (List.mem_of_getElem? (i := 32) rfl)) rfl⟩
theorem fRX7_19 : fl RX7 19 7 2 := ⟨_, rfl, by decide, gd_in (ti_2 (List.mem_of_getElem? (i := 33) rfl)) rfl⟩
theorem fRX7_22 : fl RX7 22 6 2 := ⟨_, rfl, by decide, gd_in (ti_1 (List.mem_of_getElem? (i := 63) rfl)) rfl⟩
theorem fRX7_50 : fl RX7 50 6 1 := ⟨_, rfl, by decide, gd_in (ti_1 (List.mem_of_getElem? (i := 60) rfl)) rfl⟩
theorem fRX8_9 : fl RX8 9 8 0 := ⟨_, rfl, by decide, gd_in (ti_1 (List.mem_of_getElem? (i := 215) rfl)) rfl⟩
theorem fRX8_15 : fl RX8 15 8 1 := ⟨_, rfl, by decide, gd_in (ti_1 (List.mem_of_getElem? (i := 216) rfl)) rfl⟩
theorem fRX8_30 : fl RX8 30 8 2 := ⟨_, rfl, by decide, gd_in (ti_1 (List.mem_of_getElem? (i := 217) rfl)) rfl⟩
theorem fRX8_34 : fl RX8 34 6 2 := ⟨_, rfl, by decide, gd_in (ti_1 (List.mem_of_getElem? (i := 65) rfl)) rfl⟩
theorem fRX8_37 : fl RX8 37 8 3 := ⟨_, rfl, by decide, gd_in (ti_1 (List.mem_of_getElem? (i := 219) rfl)) rfl⟩
theorem fRX8_40 : fl RX8 40 8 4 := ⟨_, rfl, by decide, gd_in (ti_1 (List.mem_of_getElem? (i := 221) rfl)) rfl⟩
theorem fRX8_43 : fl RX8 43 8 5 := ⟨_, rfl, by decide, gd_in (ti_1 (List.mem_of_getElem? (i := 223) rfl)) rfl⟩
theorem fRX8_50 : fl RX8 50 6 3 := ⟨_, rfl, by decide, gd_in (ti_1 (List.mem_of_getElem? (i := 71) rfl)) rfl⟩
theorem fRX8_63 : fl RX8 63 3 5 := ⟨_, rfl, by decide, gd_in (ti_1 (List.mem_of_getElem? (i := 193) rfl)) rfl⟩
theorem fRX9_11 : fl RX9 11 9 0 := ⟨_, rfl, by decide, gd_in (ti_1 (List.mem_of_getElem? (i := 84) rfl)) rfl⟩
theorem fRX9_20 : fl RX9 20 9 1 := ⟨_, rfl, by decide, gd_in (ti_1 (List.mem_of_getElem? (i := 85) rfl)) rfl⟩
theorem fRX9_24 : fl RX9 24 9 2 := ⟨_, rfl, by decide, gd_in (ti_1 (List.mem_of_getElem? (i := 88) rfl)) rfl⟩
theorem fRX9_31 : fl RX9 31 6 2 := ⟨_, rfl, by decide, gd_in (ti_1 (List.mem_of_getElem? (i := 67) rfl)) rfl⟩
theorem fRX9_34 : fl RX9 34 6 3 := ⟨_, rfl, by decide, gd_in (ti_1 (List.mem_of_getElem? (i := 72) rfl)) rfl⟩
theorem pRX0_18 : fp RX0 18 0 2 .int := ⟨_, rfl, by decide, gd_in (ti_1 (List.mem_of_getElem? (i := 173) rfl)) rfl, rfl, by decide +kernel⟩
theorem pRX1_30 : fp RX1 30 1 5 .int := ⟨_, rfl, by decide, gd_in (ti_2 (List.mem_of_getElem? (i := 11) rfl)) rfl, rfl, by decide +kernel⟩
theorem pRX1_34 : fp RX1 34 1 4 .int := ⟨_, rfl, by decide, gd_in (ti_2 (List.mem_of_getElem? (i := 10) rfl)) rfl, rfl, by decide +kernel⟩
theorem pRX10_80 : fp RX10 80 10 12 .int := ⟨_, rfl, by decide, gd_in (ti_2 (List.mem_of_getElem? (i := 53) rfl)) rfl, rfl, by decide +kernel⟩
theorem pRX10_89 : fp RX10 89 5 4 .int := ⟨_, rfl, by decide, gd_in (ti_1 (List.mem_of_getElem? (i := 110) rfl)) rfl, rfl, by decide +kernel⟩
theorem pRX10_108 : fp RX10 108 10 10 .boolean := ⟨_, rfl, by decide, gd_in (ti_2 (List.mem_of_getElem? (i := 51) rfl)) rfl, rfl, by decide +kernel⟩
theorem pRX10_111 : fp RX10 111 0 2 .int := ⟨_, rfl, by decide, gd_in (ti_1 (List.mem_of_getElem? (i := 174) rfl)) rfl, rfl, by decide +kernel⟩
theorem pRX10_114 : fp RX10 114 10 11 .int := ⟨_, rfl, by decide, gd_in (ti_2 (List.mem_of_getElem? (i := 52) rfl)) rfl, rfl, by decide +kernel⟩
theorem pRX10_123 : fp RX10 123 9 2 .int := ⟨_, rfl, by decide, gd_in (ti_1 (List.mem_of_getElem? (i := 90) rfl)) rfl, rfl, by decide +kernel⟩
theorem pRX10_151 : fp RX10 151 6 3 .int := ⟨_, rfl, by decide, gd_in (ti_1 (List.mem_of_getElem? (i := 74) rfl)) rfl, rfl, by decide +kernel⟩
theorem pRX10_282 : fp RX10 282 10 13 .int := ⟨_, rfl, by decide, gd_in (ti_2 (List.mem_of_getElem? (i := 54) rfl)) rfl, rfl, by decide +kernel⟩
theorem pRX11_23 : fp RX11 23 11 11 .int := ⟨_, rfl, by decide, gd_in (ti_4 (List.mem_of_getElem? (i := 123) rfl)) rfl, rfl, by decide +kernel⟩
theorem pRX11_78 : fp RX11 78 11 3 .int := ⟨_, rfl, by decide, gd_in (ti_4 (List.mem_of_getElem? (i := 115) rfl)) rfl, rfl, by decide +kernel⟩
theorem pRX11_98 : fp RX11 98 11 6 .int := ⟨_, rfl, by decide, gd_in (ti_4 (List.mem_of_getElem? (i := 118) rfl)) rfl, rfl, by decide +kernel⟩
theorem pRX11_102 : fp RX11 102 11 8 .int := ⟨_, rfl, by decide, gd_in (ti_4 (List.mem_of_getElem? (i := 120) rfl)) rfl, rfl, by decide +kernel⟩
theorem pRX11_105 : fp RX11 105 11 9 .int := ⟨_, rfl, by decide, gd_in (ti_4 (List.mem_of_getElem? (i := 121) rfl)) rfl, rfl, by decide +kernel⟩
theorem pRX11_108 : fp RX11 108 11 10 .int := ⟨_, rfl, by decide, gd_in (ti_4 (List.mem_of_getElem? (i := 122) rfl)) rfl, rfl, by decide +kernel⟩
theorem pRX11_123 : fp RX11 123 11 12 .int := ⟨_, rfl, by decide, gd_in (ti_4 (List.mem_of_getElem? (i := 124) rfl)) rfl, rfl, by decide +kernel⟩
theorem pRX11_140 : fp RX11 140 11 13 .int := ⟨_, rfl, by decide, gd_in (ti_4 (List.mem_of_getElem? (i := 125) rfl)) rfl, rfl, by decide +kernel⟩
theorem pRX11_149 : fp RX11 149 11 1 .boolean := ⟨_, rfl, by decide, gd_in (ti_4 (List.mem_of_getElem? (i := 113) rfl)) rfl, rfl, by decide +kernel⟩
theorem pRX11_156 : fp RX11 156 11 20 .int := ⟨_, rfl, by decide, gd_in (ti_4 (List.mem_of_getElem? (i := 132) rfl)) rfl, rfl, by decide +kernel⟩
theorem pRX11_159 : fp RX11 159 11 24 .int := ⟨_, rfl, by decide, gd_in (ti_4 (List.mem_of_getElem? (i := 136) rfl)) rfl, rfl, by decide +kernel⟩
theorem pRX11_166 : fp RX11 166 11 2 .int := ⟨_, rfl, by decide, gd_in (ti_4 (List.mem_of_getElem? (i := 114) rfl)) rfl, rfl, by decide +kernel⟩
theorem pRX11_169 : fp RX11 169 11 17 .int := ⟨_, rfl, by decide, gd_in (ti_4 (List.mem_of_getElem? (i := 129) rfl)) rfl, rfl, by decide +kernel⟩
theorem pRX11_179 : fp RX11 179 11 25 .int := ⟨_, rfl, by decide, gd_in (ti_4 (List.mem_of_getElem? (i := 137) rfl)) rfl, rfl, by decide +kernel⟩
theorem pRX2_20 : fp RX2 20 2 2 .int := ⟨_, rfl, by decide, gd_in (ti_1 (List.mem_of_getElem? (i := 156) rfl)) rfl, rfl, by decide +kernel⟩
theorem pRX2_24 : fp RX2 24 2 1 .int := ⟨_, rfl, by decide, gd_in (ti_1 (List.mem_of_getElem? (i := 155) rfl)) rfl, rfl, by decide +kernel⟩
theorem pRX3_49 : fp RX3 49 3 5 .int := ⟨_, rfl, by decide, gd_in (ti_1 (List.mem_of_getElem? (i := 194) rfl)) rfl, rfl, by decide +kernel⟩
theorem pRX3_52 : fp RX3 52 3 4 .int := ⟨_, rfl, by decide, gd_in (ti_1 (List.mem_of_getElem? (i := 192) rfl)) rfl, rfl, by decide +kernel⟩
theorem pRX4_15 : fp RX4 15 4 1 .int := ⟨_, rfl, by decide, gd_in (ti_1 (List.mem_of_getElem? (i := 32) rfl)) rfl, rfl, by decide +kernel⟩
theorem pRX4_19 : fp RX4 19 4 2 .int := ⟨_, rfl, by decide, gd_in (ti_1 (List.mem_of_getElem? (i := 33) rfl)) rfl, rfl, by decide +kernel⟩
theorem pRX5_29 : fp RX5 29 5 10 .int := ⟨_, rfl, by decide, gd_in (ti_1 (List.mem_of_getElem? (i := 116) rfl)) rfl, rfl, by decide +kernel⟩
theorem pRX5_33 : fp RX5 33 5 4 .int := ⟨_, rfl, by decide, gd_in (ti_1 (List.mem_of_getElem? (i := 109) rfl)) rfl, rfl, by decide +kernel⟩
theorem pRX5_36 : fp RX5 36 9 1 .int := ⟨_, rfl, by decide, gd_in (ti_1 (List.mem_of_getElem? (i := 86) rfl)) rfl, rfl, by decide +kernel⟩
theorem pRX5_41 : fp RX5 41 9 2 .int := ⟨_, rfl, by decide, gd_in (ti_1 (List.mem_of_getElem? (i := 89) rfl)) rfl, rfl, by decide +kernel⟩
theorem pRX5_44 : fp RX5 44 5 5 .int := ⟨_, rfl, by decide, gd_in (ti_1 (List.mem_of_getElem? (i := 111) rfl)) rfl, rfl, by decide +kernel⟩
theorem pRX5_55 : fp RX5 55 5 7 .int := ⟨_, rfl, by decide, gd_in (ti_1 (List.mem_of_getElem? (i := 113) rfl)) rfl, rfl, by decide +kernel⟩
theorem pRX5_58 : fp RX5 58 5 11 .boolean := ⟨_, rfl, by decide, gd_in (ti_1 (List.mem_of_getElem? (i := 119) rfl)) rfl, rfl, by decide +kernel⟩
theorem pRX5_85 : fp RX5 85 5 6 .int := ⟨_, rfl, by decide, gd_in (ti_1 (List.mem_of_getElem? (i := 112) rfl)) rfl, rfl, by decide +kernel⟩
theorem pRX5_91 : fp RX5 91 5 8 .int := ⟨_, rfl, by decide, gd_in (ti_1 (List.mem_of_getElem? (i := 114) rfl)) rfl, rfl, by decide +kernel⟩
theorem pRX5_94 : fp RX5 94 5 9 .int := ⟨_, rfl, by decide, gd_in (ti_1 (List.mem_of_getElem? (i := 115) rfl)) rfl, rfl, by decide +kernel⟩
theorem pRX6_19 : fp RX6 19 6 2 .int := ⟨_, rfl, by decide, gd_in (ti_1 (List.mem_of_getElem? (i := 64) rfl)) rfl, rfl, by decide +kernel⟩
theorem pRX6_27 : fp RX6 27 6 3 .int := ⟨_, rfl, by decide, gd_in (ti_1 (List.mem_of_getElem? (i := 73) rfl)) rfl, rfl, by decide +kernel⟩
theorem pRX8_30 : fp RX8 30 8 2 .int := ⟨_, rfl, by decide, gd_in (ti_1 (List.mem_of_getElem? (i := 217) rfl)) rfl, rfl, by decide +kernel⟩
theorem pRX8_37 : fp RX8 37 8 3 .int := ⟨_, rfl, by decide, gd_in (ti_1 (List.mem_of_getElem? (i := 219) rfl)) rfl, rfl, by decide +kernel⟩
theorem pRX8_40 : fp RX8 40 8 4 .int := ⟨_, rfl, by decide, gd_in (ti_1 (List.mem_of_getElem? (i := 221) rfl)) rfl, rfl, by decide +kernel⟩
theorem pRX8_43 : fp RX8 43 8 5 .int := ⟨_, rfl, by decide, gd_in (ti_1 (List.mem_of_getElem? (i := 223) rfl)) rfl, rfl, by decide +kernel⟩
theorem pRX9_20 : fp RX9 20 9 1 .int := ⟨_, rfl, by decide, gd_in (ti_1 (List.mem_of_getElem? (i := 85) rfl)) rfl, rfl, by decide +kernel⟩
theorem pRX9_24 : fp RX9 24 9 2 .int := ⟨_, rfl, by decide, gd_in (ti_1 (List.mem_of_getElem? (i := 88) rfl)) rfl, rfl, by decide +kernel⟩
theorem lRX0_22 : Cond.methodLink RX0 22 yX9_ropeOf ∈ lw_gd := gd_in (ti_4 (List.mem_of_getElem? (i := 93) rfl)) rfl
theorem lRX1_26 : Cond.methodLink RX1 26 yX1_solve ∈ lw_gd := gd_in (ti_3 (List.mem_of_getElem? (i := 31) rfl)) rfl
theorem lRX1_37 : Cond.methodLinkNest RX1 37 yX10_leftOver "PretzelProof" ∈ nw_all := by decide +kernel
theorem lRX1_41 : Cond.methodLink RX1 41 yX1_findParts ∈ lw_gd := gd_in (ti_3 (List.mem_of_getElem? (i := 35) rfl)) rfl
theorem lRX1_45 : Cond.methodLink RX1 45 yX1_writeRows ∈ lw_gd := gd_in (ti_3 (List.mem_of_getElem? (i := 44) rfl)) rfl
theorem lRX1_53 : Cond.methodLink RX1 53 yX1_rowWith ∈ lw_gd := gd_in (ti_3 (List.mem_of_getElem? (i := 56) rfl)) rfl
theorem lRX1_56 : Cond.methodLink RX1 56 yX1_exchangeRows ∈ lw_gd := gd_in (ti_3 (List.mem_of_getElem? (i := 60) rfl)) rfl
theorem lRX1_60 : Cond.methodLink RX1 60 yX1_scaleRow ∈ lw_gd := gd_in (ti_3 (List.mem_of_getElem? (i := 64) rfl)) rfl
theorem lRX1_64 : Cond.methodLink RX1 64 yX1_clearOthers ∈ lw_gd := gd_in (ti_3 (List.mem_of_getElem? (i := 68) rfl)) rfl
theorem lRX1_68 : Cond.methodLink RX1 68 yJ9_max_7cf53 ∈ lw_gd := gd_in (ti_3 (List.mem_of_getElem? (i := 39) rfl)) rfl
theorem lRX1_73 : Cond.methodLink RX1 73 yX6_length ∈ lw_gd := gd_in (ti_3 (List.mem_of_getElem? (i := 42) rfl)) rfl
theorem lRX1_80 : Cond.methodLinkNest RX1 80 yX10_crossingOf "PretzelProof" ∈ nw_all := by decide +kernel
theorem lRX1_84 : Cond.methodLink RX1 84 yJ7_fill_53178 ∈ lw_gd := gd_in (ti_3 (List.mem_of_getElem? (i := 48) rfl)) rfl
theorem lRX1_90 : Cond.methodLink RX1 90 yX1_addTo ∈ lw_gd := gd_in (ti_3 (List.mem_of_getElem? (i := 49) rfl)) rfl
theorem lRX10_85 : Cond.methodLink RX10 85 yX5_addLetter ∈ lw_gd := gd_in (ti_2 (List.mem_of_getElem? (i := 89) rfl)) rfl
theorem lRX10_93 : Cond.methodLink RX10 93 yX5_readText ∈ lw_gd := gd_in (ti_2 (List.mem_of_getElem? (i := 98) rfl)) rfl
theorem lRX10_101 : Cond.methodLink RX10 101 yX9_copyFrom ∈ lw_gd := gd_in (ti_2 (List.mem_of_getElem? (i := 183) rfl)) rfl
theorem lRX10_117 : Cond.methodLink RX10 117 yX2_forgetAll ∈ lw_gd := gd_in (ti_2 (List.mem_of_getElem? (i := 194) rfl)) rfl
theorem lRX10_126 : Cond.methodLink RX10 126 yX9_crossingsOfAll ∈ lw_gd := gd_in (ti_2 (List.mem_of_getElem? (i := 206) rfl)) rfl
theorem lRX10_129 : Cond.methodLink RX10 129 yX9_saltedOfAll ∈ lw_gd := gd_in (ti_2 (List.mem_of_getElem? (i := 210) rfl)) rfl
theorem lRX10_132 : Cond.methodLink RX10 132 yX9_plainOnes ∈ lw_gd := gd_in (ti_2 (List.mem_of_getElem? (i := 215) rfl)) rfl
theorem lRX10_135 : Cond.methodLink RX10 135 yX10_shakenOutOnes ∈ lw_gd := gd_in (ti_2 (List.mem_of_getElem? (i := 219) rfl)) rfl
theorem lRX10_141 : Cond.methodLink RX10 141 yX9_ropeOf ∈ lw_gd := gd_in (ti_2 (List.mem_of_getElem? (i := 223) rfl)) rfl
theorem lRX10_154 : Cond.methodLink RX10 154 yX1_waysBy ∈ lw_gd := gd_in (ti_3 (List.mem_of_getElem? (i := 27) rfl)) rfl
theorem lRX10_158 : Cond.methodLink RX10 158 yX10_weakOnes ∈ lw_gd := gd_in (ti_3 (List.mem_of_getElem? (i := 72) rfl)) rfl
theorem lRX10_162 : Cond.methodLink RX10 162 yX10_fewestSwitches ∈ lw_gd := gd_in (ti_3 (List.mem_of_getElem? (i := 76) rfl)) rfl
theorem lRX10_165 : Cond.methodLink RX10 165 yX10_oddOnes ∈ lw_gd := gd_in (ti_3 (List.mem_of_getElem? (i := 86) rfl)) rfl
theorem lRX10_168 : Cond.methodLink RX10 168 yX6_passAt ∈ lw_gd := gd_in (ti_3 (List.mem_of_getElem? (i := 99) rfl)) rfl
theorem lRX10_172 : Cond.methodLink RX10 172 yX3_lookNow ∈ lw_gd := gd_in (ti_3 (List.mem_of_getElem? (i := 107) rfl)) rfl
theorem lRX10_177 : Cond.methodLink RX10 177 yX3_moveAt ∈ lw_gd := gd_in (ti_3 (List.mem_of_getElem? (i := 111) rfl)) rfl
theorem lRX10_180 : Cond.methodLink RX10 180 yX6_has ∈ lw_gd := gd_in (ti_3 (List.mem_of_getElem? (i := 119) rfl)) rfl
theorem lRX10_183 : Cond.methodLink RX10 183 yJ9_min_7cf53 ∈ lw_gd := gd_in (ti_3 (List.mem_of_getElem? (i := 123) rfl)) rfl
theorem lRX10_189 : Cond.methodLink RX10 189 yJ9_max_7cf53 ∈ lw_gd := gd_in (ti_3 (List.mem_of_getElem? (i := 124) rfl)) rfl
theorem lRX10_192 : Cond.methodLink RX10 192 yX3_contains ∈ lw_gd := gd_in (ti_3 (List.mem_of_getElem? (i := 125) rfl)) rfl
theorem lRX10_196 : Cond.methodLink RX10 196 yX2_remember ∈ lw_gd := gd_in (ti_3 (List.mem_of_getElem? (i := 130) rfl)) rfl
theorem lRX10_199 : Cond.methodLink RX10 199 yX6_takeAway ∈ lw_gd := gd_in (ti_3 (List.mem_of_getElem? (i := 136) rfl)) rfl
theorem lRX10_203 : Cond.methodLink RX10 203 yX6_length ∈ lw_gd := gd_in (ti_3 (List.mem_of_getElem? (i := 151) rfl)) rfl
theorem lRX10_206 : Cond.methodLink RX10 206 yX6_addCurl ∈ lw_gd := gd_in (ti_3 (List.mem_of_getElem? (i := 152) rfl)) rfl
theorem lRX10_210 : Cond.methodLink RX10 210 yX6_switchSet ∈ lw_gd := gd_in (ti_3 (List.mem_of_getElem? (i := 160) rfl)) rfl
theorem lRX10_213 : Cond.methodLink RX10 213 yX6_goTheOtherWay ∈ lw_gd := gd_in (ti_3 (List.mem_of_getElem? (i := 168) rfl)) rfl
theorem lRX10_216 : Cond.methodLink RX10 216 yX6_everyCrossing ∈ lw_gd := gd_in (ti_2 (List.mem_of_getElem? (i := 224) rfl)) rfl
theorem lRX10_219 : Cond.methodLink RX10 219 yX6_rollOnce ∈ lw_gd := gd_in (ti_3 (List.mem_of_getElem? (i := 180) rfl)) rfl
theorem lRX10_222 : Cond.methodLink RX10 222 yX6_append ∈ lw_gd := gd_in (ti_3 (List.mem_of_getElem? (i := 188) rfl)) rfl
theorem lRX10_225 : Cond.methodLink RX10 225 yX6_makePlain ∈ lw_gd := gd_in (ti_3 (List.mem_of_getElem? (i := 192) rfl)) rfl
theorem lRX10_228 : Cond.methodLink RX10 228 yX10_isIn ∈ lw_gd := gd_in (ti_3 (List.mem_of_getElem? (i := 197) rfl)) rfl
theorem lRX10_232 : Cond.methodLink RX10 232 yX10_driftOnce ∈ lw_gd := gd_in (ti_3 (List.mem_of_getElem? (i := 202) rfl)) rfl
theorem lRX10_235 : Cond.methodLink RX10 235 yX2_restore ∈ lw_gd := gd_in (ti_3 (List.mem_of_getElem? (i := 228) rfl)) rfl
theorem lRX10_239 : Cond.methodLink RX10 239 yX8_tryAll ∈ lw_gd := gd_in (ti_3 (List.mem_of_getElem? (i := 236) rfl)) rfl
theorem lRX10_255 : Cond.methodLink RX10 255 yX6_lyingIn ∈ lw_gd := gd_in (ti_3 (List.mem_of_getElem? (i := 89) rfl)) rfl
theorem lRX10_258 : Cond.methodLink RX10 258 yX7_waysInto ∈ lw_gd := gd_in (ti_4 (List.mem_of_getElem? (i := 22) rfl)) rfl
theorem lRX10_262 : Cond.methodLink RX10 262 yX10_fewestUnsalted ∈ lw_gd := gd_in (ti_4 (List.mem_of_getElem? (i := 46) rfl)) rfl
theorem lRX10_265 : Cond.methodLink RX10 265 yX7_leastWordAt ∈ lw_gd := gd_in (ti_4 (List.mem_of_getElem? (i := 54) rfl)) rfl
theorem lRX10_268 : Cond.methodLink RX10 268 yX1_firstColourOf ∈ lw_gd := gd_in (ti_4 (List.mem_of_getElem? (i := 63) rfl)) rfl
theorem lRX10_275 : Cond.methodLink RX10 275 yX0_addEntry ∈ lw_gd := gd_in (ti_4 (List.mem_of_getElem? (i := 77) rfl)) rfl
theorem lRX10_278 : Cond.methodLink RX10 278 yX0_firstWrong ∈ lw_gd := gd_in (ti_4 (List.mem_of_getElem? (i := 89) rfl)) rfl
theorem lRX10_285 : Cond.methodLink RX10 285 yX3_leftOf ∈ lw_gd := gd_in (ti_2 (List.mem_of_getElem? (i := 228) rfl)) rfl
theorem lRX10_289 : Cond.methodLink RX10 289 yJ6_bitCount_0f7a4 ∈ lw_gd := gd_in (ti_3 (List.mem_of_getElem? (i := 85) rfl)) rfl
theorem lRX10_294 : Cond.methodLink RX10 294 yX3_leftByCurls ∈ lw_gd := gd_in (ti_3 (List.mem_of_getElem? (i := 80) rfl)) rfl
theorem lRX10_297 : Cond.methodLink RX10 297 yX10_draw ∈ lw_gd := gd_in (ti_3 (List.mem_of_getElem? (i := 206) rfl)) rfl
theorem lRX10_300 : Cond.methodLink RX10 300 yX10_shakeByFirstMove ∈ lw_gd := gd_in (ti_3 (List.mem_of_getElem? (i := 215) rfl)) rfl
theorem lRX10_303 : Cond.methodLink RX10 303 yX10_curlByDraws ∈ lw_gd := gd_in (ti_3 (List.mem_of_getElem? (i := 220) rfl)) rfl
theorem lRX10_306 : Cond.methodLink RX10 306 yX10_takenBy ∈ lw_gd := gd_in (ti_3 (List.mem_of_getElem? (i := 219) rfl)) rfl
theorem lRX10_316 : Cond.methodLink RX10 316 yX10_leftOver ∈ lw_gd := gd_in (ti_3 (List.mem_of_getElem? (i := 214) rfl)) rfl
theorem lRX11_81 : Cond.methodLink RX11 81 yX11_in ∈ lw_gd := gd_in (ti_4 (List.mem_of_getElem? (i := 224) rfl)) rfl
theorem lRX11_85 : Cond.methodLink RX11 85 yX11_base ∈ lw_gd := gd_in (ti_5 (List.mem_of_getElem? (i := 37) rfl)) rfl
theorem lRX11_89 : Cond.methodLink RX11 89 yX11_passes ∈ lw_gd := gd_in (ti_5 (List.mem_of_getElem? (i := 58) rfl)) rfl
theorem lRX11_92 : Cond.methodLink RX11 92 yX11_crossings ∈ lw_gd := gd_in (ti_5 (List.mem_of_getElem? (i := 105) rfl)) rfl
theorem lRX11_111 : Cond.methodLink RX11 111 yX11_next ∈ lw_gd := gd_in (ti_4 (List.mem_of_getElem? (i := 237) rfl)) rfl
theorem lRX11_115 : Cond.methodLink RX11 115 yX11_blames ∈ lw_gd := gd_in (ti_5 (List.mem_of_getElem? (i := 1) rfl)) rfl
theorem lRX11_126 : Cond.methodLink RX11 126 yX11_ends ∈ lw_gd := gd_in (ti_5 (List.mem_of_getElem? (i := 11) rfl)) rfl
theorem lRX11_137 : Cond.methodLink RX11 137 yX11_nameOf ∈ lw_gd := gd_in (ti_5 (List.mem_of_getElem? (i := 19) rfl)) rfl
theorem lRX11_143 : Cond.methodLink RX11 143 yX11_grains ∈ lw_gd := gd_in (ti_5 (List.mem_of_getElem? (i := 5) rfl)) rfl
theorem lRX11_146 : Cond.methodLink RX11 146 yX11_threads ∈ lw_gd := gd_in (ti_5 (List.mem_of_getElem? (i := 15) rfl)) rfl
theorem lRX11_153 : Cond.methodLink RX11 153 yX11_reads ∈ lw_gd := gd_in (ti_4 (List.mem_of_getElem? (i := 233) rfl)) rfl
theorem lRX11_162 : Cond.methodLink RX11 162 yX11_stores ∈ lw_gd := gd_in (ti_5 (List.mem_of_getElem? (i := 26) rfl)) rfl
theorem lRX11_172 : Cond.methodLink RX11 172 yX11_has ∈ lw_gd := gd_in (ti_5 (List.mem_of_getElem? (i := 34) rfl)) rfl
theorem lRX11_176 : Cond.methodLink RX11 176 yX11_numbers ∈ lw_gd := gd_in (ti_5 (List.mem_of_getElem? (i := 30) rfl)) rfl
theorem lRX11_182 : Cond.methodLink RX11 182 yX11_isBeside ∈ lw_gd := gd_in (ti_5 (List.mem_of_getElem? (i := 74) rfl)) rfl
theorem lRX11_185 : Cond.methodLink RX11 185 yX11_leaves ∈ lw_gd := gd_in (ti_5 (List.mem_of_getElem? (i := 66) rfl)) rfl
theorem lRX11_188 : Cond.methodLink RX11 188 yX11_isMove ∈ lw_gd := gd_in (ti_5 (List.mem_of_getElem? (i := 70) rfl)) rfl
theorem lRX11_192 : Cond.methodLink RX11 192 yX11_without ∈ lw_gd := gd_in (ti_5 (List.mem_of_getElem? (i := 91) rfl)) rfl
theorem lRX11_196 : Cond.methodLink RX11 196 yX11_comesTo ∈ lw_gd := gd_in (ti_5 (List.mem_of_getElem? (i := 94) rfl)) rfl
theorem lRX11_200 : Cond.methodLink RX11 200 yX11_shakes ∈ lw_gd := gd_in (ti_5 (List.mem_of_getElem? (i := 87) rfl)) rfl
theorem lRX11_203 : Cond.methodLink RX11 203 yX11_bits ∈ lw_gd := gd_in (ti_5 (List.mem_of_getElem? (i := 98) rfl)) rfl
theorem lRX11_206 : Cond.methodLink RX11 206 yX11_isOne ∈ lw_gd := gd_in (ti_5 (List.mem_of_getElem? (i := 49) rfl)) rfl
theorem lRX11_211 : Cond.methodLink RX11 211 yX11_loads ∈ lw_gd := gd_in (ti_5 (List.mem_of_getElem? (i := 54) rfl)) rfl
theorem lRX11_214 : Cond.methodLink RX11 214 yX11_moveOf ∈ lw_gd := gd_in (ti_5 (List.mem_of_getElem? (i := 62) rfl)) rfl
theorem lRX11_219 : Cond.methodLink RX11 219 yX11_shaken ∈ lw_gd := gd_in (ti_5 (List.mem_of_getElem? (i := 83) rfl)) rfl
theorem lRX11_223 : Cond.methodLink RX11 223 yX11_parts ∈ lw_gd := gd_in (ti_5 (List.mem_of_getElem? (i := 109) rfl)) rfl
theorem lRX11_226 : Cond.methodLink RX11 226 yX11_left ∈ lw_gd := gd_in (ti_5 (List.mem_of_getElem? (i := 117) rfl)) rfl
theorem lRX11_229 : Cond.methodLink RX11 229 yX11_swaps ∈ lw_gd := gd_in (ti_5 (List.mem_of_getElem? (i := 134) rfl)) rfl
theorem lRX11_232 : Cond.methodLink RX11 232 yX11_clears ∈ lw_gd := gd_in (ti_5 (List.mem_of_getElem? (i := 138) rfl)) rfl
theorem lRX11_236 : Cond.methodLink RX11 236 yX11_isWay ∈ lw_gd := gd_in (ti_5 (List.mem_of_getElem? (i := 113) rfl)) rfl
theorem lRX11_239 : Cond.methodLink RX11 239 yX11_turns ∈ lw_gd := gd_in (ti_5 (List.mem_of_getElem? (i := 150) rfl)) rfl
theorem lRX11_242 : Cond.methodLink RX11 242 yX11_isOut ∈ lw_gd := gd_in (ti_5 (List.mem_of_getElem? (i := 146) rfl)) rfl
theorem lRX11_245 : Cond.methodLink RX11 245 yX11_inside ∈ lw_gd := gd_in (ti_5 (List.mem_of_getElem? (i := 162) rfl)) rfl
theorem lRX11_252 : Cond.methodLink RX11 252 yX11_colours ∈ lw_gd := gd_in (ti_5 (List.mem_of_getElem? (i := 130) rfl)) rfl
theorem lRX11_255 : Cond.methodLink RX11 255 yX11_weak ∈ lw_gd := gd_in (ti_5 (List.mem_of_getElem? (i := 142) rfl)) rfl
theorem lRX11_258 : Cond.methodLink RX11 258 yX11_switches ∈ lw_gd := gd_in (ti_5 (List.mem_of_getElem? (i := 154) rfl)) rfl
theorem lRX11_261 : Cond.methodLink RX11 261 yX11_odd ∈ lw_gd := gd_in (ti_5 (List.mem_of_getElem? (i := 158) rfl)) rfl
theorem lRX11_264 : Cond.methodLink RX11 264 yX11_isCrossing ∈ lw_gd := gd_in (ti_5 (List.mem_of_getElem? (i := 174) rfl)) rfl
theorem lRX11_267 : Cond.methodLink RX11 267 yX11_isTwo ∈ lw_gd := gd_in (ti_5 (List.mem_of_getElem? (i := 182) rfl)) rfl
theorem lRX11_270 : Cond.methodLink RX11 270 yX11_reverses ∈ lw_gd := gd_in (ti_5 (List.mem_of_getElem? (i := 186) rfl)) rfl
theorem lRX11_273 : Cond.methodLink RX11 273 yX11_isSame ∈ lw_gd := gd_in (ti_5 (List.mem_of_getElem? (i := 190) rfl)) rfl
theorem lRX11_276 : Cond.methodLink RX11 276 yX11_copies ∈ lw_gd := gd_in (ti_5 (List.mem_of_getElem? (i := 211) rfl)) rfl
theorem lRX11_280 : Cond.methodLink RX11 280 yX11_known ∈ lw_gd := gd_in (ti_5 (List.mem_of_getElem? (i := 207) rfl)) rfl
theorem lRX11_283 : Cond.methodLink RX11 283 yX11_drops ∈ lw_gd := gd_in (ti_5 (List.mem_of_getElem? (i := 215) rfl)) rfl
theorem lRX11_286 : Cond.methodLink RX11 286 yX11_curls ∈ lw_gd := gd_in (ti_5 (List.mem_of_getElem? (i := 223) rfl)) rfl
theorem lRX11_290 : Cond.methodLink RX11 290 yX11_rolls ∈ lw_gd := gd_in (ti_6 (List.mem_of_getElem? (i := 3) rfl)) rfl
theorem lRX11_293 : Cond.methodLink RX11 293 yX11_pass ∈ lw_gd := gd_in (ti_6 (List.mem_of_getElem? (i := 7) rfl)) rfl
theorem lRX11_303 : Cond.methodLink RX11 303 yX11_draw ∈ lw_gd := gd_in (ti_6 (List.mem_of_getElem? (i := 25) rfl)) rfl
theorem lRX11_308 : Cond.methodLink RX11 308 yX11_drifts ∈ lw_gd := gd_in (ti_6 (List.mem_of_getElem? (i := 21) rfl)) rfl
theorem lRX11_311 : Cond.methodLink RX11 311 yX11_told ∈ lw_gd := gd_in (ti_6 (List.mem_of_getElem? (i := 33) rfl)) rfl
theorem lRX2_27 : Cond.methodLink RX2 27 yX9_copyFrom ∈ lw_gd := gd_in (ti_3 (List.mem_of_getElem? (i := 134) rfl)) rfl
theorem lRX2_31 : Cond.methodLink RX2 31 yJ9_min_7cf53 ∈ lw_gd := gd_in (ti_3 (List.mem_of_getElem? (i := 135) rfl)) rfl
theorem lRX3_24 : Cond.methodLink RX3 24 yX6_everyCrossing ∈ lw_gd := gd_in (ti_3 (List.mem_of_getElem? (i := 84) rfl)) rfl
theorem lRX3_34 : Cond.methodLink RX3 34 yX3_lookAt ∈ lw_gd := gd_in (ti_2 (List.mem_of_getElem? (i := 232) rfl)) rfl
theorem lRX3_38 : Cond.methodLink RX3 38 yX3_takeRow ∈ lw_gd := gd_in (ti_2 (List.mem_of_getElem? (i := 236) rfl)) rfl
theorem lRX3_42 : Cond.methodLink RX3 42 yX3_seeNeighbours ∈ lw_gd := gd_in (ti_3 (List.mem_of_getElem? (i := 8) rfl)) rfl
theorem lRX3_46 : Cond.methodLink RX3 46 yX3_listMoves ∈ lw_gd := gd_in (ti_3 (List.mem_of_getElem? (i := 15) rfl)) rfl
theorem lRX3_55 : Cond.methodLinkNest RX3 55 yX10_takenBy "PretzelProof" ∈ nw_all := by decide +kernel
theorem lRX3_59 : Cond.methodLink RX3 59 yX6_length ∈ lw_gd := gd_in (ti_3 (List.mem_of_getElem? (i := 0) rfl)) rfl
theorem lRX3_65 : Cond.methodLinkNest RX3 65 yX10_crossingOf "PretzelProof" ∈ nw_all := by decide +kernel
theorem lRX3_68 : Cond.methodLinkNest RX3 68 yX10_isIn "PretzelProof" ∈ nw_all := by decide +kernel
theorem lRX3_72 : Cond.methodLink RX3 72 yJ7_fill_53178 ∈ lw_gd := gd_in (ti_3 (List.mem_of_getElem? (i := 12) rfl)) rfl
theorem lRX4_22 : Cond.methodLinkNest RX4 22 yX10_isIn "PretzelProof" ∈ nw_all := by decide +kernel
theorem lRX4_26 : Cond.methodLink RX4 26 yX4_knows ∈ lw_gd := gd_in (ti_2 (List.mem_of_getElem? (i := 163) rfl)) rfl
theorem lRX5_47 : Cond.methodLink RX5 47 yX5_readBlank ∈ lw_gd := gd_in (ti_2 (List.mem_of_getElem? (i := 102) rfl)) rfl
theorem lRX5_51 : Cond.methodLink RX5 51 yX5_readLetter ∈ lw_gd := gd_in (ti_2 (List.mem_of_getElem? (i := 106) rfl)) rfl
theorem lRX5_62 : Cond.methodLink RX5 62 yX5_readStart ∈ lw_gd := gd_in (ti_2 (List.mem_of_getElem? (i := 110) rfl)) rfl
theorem lRX5_66 : Cond.methodLink RX5 66 yX5_readFirstFigure ∈ lw_gd := gd_in (ti_2 (List.mem_of_getElem? (i := 114) rfl)) rfl
theorem lRX5_69 : Cond.methodLink RX5 69 yX5_readNumber ∈ lw_gd := gd_in (ti_2 (List.mem_of_getElem? (i := 121) rfl)) rfl
theorem lRX5_72 : Cond.methodLink RX5 72 yX5_readNumbersEnd ∈ lw_gd := gd_in (ti_2 (List.mem_of_getElem? (i := 125) rfl)) rfl
theorem lRX5_75 : Cond.methodLink RX5 75 yX5_readClause ∈ lw_gd := gd_in (ti_2 (List.mem_of_getElem? (i := 129) rfl)) rfl
theorem lRX5_78 : Cond.methodLink RX5 78 yX5_readThread ∈ lw_gd := gd_in (ti_2 (List.mem_of_getElem? (i := 137) rfl)) rfl
theorem lRX5_81 : Cond.methodLink RX5 81 yX5_isFigure ∈ lw_gd := gd_in (ti_2 (List.mem_of_getElem? (i := 118) rfl)) rfl
theorem lRX5_88 : Cond.methodLink RX5 88 yX4_begin ∈ lw_gd := gd_in (ti_2 (List.mem_of_getElem? (i := 133) rfl)) rfl
theorem lRX5_97 : Cond.methodLink RX5 97 yX5_readPass ∈ lw_gd := gd_in (ti_2 (List.mem_of_getElem? (i := 141) rfl)) rfl
theorem lRX5_101 : Cond.methodLink RX5 101 yX5_readThreadsEnd ∈ lw_gd := gd_in (ti_2 (List.mem_of_getElem? (i := 164) rfl)) rfl
theorem lRX5_104 : Cond.methodLinkNest RX5 104 yX10_isIn "PretzelProof" ∈ nw_all := by decide +kernel
theorem lRX5_108 : Cond.methodLink RX5 108 yX4_knows ∈ lw_gd := gd_in (ti_2 (List.mem_of_getElem? (i := 148) rfl)) rfl
theorem lRX5_114 : Cond.methodLink RX5 114 yJ6_bitCount_0f7a4 ∈ lw_gd := gd_in (ti_2 (List.mem_of_getElem? (i := 153) rfl)) rfl
theorem lRX5_119 : Cond.methodLink RX5 119 yX4_numberOf ∈ lw_gd := gd_in (ti_2 (List.mem_of_getElem? (i := 159) rfl)) rfl
theorem lRX5_122 : Cond.methodLink RX5 122 yX9_ropeOf ∈ lw_gd := gd_in (ti_2 (List.mem_of_getElem? (i := 168) rfl)) rfl
theorem lRX5_126 : Cond.methodLink RX5 126 yX6_lay ∈ lw_gd := gd_in (ti_2 (List.mem_of_getElem? (i := 172) rfl)) rfl
theorem lRX6_23 : Cond.methodLink RX6 23 yX6_length ∈ lw_gd := gd_in (ti_3 (List.mem_of_getElem? (i := 93) rfl)) rfl
theorem lRX6_36 : Cond.methodLink RX6 36 yX6_makePlain ∈ lw_gd := gd_in (ti_2 (List.mem_of_getElem? (i := 176) rfl)) rfl
theorem lRX6_39 : Cond.methodLink RX6 39 yJ9_min_7cf53 ∈ lw_gd := gd_in (ti_2 (List.mem_of_getElem? (i := 180) rfl)) rfl
theorem lRX6_45 : Cond.methodLink RX6 45 yX4_begin ∈ lw_gd := gd_in (ti_3 (List.mem_of_getElem? (i := 145) rfl)) rfl
theorem lRX6_50 : Cond.methodLinkNest RX6 50 yX10_crossingOf "PretzelProof" ∈ nw_all := by decide +kernel
theorem lRX6_54 : Cond.methodLink RX6 54 yX4_numberOf ∈ lw_gd := gd_in (ti_3 (List.mem_of_getElem? (i := 146) rfl)) rfl
theorem lRX6_57 : Cond.methodLinkNest RX6 57 yX10_isIn "PretzelProof" ∈ nw_all := by decide +kernel
theorem lRX6_61 : Cond.methodLink RX6 61 yX6_numberAnew ∈ lw_gd := gd_in (ti_3 (List.mem_of_getElem? (i := 141) rfl)) rfl
theorem lRX7_28 : Cond.methodLink RX7 28 yX7_comesTo ∈ lw_gd := gd_in (ti_4 (List.mem_of_getElem? (i := 26) rfl)) rfl
theorem lRX7_32 : Cond.methodLink RX7 32 yX6_length ∈ lw_gd := gd_in (ti_4 (List.mem_of_getElem? (i := 30) rfl)) rfl
theorem lRX7_36 : Cond.methodLink RX7 36 yX7_goAlong ∈ lw_gd := gd_in (ti_4 (List.mem_of_getElem? (i := 31) rfl)) rfl
theorem lRX7_40 : Cond.methodLink RX7 40 yX7_compare ∈ lw_gd := gd_in (ti_4 (List.mem_of_getElem? (i := 39) rfl)) rfl
theorem lRX7_53 : Cond.methodLink RX7 53 yX4_begin ∈ lw_gd := gd_in (ti_4 (List.mem_of_getElem? (i := 35) rfl)) rfl
theorem lRX7_58 : Cond.methodLink RX7 58 yX6_passAt ∈ lw_gd := gd_in (ti_4 (List.mem_of_getElem? (i := 36) rfl)) rfl
theorem lRX7_62 : Cond.methodLinkNest RX7 62 yX10_crossingOf "PretzelProof" ∈ nw_all := by decide +kernel
theorem lRX7_65 : Cond.methodLink RX7 65 yX4_numberOf ∈ lw_gd := gd_in (ti_4 (List.mem_of_getElem? (i := 38) rfl)) rfl
theorem lRX8_18 : Cond.methodLink RX8 18 yX6_everyCrossing ∈ lw_gd := gd_in (ti_4 (List.mem_of_getElem? (i := 0) rfl)) rfl
theorem lRX8_24 : Cond.methodLink RX8 24 yJ7_fill_53178 ∈ lw_gd := gd_in (ti_4 (List.mem_of_getElem? (i := 1) rfl)) rfl
theorem lRX8_46 : Cond.methodLink RX8 46 yX8_weigh ∈ lw_gd := gd_in (ti_4 (List.mem_of_getElem? (i := 2) rfl)) rfl
theorem lRX8_53 : Cond.methodLink RX8 53 yX3_lookAt ∈ lw_gd := gd_in (ti_4 (List.mem_of_getElem? (i := 7) rfl)) rfl
theorem lRX8_59 : Cond.methodLink RX8 59 yX8_followMoves ∈ lw_gd := gd_in (ti_4 (List.mem_of_getElem? (i := 8) rfl)) rfl
theorem lRX8_66 : Cond.methodLink RX8 66 yX3_moveAt ∈ lw_gd := gd_in (ti_4 (List.mem_of_getElem? (i := 12) rfl)) rfl
theorem lRX8_70 : Cond.methodLinkNest RX8 70 yX10_takenBy "PretzelProof" ∈ nw_all := by decide +kernel
theorem lRX8_73 : Cond.methodLink RX8 73 yJ6_bitCount_0f7a4 ∈ lw_gd := gd_in (ti_4 (List.mem_of_getElem? (i := 6) rfl)) rfl
theorem lRX9_27 : Cond.methodLink RX9 27 yX6_copyFrom ∈ lw_gd := gd_in (ti_2 (List.mem_of_getElem? (i := 187) rfl)) rfl
theorem lRX9_37 : Cond.methodLink RX9 37 yJ6_bitCount_0f7a4 ∈ lw_gd := gd_in (ti_2 (List.mem_of_getElem? (i := 214) rfl)) rfl
theorem oJ6_bitCount_0f7a4 : mdok mJ6_bitCount_0f7a4 1 := ⟨gd_in (ti_2 (List.mem_of_getElem? (i := 155) rfl)) rfl, gd_in (ti_1 (List.mem_of_getElem? (i := 13) rfl)) rfl, by decide +kernel, by decide +kernel, by decide +kernel⟩
theorem vJ6_bitCount_0f7a4 : Cond.static mJ6_bitCount_0f7a4.1 ∈ lw_gd := gd_in (ti_2 (List.mem_of_getElem? (i := 154) rfl)) rfl
theorem oJ7_fill_53178 : mdok mJ7_fill_53178 2 := ⟨gd_in (ti_3 (List.mem_of_getElem? (i := 14) rfl)) rfl, gd_in (ti_1 (List.mem_of_getElem? (i := 16) rfl)) rfl, by decide +kernel, by decide +kernel, by decide +kernel⟩
theorem vJ7_fill_53178 : Cond.static mJ7_fill_53178.1 ∈ lw_gd := gd_in (ti_3 (List.mem_of_getElem? (i := 13) rfl)) rfl
theorem oJ9_max_7cf53 : mdok mJ9_max_7cf53 2 := ⟨gd_in (ti_3 (List.mem_of_getElem? (i := 41) rfl)) rfl, gd_in (ti_1 (List.mem_of_getElem? (i := 14) rfl)) rfl, by decide +kernel, by decide +kernel, by decide +kernel⟩
theorem vJ9_max_7cf53 : Cond.static mJ9_max_7cf53.1 ∈ lw_gd := gd_in (ti_3 (List.mem_of_getElem? (i := 40) rfl)) rfl
theorem oJ9_min_7cf53 : mdok mJ9_min_7cf53 2 := ⟨gd_in (ti_2 (List.mem_of_getElem? (i := 182) rfl)) rfl, gd_in (ti_1 (List.mem_of_getElem? (i := 14) rfl)) rfl, by decide +kernel, by decide +kernel, by decide +kernel⟩
theorem vJ9_min_7cf53 : Cond.static mJ9_min_7cf53.1 ∈ lw_gd := gd_in (ti_2 (List.mem_of_getElem? (i := 181) rfl)) rfl
theorem oX0_addEntry : mdok mX0_addEntry 2 := ⟨gd_in (ti_4 (List.mem_of_getElem? (i := 80) rfl)) rfl, gd_in (ti_1 (List.mem_of_getElem? (i := 7) rfl)) rfl, by decide +kernel, by decide +kernel, by decide +kernel⟩
theorem vX0_addEntry : mvok mX0_addEntry := ⟨gd_in (ti_4 (List.mem_of_getElem? (i := 78) rfl)) rfl, gd_in (ti_4 (List.mem_of_getElem? (i := 79) rfl)) rfl⟩
theorem oX0_firstWrong : mdok mX0_firstWrong 1 := ⟨gd_in (ti_4 (List.mem_of_getElem? (i := 92) rfl)) rfl, gd_in (ti_1 (List.mem_of_getElem? (i := 7) rfl)) rfl, by decide +kernel, by decide +kernel, by decide +kernel⟩
theorem vX0_firstWrong : mvok mX0_firstWrong := ⟨gd_in (ti_4 (List.mem_of_getElem? (i := 90) rfl)) rfl, gd_in (ti_4 (List.mem_of_getElem? (i := 91) rfl)) rfl⟩
theorem oX10_colour : mdok mX10_colour 2 := ⟨gd_in (ti_4 (List.mem_of_getElem? (i := 62) rfl)) rfl, gd_in (ti_1 (List.mem_of_getElem? (i := 1) rfl)) rfl, by decide +kernel, by decide +kernel, by decide +kernel⟩
theorem vX10_colour : mvok mX10_colour := ⟨gd_in (ti_4 (List.mem_of_getElem? (i := 60) rfl)) rfl, gd_in (ti_4 (List.mem_of_getElem? (i := 61) rfl)) rfl⟩
theorem oX10_crossingOf : mdok mX10_crossingOf 1 := ⟨gd_in (ti_3 (List.mem_of_getElem? (i := 6) rfl)) rfl, gd_in (ti_1 (List.mem_of_getElem? (i := 1) rfl)) rfl, by decide +kernel, by decide +kernel, by decide +kernel⟩
theorem vX10_crossingOf : Cond.static mX10_crossingOf.1 ∈ lw_gd := gd_in (ti_3 (List.mem_of_getElem? (i := 5) rfl)) rfl
theorem oX10_curl : mdok mX10_curl 3 := ⟨gd_in (ti_3 (List.mem_of_getElem? (i := 150) rfl)) rfl, gd_in (ti_1 (List.mem_of_getElem? (i := 1) rfl)) rfl, by decide +kernel, by decide +kernel, by decide +kernel⟩
theorem vX10_curl : mvok mX10_curl := ⟨gd_in (ti_3 (List.mem_of_getElem? (i := 148) rfl)) rfl, gd_in (ti_3 (List.mem_of_getElem? (i := 149) rfl)) rfl⟩
theorem oX10_curlByDraws : mdok mX10_curlByDraws 1 := ⟨gd_in (ti_3 (List.mem_of_getElem? (i := 223) rfl)) rfl, gd_in (ti_1 (List.mem_of_getElem? (i := 1) rfl)) rfl, by decide +kernel, by decide +kernel, by decide +kernel⟩
theorem vX10_curlByDraws : mvok mX10_curlByDraws := ⟨gd_in (ti_3 (List.mem_of_getElem? (i := 222) rfl)) rfl, gd_in (sel_in (n := 14) (List.mem_of_getElem? (i := 6) rfl)) rfl⟩
theorem oX10_draw : mdok mX10_draw 1 := ⟨gd_in (ti_3 (List.mem_of_getElem? (i := 209) rfl)) rfl, gd_in (ti_1 (List.mem_of_getElem? (i := 1) rfl)) rfl, by decide +kernel, by decide +kernel, by decide +kernel⟩
theorem vX10_draw : mvok mX10_draw := ⟨gd_in (ti_3 (List.mem_of_getElem? (i := 208) rfl)) rfl, gd_in (sel_in (n := 14) (List.mem_of_getElem? (i := 4) rfl)) rfl⟩
theorem oX10_drift : mdok mX10_drift 1 := ⟨gd_in (ti_3 (List.mem_of_getElem? (i := 201) rfl)) rfl, gd_in (ti_1 (List.mem_of_getElem? (i := 1) rfl)) rfl, by decide +kernel, by decide +kernel, by decide +kernel⟩
theorem vX10_drift : mvok mX10_drift := ⟨gd_in (ti_3 (List.mem_of_getElem? (i := 199) rfl)) rfl, gd_in (ti_3 (List.mem_of_getElem? (i := 200) rfl)) rfl⟩
theorem oX10_driftOnce : mdok mX10_driftOnce 0 := ⟨gd_in (ti_3 (List.mem_of_getElem? (i := 205) rfl)) rfl, gd_in (ti_1 (List.mem_of_getElem? (i := 1) rfl)) rfl, by decide +kernel, by decide +kernel, by decide +kernel⟩
theorem vX10_driftOnce : mvok mX10_driftOnce := ⟨gd_in (ti_3 (List.mem_of_getElem? (i := 204) rfl)) rfl, gd_in (sel_in (n := 14) (List.mem_of_getElem? (i := 3) rfl)) rfl⟩
theorem oX10_fault : mdok mX10_fault 0 := ⟨gd_in (ti_2 (List.mem_of_getElem? (i := 201) rfl)) rfl, gd_in (ti_1 (List.mem_of_getElem? (i := 1) rfl)) rfl, by decide +kernel, by decide +kernel, by decide +kernel⟩
theorem vX10_fault : mvok mX10_fault := ⟨gd_in (ti_2 (List.mem_of_getElem? (i := 199) rfl)) rfl, gd_in (ti_2 (List.mem_of_getElem? (i := 200) rfl)) rfl⟩
theorem oX10_feed : mdok mX10_feed 1 := ⟨gd_in (ti_2 (List.mem_of_getElem? (i := 87) rfl)) rfl, gd_in (ti_1 (List.mem_of_getElem? (i := 1) rfl)) rfl, by decide +kernel, by decide +kernel, by decide +kernel⟩
theorem vX10_feed : mvok mX10_feed := ⟨gd_in (ti_2 (List.mem_of_getElem? (i := 85) rfl)) rfl, gd_in (ti_2 (List.mem_of_getElem? (i := 86) rfl)) rfl⟩
theorem oX10_fewestSwitches : mdok mX10_fewestSwitches 1 := ⟨gd_in (ti_3 (List.mem_of_getElem? (i := 79) rfl)) rfl, gd_in (ti_1 (List.mem_of_getElem? (i := 1) rfl)) rfl, by decide +kernel, by decide +kernel, by decide +kernel⟩
theorem vX10_fewestSwitches : mvok mX10_fewestSwitches := ⟨gd_in (ti_3 (List.mem_of_getElem? (i := 78) rfl)) rfl, gd_in (sel_in (n := 14) (List.mem_of_getElem? (i := 2) rfl)) rfl⟩
theorem oX10_fewestUnsalted : mdok mX10_fewestUnsalted 1 := ⟨gd_in (ti_4 (List.mem_of_getElem? (i := 49) rfl)) rfl, gd_in (ti_1 (List.mem_of_getElem? (i := 1) rfl)) rfl, by decide +kernel, by decide +kernel, by decide +kernel⟩
theorem vX10_fewestUnsalted : mvok mX10_fewestUnsalted := ⟨gd_in (ti_4 (List.mem_of_getElem? (i := 48) rfl)) rfl, gd_in (sel_in (n := 14) (List.mem_of_getElem? (i := 7) rfl)) rfl⟩
theorem oX10_goBack : mdok mX10_goBack 1 := ⟨gd_in (ti_4 (List.mem_of_getElem? (i := 105) rfl)) rfl, gd_in (ti_1 (List.mem_of_getElem? (i := 1) rfl)) rfl, by decide +kernel, by decide +kernel, by decide +kernel⟩
theorem vX10_goBack : mvok mX10_goBack := ⟨gd_in (ti_4 (List.mem_of_getElem? (i := 103) rfl)) rfl, gd_in (ti_4 (List.mem_of_getElem? (i := 104) rfl)) rfl⟩
theorem oX10_isIn : mdok mX10_isIn 2 := ⟨gd_in (ti_2 (List.mem_of_getElem? (i := 147) rfl)) rfl, gd_in (ti_1 (List.mem_of_getElem? (i := 1) rfl)) rfl, by decide +kernel, by decide +kernel, by decide +kernel⟩
theorem vX10_isIn : Cond.static mX10_isIn.1 ∈ lw_gd := gd_in (ti_2 (List.mem_of_getElem? (i := 146) rfl)) rfl
theorem oX10_join : mdok mX10_join 2 := ⟨gd_in (ti_3 (List.mem_of_getElem? (i := 187) rfl)) rfl, gd_in (ti_1 (List.mem_of_getElem? (i := 1) rfl)) rfl, by decide +kernel, by decide +kernel, by decide +kernel⟩
theorem vX10_join : mvok mX10_join := ⟨gd_in (ti_3 (List.mem_of_getElem? (i := 185) rfl)) rfl, gd_in (ti_3 (List.mem_of_getElem? (i := 186) rfl)) rfl⟩
theorem oX10_judge : mdok mX10_judge 0 := ⟨gd_in (ti_4 (List.mem_of_getElem? (i := 88) rfl)) rfl, gd_in (ti_1 (List.mem_of_getElem? (i := 1) rfl)) rfl, by decide +kernel, by decide +kernel, by decide +kernel⟩
theorem vX10_judge : mvok mX10_judge := ⟨gd_in (ti_4 (List.mem_of_getElem? (i := 86) rfl)) rfl, gd_in (ti_4 (List.mem_of_getElem? (i := 87) rfl)) rfl⟩
theorem oX10_keep : mdok mX10_keep 1 := ⟨gd_in (ti_4 (List.mem_of_getElem? (i := 101) rfl)) rfl, gd_in (ti_1 (List.mem_of_getElem? (i := 1) rfl)) rfl, by decide +kernel, by decide +kernel, by decide +kernel⟩
theorem vX10_keep : mvok mX10_keep := ⟨gd_in (ti_4 (List.mem_of_getElem? (i := 99) rfl)) rfl, gd_in (ti_4 (List.mem_of_getElem? (i := 100) rfl)) rfl⟩
theorem oX10_leftOver : mdok mX10_leftOver 2 := ⟨gd_in (ti_3 (List.mem_of_getElem? (i := 55) rfl)) rfl, gd_in (ti_1 (List.mem_of_getElem? (i := 1) rfl)) rfl, by decide +kernel, by decide +kernel, by decide +kernel⟩
theorem vX10_leftOver : Cond.static mX10_leftOver.1 ∈ lw_gd := gd_in (ti_3 (List.mem_of_getElem? (i := 54) rfl)) rfl
theorem oX10_mirror : mdok mX10_mirror 1 := ⟨gd_in (ti_3 (List.mem_of_getElem? (i := 175) rfl)) rfl, gd_in (ti_1 (List.mem_of_getElem? (i := 1) rfl)) rfl, by decide +kernel, by decide +kernel, by decide +kernel⟩
theorem vX10_mirror : mvok mX10_mirror := ⟨gd_in (ti_3 (List.mem_of_getElem? (i := 173) rfl)) rfl, gd_in (ti_3 (List.mem_of_getElem? (i := 174) rfl)) rfl⟩
theorem oX10_moves : mdok mX10_moves 2 := ⟨gd_in (ti_3 (List.mem_of_getElem? (i := 106) rfl)) rfl, gd_in (ti_1 (List.mem_of_getElem? (i := 1) rfl)) rfl, by decide +kernel, by decide +kernel, by decide +kernel⟩
theorem vX10_moves : mvok mX10_moves := ⟨gd_in (ti_3 (List.mem_of_getElem? (i := 104) rfl)) rfl, gd_in (ti_3 (List.mem_of_getElem? (i := 105) rfl)) rfl⟩
theorem oX10_oddOnes : mdok mX10_oddOnes 1 := ⟨gd_in (ti_3 (List.mem_of_getElem? (i := 88) rfl)) rfl, gd_in (ti_1 (List.mem_of_getElem? (i := 1) rfl)) rfl, by decide +kernel, by decide +kernel, by decide +kernel⟩
theorem vX10_oddOnes : Cond.static mX10_oddOnes.1 ∈ lw_gd := gd_in (ti_3 (List.mem_of_getElem? (i := 87) rfl)) rfl
theorem oX10_pass : mdok mX10_pass 2 := ⟨gd_in (ti_3 (List.mem_of_getElem? (i := 98) rfl)) rfl, gd_in (ti_1 (List.mem_of_getElem? (i := 1) rfl)) rfl, by decide +kernel, by decide +kernel, by decide +kernel⟩
theorem vX10_pass : mvok mX10_pass := ⟨gd_in (ti_3 (List.mem_of_getElem? (i := 96) rfl)) rfl, gd_in (ti_3 (List.mem_of_getElem? (i := 97) rfl)) rfl⟩
theorem oX10_pretzel : mdok mX10_pretzel 2 := ⟨gd_in (ti_3 (List.mem_of_getElem? (i := 25) rfl)) rfl, gd_in (ti_1 (List.mem_of_getElem? (i := 1) rfl)) rfl, by decide +kernel, by decide +kernel, by decide +kernel⟩
theorem vX10_pretzel : mvok mX10_pretzel := ⟨gd_in (ti_3 (List.mem_of_getElem? (i := 23) rfl)) rfl, gd_in (ti_3 (List.mem_of_getElem? (i := 24) rfl)) rfl⟩
theorem oX10_reverse : mdok mX10_reverse 1 := ⟨gd_in (ti_3 (List.mem_of_getElem? (i := 167) rfl)) rfl, gd_in (ti_1 (List.mem_of_getElem? (i := 1) rfl)) rfl, by decide +kernel, by decide +kernel, by decide +kernel⟩
theorem vX10_reverse : mvok mX10_reverse := ⟨gd_in (ti_3 (List.mem_of_getElem? (i := 165) rfl)) rfl, gd_in (ti_3 (List.mem_of_getElem? (i := 166) rfl)) rfl⟩
theorem oX10_roll : mdok mX10_roll 1 := ⟨gd_in (ti_3 (List.mem_of_getElem? (i := 179) rfl)) rfl, gd_in (ti_1 (List.mem_of_getElem? (i := 1) rfl)) rfl, by decide +kernel, by decide +kernel, by decide +kernel⟩
theorem vX10_roll : mvok mX10_roll := ⟨gd_in (ti_3 (List.mem_of_getElem? (i := 177) rfl)) rfl, gd_in (ti_3 (List.mem_of_getElem? (i := 178) rfl)) rfl⟩
theorem oX10_salt : mdok mX10_salt 3 := ⟨gd_in (ti_3 (List.mem_of_getElem? (i := 196) rfl)) rfl, gd_in (ti_1 (List.mem_of_getElem? (i := 1) rfl)) rfl, by decide +kernel, by decide +kernel, by decide +kernel⟩
theorem vX10_salt : mvok mX10_salt := ⟨gd_in (ti_3 (List.mem_of_getElem? (i := 194) rfl)) rfl, gd_in (ti_3 (List.mem_of_getElem? (i := 195) rfl)) rfl⟩
theorem oX10_same : mdok mX10_same 2 := ⟨gd_in (ti_4 (List.mem_of_getElem? (i := 21) rfl)) rfl, gd_in (ti_1 (List.mem_of_getElem? (i := 1) rfl)) rfl, by decide +kernel, by decide +kernel, by decide +kernel⟩
theorem vX10_same : mvok mX10_same := ⟨gd_in (ti_4 (List.mem_of_getElem? (i := 19) rfl)) rfl, gd_in (ti_4 (List.mem_of_getElem? (i := 20) rfl)) rfl⟩
theorem oX10_seed : mdok mX10_seed 1 := ⟨gd_in (ti_4 (List.mem_of_getElem? (i := 97) rfl)) rfl, gd_in (ti_1 (List.mem_of_getElem? (i := 1) rfl)) rfl, by decide +kernel, by decide +kernel, by decide +kernel⟩
theorem vX10_seed : mvok mX10_seed := ⟨gd_in (ti_4 (List.mem_of_getElem? (i := 95) rfl)) rfl, gd_in (ti_4 (List.mem_of_getElem? (i := 96) rfl)) rfl⟩
theorem oX10_shake : mdok mX10_shake 3 := ⟨gd_in (ti_3 (List.mem_of_getElem? (i := 118) rfl)) rfl, gd_in (ti_1 (List.mem_of_getElem? (i := 1) rfl)) rfl, by decide +kernel, by decide +kernel, by decide +kernel⟩
theorem vX10_shake : mvok mX10_shake := ⟨gd_in (ti_3 (List.mem_of_getElem? (i := 116) rfl)) rfl, gd_in (ti_3 (List.mem_of_getElem? (i := 117) rfl)) rfl⟩
theorem oX10_shakeByFirstMove : mdok mX10_shakeByFirstMove 1 := ⟨gd_in (ti_3 (List.mem_of_getElem? (i := 218) rfl)) rfl, gd_in (ti_1 (List.mem_of_getElem? (i := 1) rfl)) rfl, by decide +kernel, by decide +kernel, by decide +kernel⟩
theorem vX10_shakeByFirstMove : mvok mX10_shakeByFirstMove := ⟨gd_in (ti_3 (List.mem_of_getElem? (i := 217) rfl)) rfl, gd_in (sel_in (n := 14) (List.mem_of_getElem? (i := 5) rfl)) rfl⟩
theorem oX10_shakenOutOnes : mdok mX10_shakenOutOnes 0 := ⟨gd_in (ti_2 (List.mem_of_getElem? (i := 222) rfl)) rfl, gd_in (ti_1 (List.mem_of_getElem? (i := 1) rfl)) rfl, by decide +kernel, by decide +kernel, by decide +kernel⟩
theorem vX10_shakenOutOnes : mvok mX10_shakenOutOnes := ⟨gd_in (ti_2 (List.mem_of_getElem? (i := 221) rfl)) rfl, gd_in (sel_in (n := 14) (List.mem_of_getElem? (i := 0) rfl)) rfl⟩
theorem oX10_takenBy : mdok mX10_takenBy 1 := ⟨gd_in (ti_3 (List.mem_of_getElem? (i := 21) rfl)) rfl, gd_in (ti_1 (List.mem_of_getElem? (i := 1) rfl)) rfl, by decide +kernel, by decide +kernel, by decide +kernel⟩
theorem vX10_takenBy : Cond.static mX10_takenBy.1 ∈ lw_gd := gd_in (ti_3 (List.mem_of_getElem? (i := 20) rfl)) rfl
theorem oX10_tear : mdok mX10_tear 0 := ⟨gd_in (ti_4 (List.mem_of_getElem? (i := 84) rfl)) rfl, gd_in (ti_1 (List.mem_of_getElem? (i := 1) rfl)) rfl, by decide +kernel, by decide +kernel, by decide +kernel⟩
theorem vX10_tear : mvok mX10_tear := ⟨gd_in (ti_4 (List.mem_of_getElem? (i := 82) rfl)) rfl, gd_in (ti_4 (List.mem_of_getElem? (i := 83) rfl)) rfl⟩
theorem oX10_tells : mdok mX10_tells 2 := ⟨gd_in (ti_4 (List.mem_of_getElem? (i := 45) rfl)) rfl, gd_in (ti_1 (List.mem_of_getElem? (i := 1) rfl)) rfl, by decide +kernel, by decide +kernel, by decide +kernel⟩
theorem vX10_tells : mvok mX10_tells := ⟨gd_in (ti_4 (List.mem_of_getElem? (i := 43) rfl)) rfl, gd_in (ti_4 (List.mem_of_getElem? (i := 44) rfl)) rfl⟩
theorem oX10_toShake : mdok mX10_toShake 2 := ⟨gd_in (ti_3 (List.mem_of_getElem? (i := 235) rfl)) rfl, gd_in (ti_1 (List.mem_of_getElem? (i := 1) rfl)) rfl, by decide +kernel, by decide +kernel, by decide +kernel⟩
theorem vX10_toShake : mvok mX10_toShake := ⟨gd_in (ti_3 (List.mem_of_getElem? (i := 233) rfl)) rfl, gd_in (ti_3 (List.mem_of_getElem? (i := 234) rfl)) rfl⟩
theorem oX10_told : mdok mX10_told 1 := ⟨gd_in (ti_2 (List.mem_of_getElem? (i := 205) rfl)) rfl, gd_in (ti_1 (List.mem_of_getElem? (i := 1) rfl)) rfl, by decide +kernel, by decide +kernel, by decide +kernel⟩
theorem vX10_told : mvok mX10_told := ⟨gd_in (ti_2 (List.mem_of_getElem? (i := 203) rfl)) rfl, gd_in (ti_2 (List.mem_of_getElem? (i := 204) rfl)) rfl⟩
theorem oX10_tray : mdok mX10_tray 0 := ⟨gd_in (ti_2 (List.mem_of_getElem? (i := 97) rfl)) rfl, gd_in (ti_1 (List.mem_of_getElem? (i := 1) rfl)) rfl, by decide +kernel, by decide +kernel, by decide +kernel⟩
theorem vX10_tray : mvok mX10_tray := ⟨gd_in (ti_2 (List.mem_of_getElem? (i := 95) rfl)) rfl, gd_in (ti_2 (List.mem_of_getElem? (i := 96) rfl)) rfl⟩
theorem oX10_turn : mdok mX10_turn 2 := ⟨gd_in (ti_3 (List.mem_of_getElem? (i := 159) rfl)) rfl, gd_in (ti_1 (List.mem_of_getElem? (i := 1) rfl)) rfl, by decide +kernel, by decide +kernel, by decide +kernel⟩
theorem vX10_turn : mvok mX10_turn := ⟨gd_in (ti_3 (List.mem_of_getElem? (i := 157) rfl)) rfl, gd_in (ti_3 (List.mem_of_getElem? (i := 158) rfl)) rfl⟩
theorem oX10_undo : mdok mX10_undo 0 := ⟨gd_in (ti_3 (List.mem_of_getElem? (i := 227) rfl)) rfl, gd_in (ti_1 (List.mem_of_getElem? (i := 1) rfl)) rfl, by decide +kernel, by decide +kernel, by decide +kernel⟩
theorem vX10_undo : mvok mX10_undo := ⟨gd_in (ti_3 (List.mem_of_getElem? (i := 225) rfl)) rfl, gd_in (ti_3 (List.mem_of_getElem? (i := 226) rfl)) rfl⟩
theorem oX10_weakOnes : mdok mX10_weakOnes 1 := ⟨gd_in (ti_3 (List.mem_of_getElem? (i := 75) rfl)) rfl, gd_in (ti_1 (List.mem_of_getElem? (i := 1) rfl)) rfl, by decide +kernel, by decide +kernel, by decide +kernel⟩
theorem vX10_weakOnes : mvok mX10_weakOnes := ⟨gd_in (ti_3 (List.mem_of_getElem? (i := 74) rfl)) rfl, gd_in (sel_in (n := 14) (List.mem_of_getElem? (i := 1) rfl)) rfl⟩
theorem oX10_whole : mdok mX10_whole 2 := ⟨gd_in (ti_4 (List.mem_of_getElem? (i := 70) rfl)) rfl, gd_in (ti_1 (List.mem_of_getElem? (i := 1) rfl)) rfl, by decide +kernel, by decide +kernel, by decide +kernel⟩
theorem vX10_whole : mvok mX10_whole := ⟨gd_in (ti_4 (List.mem_of_getElem? (i := 68) rfl)) rfl, gd_in (ti_4 (List.mem_of_getElem? (i := 69) rfl)) rfl⟩
theorem oX10_within : mdok mX10_within 2 := ⟨gd_in (ti_4 (List.mem_of_getElem? (i := 17) rfl)) rfl, gd_in (ti_1 (List.mem_of_getElem? (i := 1) rfl)) rfl, by decide +kernel, by decide +kernel, by decide +kernel⟩
theorem vX10_within : mvok mX10_within := ⟨gd_in (ti_4 (List.mem_of_getElem? (i := 15) rfl)) rfl, gd_in (ti_4 (List.mem_of_getElem? (i := 16) rfl)) rfl⟩
theorem oX10_words : mdok mX10_words 2 := ⟨gd_in (ti_4 (List.mem_of_getElem? (i := 53) rfl)) rfl, gd_in (ti_1 (List.mem_of_getElem? (i := 1) rfl)) rfl, by decide +kernel, by decide +kernel, by decide +kernel⟩
theorem vX10_words : mvok mX10_words := ⟨gd_in (ti_4 (List.mem_of_getElem? (i := 51) rfl)) rfl, gd_in (ti_4 (List.mem_of_getElem? (i := 52) rfl)) rfl⟩
theorem oX10_write : mdok mX10_write 2 := ⟨gd_in (ti_4 (List.mem_of_getElem? (i := 76) rfl)) rfl, gd_in (ti_1 (List.mem_of_getElem? (i := 1) rfl)) rfl, by decide +kernel, by decide +kernel, by decide +kernel⟩
theorem vX10_write : mvok mX10_write := ⟨gd_in (ti_4 (List.mem_of_getElem? (i := 74) rfl)) rfl, gd_in (ti_4 (List.mem_of_getElem? (i := 75) rfl)) rfl⟩
theorem oX11_base : mdok mX11_base 1 := ⟨gd_in (ti_5 (List.mem_of_getElem? (i := 40) rfl)) rfl, gd_in (ti_1 (List.mem_of_getElem? (i := 12) rfl)) rfl, by decide +kernel, by decide +kernel, by decide +kernel⟩
theorem vX11_base : mvok mX11_base := ⟨gd_in (ti_5 (List.mem_of_getElem? (i := 39) rfl)) rfl, gd_in (sel_in (n := 35) (List.mem_of_getElem? (i := 16) rfl)) rfl⟩
theorem oX11_bits : mdok mX11_bits 1 := ⟨gd_in (ti_5 (List.mem_of_getElem? (i := 100) rfl)) rfl, gd_in (ti_1 (List.mem_of_getElem? (i := 12) rfl)) rfl, by decide +kernel, by decide +kernel, by decide +kernel⟩
theorem vX11_bits : Cond.static mX11_bits.1 ∈ lw_gd := gd_in (ti_5 (List.mem_of_getElem? (i := 99) rfl)) rfl
theorem oX11_blames : mdok mX11_blames 2 := ⟨gd_in (ti_5 (List.mem_of_getElem? (i := 4) rfl)) rfl, gd_in (ti_1 (List.mem_of_getElem? (i := 12) rfl)) rfl, by decide +kernel, by decide +kernel, by decide +kernel⟩
theorem vX11_blames : mvok mX11_blames := ⟨gd_in (ti_5 (List.mem_of_getElem? (i := 3) rfl)) rfl, gd_in (sel_in (n := 35) (List.mem_of_getElem? (i := 10) rfl)) rfl⟩
theorem oX11_clears : mdok mX11_clears 4 := ⟨gd_in (ti_5 (List.mem_of_getElem? (i := 141) rfl)) rfl, gd_in (ti_1 (List.mem_of_getElem? (i := 12) rfl)) rfl, by decide +kernel, by decide +kernel, by decide +kernel⟩
theorem vX11_clears : mvok mX11_clears := ⟨gd_in (ti_5 (List.mem_of_getElem? (i := 140) rfl)) rfl, gd_in (sel_in (n := 35) (List.mem_of_getElem? (i := 32) rfl)) rfl⟩
theorem oX11_colour : mdok mX11_colour 2 := ⟨gd_in (ti_5 (List.mem_of_getElem? (i := 104) rfl)) rfl, gd_in (ti_1 (List.mem_of_getElem? (i := 12) rfl)) rfl, by decide +kernel, by decide +kernel, by decide +kernel⟩
theorem vX11_colour : mvok mX11_colour := ⟨gd_in (ti_5 (List.mem_of_getElem? (i := 102) rfl)) rfl, gd_in (ti_5 (List.mem_of_getElem? (i := 103) rfl)) rfl⟩
theorem oX11_colours : mdok mX11_colours 1 := ⟨gd_in (ti_5 (List.mem_of_getElem? (i := 133) rfl)) rfl, gd_in (ti_1 (List.mem_of_getElem? (i := 12) rfl)) rfl, by decide +kernel, by decide +kernel, by decide +kernel⟩
theorem vX11_colours : mvok mX11_colours := ⟨gd_in (ti_5 (List.mem_of_getElem? (i := 132) rfl)) rfl, gd_in (sel_in (n := 35) (List.mem_of_getElem? (i := 30) rfl)) rfl⟩
theorem oX11_comesTo : mdok mX11_comesTo 3 := ⟨gd_in (ti_5 (List.mem_of_getElem? (i := 97) rfl)) rfl, gd_in (ti_1 (List.mem_of_getElem? (i := 12) rfl)) rfl, by decide +kernel, by decide +kernel, by decide +kernel⟩
theorem vX11_comesTo : mvok mX11_comesTo := ⟨gd_in (ti_5 (List.mem_of_getElem? (i := 96) rfl)) rfl, gd_in (sel_in (n := 35) (List.mem_of_getElem? (i := 26) rfl)) rfl⟩
theorem oX11_copies : mdok mX11_copies 2 := ⟨gd_in (ti_5 (List.mem_of_getElem? (i := 214) rfl)) rfl, gd_in (ti_1 (List.mem_of_getElem? (i := 12) rfl)) rfl, by decide +kernel, by decide +kernel, by decide +kernel⟩
theorem vX11_copies : mvok mX11_copies := ⟨gd_in (ti_5 (List.mem_of_getElem? (i := 213) rfl)) rfl, gd_in (sel_in (n := 35) (List.mem_of_getElem? (i := 44) rfl)) rfl⟩
theorem oX11_crossings : mdok mX11_crossings 1 := ⟨gd_in (ti_5 (List.mem_of_getElem? (i := 108) rfl)) rfl, gd_in (ti_1 (List.mem_of_getElem? (i := 12) rfl)) rfl, by decide +kernel, by decide +kernel, by decide +kernel⟩
theorem vX11_crossings : mvok mX11_crossings := ⟨gd_in (ti_5 (List.mem_of_getElem? (i := 107) rfl)) rfl, gd_in (sel_in (n := 35) (List.mem_of_getElem? (i := 27) rfl)) rfl⟩
theorem oX11_curl : mdok mX11_curl 3 := ⟨gd_in (ti_5 (List.mem_of_getElem? (i := 222) rfl)) rfl, gd_in (ti_1 (List.mem_of_getElem? (i := 12) rfl)) rfl, by decide +kernel, by decide +kernel, by decide +kernel⟩
theorem vX11_curl : mvok mX11_curl := ⟨gd_in (ti_5 (List.mem_of_getElem? (i := 220) rfl)) rfl, gd_in (ti_5 (List.mem_of_getElem? (i := 221) rfl)) rfl⟩
theorem oX11_curls : mdok mX11_curls 3 := ⟨gd_in (ti_5 (List.mem_of_getElem? (i := 226) rfl)) rfl, gd_in (ti_1 (List.mem_of_getElem? (i := 12) rfl)) rfl, by decide +kernel, by decide +kernel, by decide +kernel⟩
theorem vX11_curls : mvok mX11_curls := ⟨gd_in (ti_5 (List.mem_of_getElem? (i := 225) rfl)) rfl, gd_in (sel_in (n := 35) (List.mem_of_getElem? (i := 46) rfl)) rfl⟩
theorem oX11_draw : mdok mX11_draw 1 := ⟨gd_in (ti_6 (List.mem_of_getElem? (i := 28) rfl)) rfl, gd_in (ti_1 (List.mem_of_getElem? (i := 12) rfl)) rfl, by decide +kernel, by decide +kernel, by decide +kernel⟩
theorem vX11_draw : mvok mX11_draw := ⟨gd_in (ti_6 (List.mem_of_getElem? (i := 27) rfl)) rfl, gd_in (sel_in (n := 35) (List.mem_of_getElem? (i := 49) rfl)) rfl⟩
theorem oX11_drift : mdok mX11_drift 1 := ⟨gd_in (ti_6 (List.mem_of_getElem? (i := 19) rfl)) rfl, gd_in (ti_1 (List.mem_of_getElem? (i := 12) rfl)) rfl, by decide +kernel, by decide +kernel, by decide +kernel⟩
theorem vX11_drift : mvok mX11_drift := ⟨gd_in (ti_6 (List.mem_of_getElem? (i := 17) rfl)) rfl, gd_in (ti_6 (List.mem_of_getElem? (i := 18) rfl)) rfl⟩
theorem oX11_drifts : mdok mX11_drifts 0 := ⟨gd_in (ti_6 (List.mem_of_getElem? (i := 24) rfl)) rfl, gd_in (ti_1 (List.mem_of_getElem? (i := 12) rfl)) rfl, by decide +kernel, by decide +kernel, by decide +kernel⟩
theorem vX11_drifts : mvok mX11_drifts := ⟨gd_in (ti_6 (List.mem_of_getElem? (i := 23) rfl)) rfl, gd_in (sel_in (n := 35) (List.mem_of_getElem? (i := 48) rfl)) rfl⟩
theorem oX11_drops : mdok mX11_drops 1 := ⟨gd_in (ti_5 (List.mem_of_getElem? (i := 218) rfl)) rfl, gd_in (ti_1 (List.mem_of_getElem? (i := 12) rfl)) rfl, by decide +kernel, by decide +kernel, by decide +kernel⟩
theorem vX11_drops : mvok mX11_drops := ⟨gd_in (ti_5 (List.mem_of_getElem? (i := 217) rfl)) rfl, gd_in (sel_in (n := 35) (List.mem_of_getElem? (i := 45) rfl)) rfl⟩
theorem oX11_ends : mdok mX11_ends 0 := ⟨gd_in (ti_5 (List.mem_of_getElem? (i := 14) rfl)) rfl, gd_in (ti_1 (List.mem_of_getElem? (i := 12) rfl)) rfl, by decide +kernel, by decide +kernel, by decide +kernel⟩
theorem vX11_ends : mvok mX11_ends := ⟨gd_in (ti_5 (List.mem_of_getElem? (i := 13) rfl)) rfl, gd_in (sel_in (n := 35) (List.mem_of_getElem? (i := 12) rfl)) rfl⟩
theorem oX11_fault : mdok mX11_fault 0 := ⟨gd_in (ti_5 (List.mem_of_getElem? (i := 44) rfl)) rfl, gd_in (ti_1 (List.mem_of_getElem? (i := 12) rfl)) rfl, by decide +kernel, by decide +kernel, by decide +kernel⟩
theorem vX11_fault : mvok mX11_fault := ⟨gd_in (ti_5 (List.mem_of_getElem? (i := 42) rfl)) rfl, gd_in (ti_5 (List.mem_of_getElem? (i := 43) rfl)) rfl⟩
theorem oX11_feed : mdok mX11_feed 1 := ⟨gd_in (ti_4 (List.mem_of_getElem? (i := 222) rfl)) rfl, gd_in (ti_1 (List.mem_of_getElem? (i := 12) rfl)) rfl, by decide +kernel, by decide +kernel, by decide +kernel⟩
theorem vX11_feed : mvok mX11_feed := ⟨gd_in (ti_4 (List.mem_of_getElem? (i := 220) rfl)) rfl, gd_in (ti_4 (List.mem_of_getElem? (i := 221) rfl)) rfl⟩
theorem oX11_goBack : mdok mX11_goBack 1 := ⟨gd_in (ti_6 (List.mem_of_getElem? (i := 68) rfl)) rfl, gd_in (ti_1 (List.mem_of_getElem? (i := 12) rfl)) rfl, by decide +kernel, by decide +kernel, by decide +kernel⟩
theorem vX11_goBack : mvok mX11_goBack := ⟨gd_in (ti_6 (List.mem_of_getElem? (i := 66) rfl)) rfl, gd_in (ti_6 (List.mem_of_getElem? (i := 67) rfl)) rfl⟩
theorem oX11_grains : mdok mX11_grains 0 := ⟨gd_in (ti_5 (List.mem_of_getElem? (i := 8) rfl)) rfl, gd_in (ti_1 (List.mem_of_getElem? (i := 12) rfl)) rfl, by decide +kernel, by decide +kernel, by decide +kernel⟩
theorem vX11_grains : mvok mX11_grains := ⟨gd_in (ti_5 (List.mem_of_getElem? (i := 7) rfl)) rfl, gd_in (sel_in (n := 35) (List.mem_of_getElem? (i := 11) rfl)) rfl⟩
theorem oX11_has : mdok mX11_has 2 := ⟨gd_in (ti_5 (List.mem_of_getElem? (i := 36) rfl)) rfl, gd_in (ti_1 (List.mem_of_getElem? (i := 12) rfl)) rfl, by decide +kernel, by decide +kernel, by decide +kernel⟩
theorem vX11_has : Cond.static mX11_has.1 ∈ lw_gd := gd_in (ti_5 (List.mem_of_getElem? (i := 35) rfl)) rfl
theorem oX11_in : mdok mX11_in 3 := ⟨gd_in (ti_4 (List.mem_of_getElem? (i := 226) rfl)) rfl, gd_in (ti_1 (List.mem_of_getElem? (i := 12) rfl)) rfl, by decide +kernel, by decide +kernel, by decide +kernel⟩
theorem vX11_in : Cond.static mX11_in.1 ∈ lw_gd := gd_in (ti_4 (List.mem_of_getElem? (i := 225) rfl)) rfl
theorem oX11_inside : mdok mX11_inside 1 := ⟨gd_in (ti_5 (List.mem_of_getElem? (i := 165) rfl)) rfl, gd_in (ti_1 (List.mem_of_getElem? (i := 12) rfl)) rfl, by decide +kernel, by decide +kernel, by decide +kernel⟩
theorem vX11_inside : mvok mX11_inside := ⟨gd_in (ti_5 (List.mem_of_getElem? (i := 164) rfl)) rfl, gd_in (sel_in (n := 35) (List.mem_of_getElem? (i := 38) rfl)) rfl⟩
theorem oX11_isBeside : mdok mX11_isBeside 2 := ⟨gd_in (ti_5 (List.mem_of_getElem? (i := 77) rfl)) rfl, gd_in (ti_1 (List.mem_of_getElem? (i := 12) rfl)) rfl, by decide +kernel, by decide +kernel, by decide +kernel⟩
theorem vX11_isBeside : mvok mX11_isBeside := ⟨gd_in (ti_5 (List.mem_of_getElem? (i := 76) rfl)) rfl, gd_in (sel_in (n := 35) (List.mem_of_getElem? (i := 23) rfl)) rfl⟩
theorem oX11_isCrossing : mdok mX11_isCrossing 2 := ⟨gd_in (ti_5 (List.mem_of_getElem? (i := 177) rfl)) rfl, gd_in (ti_1 (List.mem_of_getElem? (i := 12) rfl)) rfl, by decide +kernel, by decide +kernel, by decide +kernel⟩
theorem vX11_isCrossing : mvok mX11_isCrossing := ⟨gd_in (ti_5 (List.mem_of_getElem? (i := 176) rfl)) rfl, gd_in (sel_in (n := 35) (List.mem_of_getElem? (i := 39) rfl)) rfl⟩
theorem oX11_isMove : mdok mX11_isMove 4 := ⟨gd_in (ti_5 (List.mem_of_getElem? (i := 73) rfl)) rfl, gd_in (ti_1 (List.mem_of_getElem? (i := 12) rfl)) rfl, by decide +kernel, by decide +kernel, by decide +kernel⟩
theorem vX11_isMove : mvok mX11_isMove := ⟨gd_in (ti_5 (List.mem_of_getElem? (i := 72) rfl)) rfl, gd_in (sel_in (n := 35) (List.mem_of_getElem? (i := 22) rfl)) rfl⟩
theorem oX11_isOne : mdok mX11_isOne 1 := ⟨gd_in (ti_5 (List.mem_of_getElem? (i := 52) rfl)) rfl, gd_in (ti_1 (List.mem_of_getElem? (i := 12) rfl)) rfl, by decide +kernel, by decide +kernel, by decide +kernel⟩
theorem vX11_isOne : mvok mX11_isOne := ⟨gd_in (ti_5 (List.mem_of_getElem? (i := 51) rfl)) rfl, gd_in (sel_in (n := 35) (List.mem_of_getElem? (i := 17) rfl)) rfl⟩
theorem oX11_isOut : mdok mX11_isOut 1 := ⟨gd_in (ti_5 (List.mem_of_getElem? (i := 149) rfl)) rfl, gd_in (ti_1 (List.mem_of_getElem? (i := 12) rfl)) rfl, by decide +kernel, by decide +kernel, by decide +kernel⟩
theorem vX11_isOut : mvok mX11_isOut := ⟨gd_in (ti_5 (List.mem_of_getElem? (i := 148) rfl)) rfl, gd_in (sel_in (n := 35) (List.mem_of_getElem? (i := 34) rfl)) rfl⟩
theorem oX11_isSame : mdok mX11_isSame 1 := ⟨gd_in (ti_5 (List.mem_of_getElem? (i := 193) rfl)) rfl, gd_in (ti_1 (List.mem_of_getElem? (i := 12) rfl)) rfl, by decide +kernel, by decide +kernel, by decide +kernel⟩
theorem vX11_isSame : mvok mX11_isSame := ⟨gd_in (ti_5 (List.mem_of_getElem? (i := 192) rfl)) rfl, gd_in (sel_in (n := 35) (List.mem_of_getElem? (i := 42) rfl)) rfl⟩
theorem oX11_isTwo : mdok mX11_isTwo 2 := ⟨gd_in (ti_5 (List.mem_of_getElem? (i := 185) rfl)) rfl, gd_in (ti_1 (List.mem_of_getElem? (i := 12) rfl)) rfl, by decide +kernel, by decide +kernel, by decide +kernel⟩
theorem vX11_isTwo : mvok mX11_isTwo := ⟨gd_in (ti_5 (List.mem_of_getElem? (i := 184) rfl)) rfl, gd_in (sel_in (n := 35) (List.mem_of_getElem? (i := 40) rfl)) rfl⟩
theorem oX11_isWay : mdok mX11_isWay 1 := ⟨gd_in (ti_5 (List.mem_of_getElem? (i := 116) rfl)) rfl, gd_in (ti_1 (List.mem_of_getElem? (i := 12) rfl)) rfl, by decide +kernel, by decide +kernel, by decide +kernel⟩
theorem vX11_isWay : mvok mX11_isWay := ⟨gd_in (ti_5 (List.mem_of_getElem? (i := 115) rfl)) rfl, gd_in (sel_in (n := 35) (List.mem_of_getElem? (i := 29) rfl)) rfl⟩
theorem oX11_join : mdok mX11_join 2 := ⟨gd_in (ti_6 (List.mem_of_getElem? (i := 11) rfl)) rfl, gd_in (ti_1 (List.mem_of_getElem? (i := 12) rfl)) rfl, by decide +kernel, by decide +kernel, by decide +kernel⟩
theorem vX11_join : mvok mX11_join := ⟨gd_in (ti_6 (List.mem_of_getElem? (i := 9) rfl)) rfl, gd_in (ti_6 (List.mem_of_getElem? (i := 10) rfl)) rfl⟩
theorem oX11_judge : mdok mX11_judge 0 := ⟨gd_in (ti_6 (List.mem_of_getElem? (i := 56) rfl)) rfl, gd_in (ti_1 (List.mem_of_getElem? (i := 12) rfl)) rfl, by decide +kernel, by decide +kernel, by decide +kernel⟩
theorem vX11_judge : mvok mX11_judge := ⟨gd_in (ti_6 (List.mem_of_getElem? (i := 54) rfl)) rfl, gd_in (ti_6 (List.mem_of_getElem? (i := 55) rfl)) rfl⟩
theorem oX11_keep : mdok mX11_keep 1 := ⟨gd_in (ti_6 (List.mem_of_getElem? (i := 64) rfl)) rfl, gd_in (ti_1 (List.mem_of_getElem? (i := 12) rfl)) rfl, by decide +kernel, by decide +kernel, by decide +kernel⟩
theorem vX11_keep : mvok mX11_keep := ⟨gd_in (ti_6 (List.mem_of_getElem? (i := 62) rfl)) rfl, gd_in (ti_6 (List.mem_of_getElem? (i := 63) rfl)) rfl⟩
theorem oX11_known : mdok mX11_known 0 := ⟨gd_in (ti_5 (List.mem_of_getElem? (i := 210) rfl)) rfl, gd_in (ti_1 (List.mem_of_getElem? (i := 12) rfl)) rfl, by decide +kernel, by decide +kernel, by decide +kernel⟩
theorem vX11_known : mvok mX11_known := ⟨gd_in (ti_5 (List.mem_of_getElem? (i := 209) rfl)) rfl, gd_in (sel_in (n := 35) (List.mem_of_getElem? (i := 43) rfl)) rfl⟩
theorem oX11_leaves : mdok mX11_leaves 1 := ⟨gd_in (ti_5 (List.mem_of_getElem? (i := 69) rfl)) rfl, gd_in (ti_1 (List.mem_of_getElem? (i := 12) rfl)) rfl, by decide +kernel, by decide +kernel, by decide +kernel⟩
theorem vX11_leaves : mvok mX11_leaves := ⟨gd_in (ti_5 (List.mem_of_getElem? (i := 68) rfl)) rfl, gd_in (sel_in (n := 35) (List.mem_of_getElem? (i := 21) rfl)) rfl⟩
theorem oX11_left : mdok mX11_left 2 := ⟨gd_in (ti_5 (List.mem_of_getElem? (i := 119) rfl)) rfl, gd_in (ti_1 (List.mem_of_getElem? (i := 12) rfl)) rfl, by decide +kernel, by decide +kernel, by decide +kernel⟩
theorem vX11_left : Cond.static mX11_left.1 ∈ lw_gd := gd_in (ti_5 (List.mem_of_getElem? (i := 118) rfl)) rfl
theorem oX11_loads : mdok mX11_loads 1 := ⟨gd_in (ti_5 (List.mem_of_getElem? (i := 57) rfl)) rfl, gd_in (ti_1 (List.mem_of_getElem? (i := 12) rfl)) rfl, by decide +kernel, by decide +kernel, by decide +kernel⟩
theorem vX11_loads : mvok mX11_loads := ⟨gd_in (ti_5 (List.mem_of_getElem? (i := 56) rfl)) rfl, gd_in (sel_in (n := 35) (List.mem_of_getElem? (i := 18) rfl)) rfl⟩
theorem oX11_mirror : mdok mX11_mirror 1 := ⟨gd_in (ti_5 (List.mem_of_getElem? (i := 238) rfl)) rfl, gd_in (ti_1 (List.mem_of_getElem? (i := 12) rfl)) rfl, by decide +kernel, by decide +kernel, by decide +kernel⟩
theorem vX11_mirror : mvok mX11_mirror := ⟨gd_in (ti_5 (List.mem_of_getElem? (i := 236) rfl)) rfl, gd_in (ti_5 (List.mem_of_getElem? (i := 237) rfl)) rfl⟩
theorem oX11_moveOf : mdok mX11_moveOf 1 := ⟨gd_in (ti_5 (List.mem_of_getElem? (i := 65) rfl)) rfl, gd_in (ti_1 (List.mem_of_getElem? (i := 12) rfl)) rfl, by decide +kernel, by decide +kernel, by decide +kernel⟩
theorem vX11_moveOf : mvok mX11_moveOf := ⟨gd_in (ti_5 (List.mem_of_getElem? (i := 64) rfl)) rfl, gd_in (sel_in (n := 35) (List.mem_of_getElem? (i := 20) rfl)) rfl⟩
theorem oX11_moves : mdok mX11_moves 2 := ⟨gd_in (ti_5 (List.mem_of_getElem? (i := 48) rfl)) rfl, gd_in (ti_1 (List.mem_of_getElem? (i := 12) rfl)) rfl, by decide +kernel, by decide +kernel, by decide +kernel⟩
theorem vX11_moves : mvok mX11_moves := ⟨gd_in (ti_5 (List.mem_of_getElem? (i := 46) rfl)) rfl, gd_in (ti_5 (List.mem_of_getElem? (i := 47) rfl)) rfl⟩
theorem oX11_nameOf : mdok mX11_nameOf 1 := ⟨gd_in (ti_5 (List.mem_of_getElem? (i := 21) rfl)) rfl, gd_in (ti_1 (List.mem_of_getElem? (i := 12) rfl)) rfl, by decide +kernel, by decide +kernel, by decide +kernel⟩
theorem vX11_nameOf : Cond.static mX11_nameOf.1 ∈ lw_gd := gd_in (ti_5 (List.mem_of_getElem? (i := 20) rfl)) rfl
theorem oX11_next : mdok mX11_next 0 := ⟨gd_in (ti_5 (List.mem_of_getElem? (i := 0) rfl)) rfl, gd_in (ti_1 (List.mem_of_getElem? (i := 12) rfl)) rfl, by decide +kernel, by decide +kernel, by decide +kernel⟩
theorem vX11_next : mvok mX11_next := ⟨gd_in (ti_4 (List.mem_of_getElem? (i := 239) rfl)) rfl, gd_in (sel_in (n := 35) (List.mem_of_getElem? (i := 9) rfl)) rfl⟩
theorem oX11_numbers : mdok mX11_numbers 1 := ⟨gd_in (ti_5 (List.mem_of_getElem? (i := 33) rfl)) rfl, gd_in (ti_1 (List.mem_of_getElem? (i := 12) rfl)) rfl, by decide +kernel, by decide +kernel, by decide +kernel⟩
theorem vX11_numbers : mvok mX11_numbers := ⟨gd_in (ti_5 (List.mem_of_getElem? (i := 32) rfl)) rfl, gd_in (sel_in (n := 35) (List.mem_of_getElem? (i := 15) rfl)) rfl⟩
theorem oX11_odd : mdok mX11_odd 0 := ⟨gd_in (ti_5 (List.mem_of_getElem? (i := 161) rfl)) rfl, gd_in (ti_1 (List.mem_of_getElem? (i := 12) rfl)) rfl, by decide +kernel, by decide +kernel, by decide +kernel⟩
theorem vX11_odd : mvok mX11_odd := ⟨gd_in (ti_5 (List.mem_of_getElem? (i := 160) rfl)) rfl, gd_in (sel_in (n := 35) (List.mem_of_getElem? (i := 37) rfl)) rfl⟩
theorem oX11_parts : mdok mX11_parts 0 := ⟨gd_in (ti_5 (List.mem_of_getElem? (i := 112) rfl)) rfl, gd_in (ti_1 (List.mem_of_getElem? (i := 12) rfl)) rfl, by decide +kernel, by decide +kernel, by decide +kernel⟩
theorem vX11_parts : mvok mX11_parts := ⟨gd_in (ti_5 (List.mem_of_getElem? (i := 111) rfl)) rfl, gd_in (sel_in (n := 35) (List.mem_of_getElem? (i := 28) rfl)) rfl⟩
theorem oX11_pass : mdok mX11_pass 2 := ⟨gd_in (ti_5 (List.mem_of_getElem? (i := 169) rfl)) rfl, gd_in (ti_1 (List.mem_of_getElem? (i := 12) rfl)) rfl, by decide +kernel, by decide +kernel, by decide +kernel⟩
theorem vX11_pass : mvok mX11_pass := ⟨gd_in (ti_5 (List.mem_of_getElem? (i := 167) rfl)) rfl, gd_in (ti_5 (List.mem_of_getElem? (i := 168) rfl)) rfl⟩
theorem oX11_passes : mdok mX11_passes 1 := ⟨gd_in (ti_5 (List.mem_of_getElem? (i := 61) rfl)) rfl, gd_in (ti_1 (List.mem_of_getElem? (i := 12) rfl)) rfl, by decide +kernel, by decide +kernel, by decide +kernel⟩
theorem vX11_passes : mvok mX11_passes := ⟨gd_in (ti_5 (List.mem_of_getElem? (i := 60) rfl)) rfl, gd_in (sel_in (n := 35) (List.mem_of_getElem? (i := 19) rfl)) rfl⟩
theorem oX11_pretzel : mdok mX11_pretzel 2 := ⟨gd_in (ti_5 (List.mem_of_getElem? (i := 128) rfl)) rfl, gd_in (ti_1 (List.mem_of_getElem? (i := 12) rfl)) rfl, by decide +kernel, by decide +kernel, by decide +kernel⟩
theorem vX11_pretzel : mvok mX11_pretzel := ⟨gd_in (ti_5 (List.mem_of_getElem? (i := 126) rfl)) rfl, gd_in (ti_5 (List.mem_of_getElem? (i := 127) rfl)) rfl⟩
theorem oX11_reads : mdok mX11_reads 0 := ⟨gd_in (ti_4 (List.mem_of_getElem? (i := 236) rfl)) rfl, gd_in (ti_1 (List.mem_of_getElem? (i := 12) rfl)) rfl, by decide +kernel, by decide +kernel, by decide +kernel⟩
theorem vX11_reads : mvok mX11_reads := ⟨gd_in (ti_4 (List.mem_of_getElem? (i := 235) rfl)) rfl, gd_in (sel_in (n := 35) (List.mem_of_getElem? (i := 8) rfl)) rfl⟩
theorem oX11_reverse : mdok mX11_reverse 1 := ⟨gd_in (ti_5 (List.mem_of_getElem? (i := 234) rfl)) rfl, gd_in (ti_1 (List.mem_of_getElem? (i := 12) rfl)) rfl, by decide +kernel, by decide +kernel, by decide +kernel⟩
theorem vX11_reverse : mvok mX11_reverse := ⟨gd_in (ti_5 (List.mem_of_getElem? (i := 232) rfl)) rfl, gd_in (ti_5 (List.mem_of_getElem? (i := 233) rfl)) rfl⟩
theorem oX11_reverses : mdok mX11_reverses 0 := ⟨gd_in (ti_5 (List.mem_of_getElem? (i := 189) rfl)) rfl, gd_in (ti_1 (List.mem_of_getElem? (i := 12) rfl)) rfl, by decide +kernel, by decide +kernel, by decide +kernel⟩
theorem vX11_reverses : mvok mX11_reverses := ⟨gd_in (ti_5 (List.mem_of_getElem? (i := 188) rfl)) rfl, gd_in (sel_in (n := 35) (List.mem_of_getElem? (i := 41) rfl)) rfl⟩
theorem oX11_roll : mdok mX11_roll 1 := ⟨gd_in (ti_6 (List.mem_of_getElem? (i := 2) rfl)) rfl, gd_in (ti_1 (List.mem_of_getElem? (i := 12) rfl)) rfl, by decide +kernel, by decide +kernel, by decide +kernel⟩
theorem vX11_roll : mvok mX11_roll := ⟨gd_in (ti_6 (List.mem_of_getElem? (i := 0) rfl)) rfl, gd_in (ti_6 (List.mem_of_getElem? (i := 1) rfl)) rfl⟩
theorem oX11_rolls : mdok mX11_rolls 1 := ⟨gd_in (ti_6 (List.mem_of_getElem? (i := 6) rfl)) rfl, gd_in (ti_1 (List.mem_of_getElem? (i := 12) rfl)) rfl, by decide +kernel, by decide +kernel, by decide +kernel⟩
theorem vX11_rolls : mvok mX11_rolls := ⟨gd_in (ti_6 (List.mem_of_getElem? (i := 5) rfl)) rfl, gd_in (sel_in (n := 35) (List.mem_of_getElem? (i := 47) rfl)) rfl⟩
theorem oX11_salt : mdok mX11_salt 3 := ⟨gd_in (ti_6 (List.mem_of_getElem? (i := 15) rfl)) rfl, gd_in (ti_1 (List.mem_of_getElem? (i := 12) rfl)) rfl, by decide +kernel, by decide +kernel, by decide +kernel⟩
theorem vX11_salt : mvok mX11_salt := ⟨gd_in (ti_6 (List.mem_of_getElem? (i := 13) rfl)) rfl, gd_in (ti_6 (List.mem_of_getElem? (i := 14) rfl)) rfl⟩
theorem oX11_same : mdok mX11_same 2 := ⟨gd_in (ti_5 (List.mem_of_getElem? (i := 181) rfl)) rfl, gd_in (ti_1 (List.mem_of_getElem? (i := 12) rfl)) rfl, by decide +kernel, by decide +kernel, by decide +kernel⟩
theorem vX11_same : mvok mX11_same := ⟨gd_in (ti_5 (List.mem_of_getElem? (i := 179) rfl)) rfl, gd_in (ti_5 (List.mem_of_getElem? (i := 180) rfl)) rfl⟩
theorem oX11_seed : mdok mX11_seed 1 := ⟨gd_in (ti_6 (List.mem_of_getElem? (i := 60) rfl)) rfl, gd_in (ti_1 (List.mem_of_getElem? (i := 12) rfl)) rfl, by decide +kernel, by decide +kernel, by decide +kernel⟩
theorem vX11_seed : mvok mX11_seed := ⟨gd_in (ti_6 (List.mem_of_getElem? (i := 58) rfl)) rfl, gd_in (ti_6 (List.mem_of_getElem? (i := 59) rfl)) rfl⟩
theorem oX11_shake : mdok mX11_shake 3 := ⟨gd_in (ti_5 (List.mem_of_getElem? (i := 205) rfl)) rfl, gd_in (ti_1 (List.mem_of_getElem? (i := 12) rfl)) rfl, by decide +kernel, by decide +kernel, by decide +kernel⟩
theorem vX11_shake : mvok mX11_shake := ⟨gd_in (ti_5 (List.mem_of_getElem? (i := 203) rfl)) rfl, gd_in (ti_5 (List.mem_of_getElem? (i := 204) rfl)) rfl⟩
theorem oX11_shaken : mdok mX11_shaken 2 := ⟨gd_in (ti_5 (List.mem_of_getElem? (i := 86) rfl)) rfl, gd_in (ti_1 (List.mem_of_getElem? (i := 12) rfl)) rfl, by decide +kernel, by decide +kernel, by decide +kernel⟩
theorem vX11_shaken : mvok mX11_shaken := ⟨gd_in (ti_5 (List.mem_of_getElem? (i := 85) rfl)) rfl, gd_in (sel_in (n := 35) (List.mem_of_getElem? (i := 24) rfl)) rfl⟩
theorem oX11_shakes : mdok mX11_shakes 1 := ⟨gd_in (ti_5 (List.mem_of_getElem? (i := 90) rfl)) rfl, gd_in (ti_1 (List.mem_of_getElem? (i := 12) rfl)) rfl, by decide +kernel, by decide +kernel, by decide +kernel⟩
theorem vX11_shakes : mvok mX11_shakes := ⟨gd_in (ti_5 (List.mem_of_getElem? (i := 89) rfl)) rfl, gd_in (sel_in (n := 35) (List.mem_of_getElem? (i := 25) rfl)) rfl⟩
theorem oX11_stores : mdok mX11_stores 1 := ⟨gd_in (ti_5 (List.mem_of_getElem? (i := 29) rfl)) rfl, gd_in (ti_1 (List.mem_of_getElem? (i := 12) rfl)) rfl, by decide +kernel, by decide +kernel, by decide +kernel⟩
theorem vX11_stores : mvok mX11_stores := ⟨gd_in (ti_5 (List.mem_of_getElem? (i := 28) rfl)) rfl, gd_in (sel_in (n := 35) (List.mem_of_getElem? (i := 14) rfl)) rfl⟩
theorem oX11_swaps : mdok mX11_swaps 2 := ⟨gd_in (ti_5 (List.mem_of_getElem? (i := 137) rfl)) rfl, gd_in (ti_1 (List.mem_of_getElem? (i := 12) rfl)) rfl, by decide +kernel, by decide +kernel, by decide +kernel⟩
theorem vX11_swaps : mvok mX11_swaps := ⟨gd_in (ti_5 (List.mem_of_getElem? (i := 136) rfl)) rfl, gd_in (sel_in (n := 35) (List.mem_of_getElem? (i := 31) rfl)) rfl⟩
theorem oX11_switches : mdok mX11_switches 0 := ⟨gd_in (ti_5 (List.mem_of_getElem? (i := 157) rfl)) rfl, gd_in (ti_1 (List.mem_of_getElem? (i := 12) rfl)) rfl, by decide +kernel, by decide +kernel, by decide +kernel⟩
theorem vX11_switches : mvok mX11_switches := ⟨gd_in (ti_5 (List.mem_of_getElem? (i := 156) rfl)) rfl, gd_in (sel_in (n := 35) (List.mem_of_getElem? (i := 36) rfl)) rfl⟩
theorem oX11_tear : mdok mX11_tear 0 := ⟨gd_in (ti_6 (List.mem_of_getElem? (i := 52) rfl)) rfl, gd_in (ti_1 (List.mem_of_getElem? (i := 12) rfl)) rfl, by decide +kernel, by decide +kernel, by decide +kernel⟩
theorem vX11_tear : mvok mX11_tear := ⟨gd_in (ti_6 (List.mem_of_getElem? (i := 50) rfl)) rfl, gd_in (ti_6 (List.mem_of_getElem? (i := 51) rfl)) rfl⟩
theorem oX11_tells : mdok mX11_tells 2 := ⟨gd_in (ti_5 (List.mem_of_getElem? (i := 197) rfl)) rfl, gd_in (ti_1 (List.mem_of_getElem? (i := 12) rfl)) rfl, by decide +kernel, by decide +kernel, by decide +kernel⟩
theorem vX11_tells : mvok mX11_tells := ⟨gd_in (ti_5 (List.mem_of_getElem? (i := 195) rfl)) rfl, gd_in (ti_5 (List.mem_of_getElem? (i := 196) rfl)) rfl⟩
theorem oX11_threads : mdok mX11_threads 0 := ⟨gd_in (ti_5 (List.mem_of_getElem? (i := 18) rfl)) rfl, gd_in (ti_1 (List.mem_of_getElem? (i := 12) rfl)) rfl, by decide +kernel, by decide +kernel, by decide +kernel⟩
theorem vX11_threads : mvok mX11_threads := ⟨gd_in (ti_5 (List.mem_of_getElem? (i := 17) rfl)) rfl, gd_in (sel_in (n := 35) (List.mem_of_getElem? (i := 13) rfl)) rfl⟩
theorem oX11_toShake : mdok mX11_toShake 2 := ⟨gd_in (ti_5 (List.mem_of_getElem? (i := 81) rfl)) rfl, gd_in (ti_1 (List.mem_of_getElem? (i := 12) rfl)) rfl, by decide +kernel, by decide +kernel, by decide +kernel⟩
theorem vX11_toShake : mvok mX11_toShake := ⟨gd_in (ti_5 (List.mem_of_getElem? (i := 79) rfl)) rfl, gd_in (ti_5 (List.mem_of_getElem? (i := 80) rfl)) rfl⟩
theorem oX11_told : mdok mX11_told 1 := ⟨gd_in (ti_5 (List.mem_of_getElem? (i := 123) rfl)) rfl, gd_in (ti_1 (List.mem_of_getElem? (i := 12) rfl)) rfl, by decide +kernel, by decide +kernel, by decide +kernel⟩
theorem vX11_told : mvok mX11_told := ⟨gd_in (ti_5 (List.mem_of_getElem? (i := 121) rfl)) rfl, gd_in (ti_5 (List.mem_of_getElem? (i := 122) rfl)) rfl⟩
theorem oX11_tray : mdok mX11_tray 0 := ⟨gd_in (ti_4 (List.mem_of_getElem? (i := 232) rfl)) rfl, gd_in (ti_1 (List.mem_of_getElem? (i := 12) rfl)) rfl, by decide +kernel, by decide +kernel, by decide +kernel⟩
theorem vX11_tray : mvok mX11_tray := ⟨gd_in (ti_4 (List.mem_of_getElem? (i := 230) rfl)) rfl, gd_in (ti_4 (List.mem_of_getElem? (i := 231) rfl)) rfl⟩
theorem oX11_turn : mdok mX11_turn 2 := ⟨gd_in (ti_5 (List.mem_of_getElem? (i := 230) rfl)) rfl, gd_in (ti_1 (List.mem_of_getElem? (i := 12) rfl)) rfl, by decide +kernel, by decide +kernel, by decide +kernel⟩
theorem vX11_turn : mvok mX11_turn := ⟨gd_in (ti_5 (List.mem_of_getElem? (i := 228) rfl)) rfl, gd_in (ti_5 (List.mem_of_getElem? (i := 229) rfl)) rfl⟩
theorem oX11_turns : mdok mX11_turns 1 := ⟨gd_in (ti_5 (List.mem_of_getElem? (i := 153) rfl)) rfl, gd_in (ti_1 (List.mem_of_getElem? (i := 12) rfl)) rfl, by decide +kernel, by decide +kernel, by decide +kernel⟩
theorem vX11_turns : mvok mX11_turns := ⟨gd_in (ti_5 (List.mem_of_getElem? (i := 152) rfl)) rfl, gd_in (sel_in (n := 35) (List.mem_of_getElem? (i := 35) rfl)) rfl⟩
theorem oX11_undo : mdok mX11_undo 0 := ⟨gd_in (ti_6 (List.mem_of_getElem? (i := 37) rfl)) rfl, gd_in (ti_1 (List.mem_of_getElem? (i := 12) rfl)) rfl, by decide +kernel, by decide +kernel, by decide +kernel⟩
theorem vX11_undo : mvok mX11_undo := ⟨gd_in (ti_6 (List.mem_of_getElem? (i := 35) rfl)) rfl, gd_in (ti_6 (List.mem_of_getElem? (i := 36) rfl)) rfl⟩
theorem oX11_weak : mdok mX11_weak 0 := ⟨gd_in (ti_5 (List.mem_of_getElem? (i := 145) rfl)) rfl, gd_in (ti_1 (List.mem_of_getElem? (i := 12) rfl)) rfl, by decide +kernel, by decide +kernel, by decide +kernel⟩
theorem vX11_weak : mvok mX11_weak := ⟨gd_in (ti_5 (List.mem_of_getElem? (i := 144) rfl)) rfl, gd_in (sel_in (n := 35) (List.mem_of_getElem? (i := 33) rfl)) rfl⟩
theorem oX11_whole : mdok mX11_whole 2 := ⟨gd_in (ti_6 (List.mem_of_getElem? (i := 41) rfl)) rfl, gd_in (ti_1 (List.mem_of_getElem? (i := 12) rfl)) rfl, by decide +kernel, by decide +kernel, by decide +kernel⟩
theorem vX11_whole : mvok mX11_whole := ⟨gd_in (ti_6 (List.mem_of_getElem? (i := 39) rfl)) rfl, gd_in (ti_6 (List.mem_of_getElem? (i := 40) rfl)) rfl⟩
theorem oX11_within : mdok mX11_within 2 := ⟨gd_in (ti_5 (List.mem_of_getElem? (i := 173) rfl)) rfl, gd_in (ti_1 (List.mem_of_getElem? (i := 12) rfl)) rfl, by decide +kernel, by decide +kernel, by decide +kernel⟩
theorem vX11_within : mvok mX11_within := ⟨gd_in (ti_5 (List.mem_of_getElem? (i := 171) rfl)) rfl, gd_in (ti_5 (List.mem_of_getElem? (i := 172) rfl)) rfl⟩
theorem oX11_without : mdok mX11_without 3 := ⟨gd_in (ti_5 (List.mem_of_getElem? (i := 93) rfl)) rfl, gd_in (ti_1 (List.mem_of_getElem? (i := 12) rfl)) rfl, by decide +kernel, by decide +kernel, by decide +kernel⟩
theorem vX11_without : Cond.static mX11_without.1 ∈ lw_gd := gd_in (ti_5 (List.mem_of_getElem? (i := 92) rfl)) rfl
theorem oX11_words : mdok mX11_words 2 := ⟨gd_in (ti_5 (List.mem_of_getElem? (i := 201) rfl)) rfl, gd_in (ti_1 (List.mem_of_getElem? (i := 12) rfl)) rfl, by decide +kernel, by decide +kernel, by decide +kernel⟩
theorem vX11_words : mvok mX11_words := ⟨gd_in (ti_5 (List.mem_of_getElem? (i := 199) rfl)) rfl, gd_in (ti_5 (List.mem_of_getElem? (i := 200) rfl)) rfl⟩
theorem oX11_write : mdok mX11_write 2 := ⟨gd_in (ti_6 (List.mem_of_getElem? (i := 48) rfl)) rfl, gd_in (ti_1 (List.mem_of_getElem? (i := 12) rfl)) rfl, by decide +kernel, by decide +kernel, by decide +kernel⟩
theorem vX11_write : mvok mX11_write := ⟨gd_in (ti_6 (List.mem_of_getElem? (i := 46) rfl)) rfl, gd_in (ti_6 (List.mem_of_getElem? (i := 47) rfl)) rfl⟩
theorem oX1_addTo : mdok mX1_addTo 4 := ⟨gd_in (ti_3 (List.mem_of_getElem? (i := 52) rfl)) rfl, gd_in (ti_1 (List.mem_of_getElem? (i := 10) rfl)) rfl, by decide +kernel, by decide +kernel, by decide +kernel⟩
theorem vX1_addTo : mvok mX1_addTo := ⟨gd_in (ti_3 (List.mem_of_getElem? (i := 50) rfl)) rfl, gd_in (ti_3 (List.mem_of_getElem? (i := 51) rfl)) rfl⟩
theorem oX1_clearOthers : mdok mX1_clearOthers 4 := ⟨gd_in (ti_3 (List.mem_of_getElem? (i := 71) rfl)) rfl, gd_in (ti_1 (List.mem_of_getElem? (i := 10) rfl)) rfl, by decide +kernel, by decide +kernel, by decide +kernel⟩
theorem vX1_clearOthers : mvok mX1_clearOthers := ⟨gd_in (ti_3 (List.mem_of_getElem? (i := 69) rfl)) rfl, gd_in (ti_3 (List.mem_of_getElem? (i := 70) rfl)) rfl⟩
theorem oX1_exchangeRows : mdok mX1_exchangeRows 2 := ⟨gd_in (ti_3 (List.mem_of_getElem? (i := 63) rfl)) rfl, gd_in (ti_1 (List.mem_of_getElem? (i := 10) rfl)) rfl, by decide +kernel, by decide +kernel, by decide +kernel⟩
theorem vX1_exchangeRows : mvok mX1_exchangeRows := ⟨gd_in (ti_3 (List.mem_of_getElem? (i := 61) rfl)) rfl, gd_in (ti_3 (List.mem_of_getElem? (i := 62) rfl)) rfl⟩
theorem oX1_findParts : mdok mX1_findParts 1 := ⟨gd_in (ti_3 (List.mem_of_getElem? (i := 38) rfl)) rfl, gd_in (ti_1 (List.mem_of_getElem? (i := 10) rfl)) rfl, by decide +kernel, by decide +kernel, by decide +kernel⟩
theorem vX1_findParts : mvok mX1_findParts := ⟨gd_in (ti_3 (List.mem_of_getElem? (i := 36) rfl)) rfl, gd_in (ti_3 (List.mem_of_getElem? (i := 37) rfl)) rfl⟩
theorem oX1_firstColourOf : mdok mX1_firstColourOf 2 := ⟨gd_in (ti_4 (List.mem_of_getElem? (i := 66) rfl)) rfl, gd_in (ti_1 (List.mem_of_getElem? (i := 10) rfl)) rfl, by decide +kernel, by decide +kernel, by decide +kernel⟩
theorem vX1_firstColourOf : mvok mX1_firstColourOf := ⟨gd_in (ti_4 (List.mem_of_getElem? (i := 64) rfl)) rfl, gd_in (ti_4 (List.mem_of_getElem? (i := 65) rfl)) rfl⟩
theorem oX1_rowWith : mdok mX1_rowWith 2 := ⟨gd_in (ti_3 (List.mem_of_getElem? (i := 59) rfl)) rfl, gd_in (ti_1 (List.mem_of_getElem? (i := 10) rfl)) rfl, by decide +kernel, by decide +kernel, by decide +kernel⟩
theorem vX1_rowWith : mvok mX1_rowWith := ⟨gd_in (ti_3 (List.mem_of_getElem? (i := 57) rfl)) rfl, gd_in (ti_3 (List.mem_of_getElem? (i := 58) rfl)) rfl⟩
theorem oX1_scaleRow : mdok mX1_scaleRow 3 := ⟨gd_in (ti_3 (List.mem_of_getElem? (i := 67) rfl)) rfl, gd_in (ti_1 (List.mem_of_getElem? (i := 10) rfl)) rfl, by decide +kernel, by decide +kernel, by decide +kernel⟩
theorem vX1_scaleRow : mvok mX1_scaleRow := ⟨gd_in (ti_3 (List.mem_of_getElem? (i := 65) rfl)) rfl, gd_in (ti_3 (List.mem_of_getElem? (i := 66) rfl)) rfl⟩
theorem oX1_solve : mdok mX1_solve 2 := ⟨gd_in (ti_3 (List.mem_of_getElem? (i := 34) rfl)) rfl, gd_in (ti_1 (List.mem_of_getElem? (i := 10) rfl)) rfl, by decide +kernel, by decide +kernel, by decide +kernel⟩
theorem vX1_solve : mvok mX1_solve := ⟨gd_in (ti_3 (List.mem_of_getElem? (i := 32) rfl)) rfl, gd_in (ti_3 (List.mem_of_getElem? (i := 33) rfl)) rfl⟩
theorem oX1_waysBy : mdok mX1_waysBy 2 := ⟨gd_in (ti_3 (List.mem_of_getElem? (i := 30) rfl)) rfl, gd_in (ti_1 (List.mem_of_getElem? (i := 10) rfl)) rfl, by decide +kernel, by decide +kernel, by decide +kernel⟩
theorem vX1_waysBy : mvok mX1_waysBy := ⟨gd_in (ti_3 (List.mem_of_getElem? (i := 28) rfl)) rfl, gd_in (ti_3 (List.mem_of_getElem? (i := 29) rfl)) rfl⟩
theorem oX1_writeRows : mdok mX1_writeRows 2 := ⟨gd_in (ti_3 (List.mem_of_getElem? (i := 47) rfl)) rfl, gd_in (ti_1 (List.mem_of_getElem? (i := 10) rfl)) rfl, by decide +kernel, by decide +kernel, by decide +kernel⟩
theorem vX1_writeRows : mvok mX1_writeRows := ⟨gd_in (ti_3 (List.mem_of_getElem? (i := 45) rfl)) rfl, gd_in (ti_3 (List.mem_of_getElem? (i := 46) rfl)) rfl⟩
theorem oX2_forgetAll : mdok mX2_forgetAll 0 := ⟨gd_in (ti_2 (List.mem_of_getElem? (i := 197) rfl)) rfl, gd_in (ti_1 (List.mem_of_getElem? (i := 6) rfl)) rfl, by decide +kernel, by decide +kernel, by decide +kernel⟩
theorem vX2_forgetAll : mvok mX2_forgetAll := ⟨gd_in (ti_2 (List.mem_of_getElem? (i := 195) rfl)) rfl, gd_in (ti_2 (List.mem_of_getElem? (i := 196) rfl)) rfl⟩
theorem oX2_remember : mdok mX2_remember 1 := ⟨gd_in (ti_3 (List.mem_of_getElem? (i := 133) rfl)) rfl, gd_in (ti_1 (List.mem_of_getElem? (i := 6) rfl)) rfl, by decide +kernel, by decide +kernel, by decide +kernel⟩
theorem vX2_remember : mvok mX2_remember := ⟨gd_in (ti_3 (List.mem_of_getElem? (i := 131) rfl)) rfl, gd_in (ti_3 (List.mem_of_getElem? (i := 132) rfl)) rfl⟩
theorem oX2_restore : mdok mX2_restore 1 := ⟨gd_in (ti_3 (List.mem_of_getElem? (i := 231) rfl)) rfl, gd_in (ti_1 (List.mem_of_getElem? (i := 6) rfl)) rfl, by decide +kernel, by decide +kernel, by decide +kernel⟩
theorem vX2_restore : mvok mX2_restore := ⟨gd_in (ti_3 (List.mem_of_getElem? (i := 229) rfl)) rfl, gd_in (ti_3 (List.mem_of_getElem? (i := 230) rfl)) rfl⟩
theorem oX3_contains : mdok mX3_contains 1 := ⟨gd_in (ti_3 (List.mem_of_getElem? (i := 128) rfl)) rfl, gd_in (ti_1 (List.mem_of_getElem? (i := 8) rfl)) rfl, by decide +kernel, by decide +kernel, by decide +kernel⟩
theorem vX3_contains : mvok mX3_contains := ⟨gd_in (ti_3 (List.mem_of_getElem? (i := 126) rfl)) rfl, gd_in (ti_3 (List.mem_of_getElem? (i := 127) rfl)) rfl⟩
theorem oX3_leftByCurls : mdok mX3_leftByCurls 1 := ⟨gd_in (ti_3 (List.mem_of_getElem? (i := 83) rfl)) rfl, gd_in (ti_1 (List.mem_of_getElem? (i := 8) rfl)) rfl, by decide +kernel, by decide +kernel, by decide +kernel⟩
theorem vX3_leftByCurls : mvok mX3_leftByCurls := ⟨gd_in (ti_3 (List.mem_of_getElem? (i := 81) rfl)) rfl, gd_in (ti_3 (List.mem_of_getElem? (i := 82) rfl)) rfl⟩
theorem oX3_leftOf : mdok mX3_leftOf 4 := ⟨gd_in (ti_2 (List.mem_of_getElem? (i := 231) rfl)) rfl, gd_in (ti_1 (List.mem_of_getElem? (i := 8) rfl)) rfl, by decide +kernel, by decide +kernel, by decide +kernel⟩
theorem vX3_leftOf : mvok mX3_leftOf := ⟨gd_in (ti_2 (List.mem_of_getElem? (i := 229) rfl)) rfl, gd_in (ti_2 (List.mem_of_getElem? (i := 230) rfl)) rfl⟩
theorem oX3_listMoves : mdok mX3_listMoves 1 := ⟨gd_in (ti_3 (List.mem_of_getElem? (i := 18) rfl)) rfl, gd_in (ti_1 (List.mem_of_getElem? (i := 8) rfl)) rfl, by decide +kernel, by decide +kernel, by decide +kernel⟩
theorem vX3_listMoves : mvok mX3_listMoves := ⟨gd_in (ti_3 (List.mem_of_getElem? (i := 16) rfl)) rfl, gd_in (ti_3 (List.mem_of_getElem? (i := 17) rfl)) rfl⟩
theorem oX3_lookAt : mdok mX3_lookAt 4 := ⟨gd_in (ti_2 (List.mem_of_getElem? (i := 235) rfl)) rfl, gd_in (ti_1 (List.mem_of_getElem? (i := 8) rfl)) rfl, by decide +kernel, by decide +kernel, by decide +kernel⟩
theorem vX3_lookAt : mvok mX3_lookAt := ⟨gd_in (ti_2 (List.mem_of_getElem? (i := 233) rfl)) rfl, gd_in (ti_2 (List.mem_of_getElem? (i := 234) rfl)) rfl⟩
theorem oX3_lookNow : mdok mX3_lookNow 1 := ⟨gd_in (ti_3 (List.mem_of_getElem? (i := 110) rfl)) rfl, gd_in (ti_1 (List.mem_of_getElem? (i := 8) rfl)) rfl, by decide +kernel, by decide +kernel, by decide +kernel⟩
theorem vX3_lookNow : mvok mX3_lookNow := ⟨gd_in (ti_3 (List.mem_of_getElem? (i := 108) rfl)) rfl, gd_in (ti_3 (List.mem_of_getElem? (i := 109) rfl)) rfl⟩
theorem oX3_moveAt : mdok mX3_moveAt 1 := ⟨gd_in (ti_3 (List.mem_of_getElem? (i := 114) rfl)) rfl, gd_in (ti_1 (List.mem_of_getElem? (i := 8) rfl)) rfl, by decide +kernel, by decide +kernel, by decide +kernel⟩
theorem vX3_moveAt : mvok mX3_moveAt := ⟨gd_in (ti_3 (List.mem_of_getElem? (i := 112) rfl)) rfl, gd_in (ti_3 (List.mem_of_getElem? (i := 113) rfl)) rfl⟩
theorem oX3_seeNeighbours : mdok mX3_seeNeighbours 1 := ⟨gd_in (ti_3 (List.mem_of_getElem? (i := 11) rfl)) rfl, gd_in (ti_1 (List.mem_of_getElem? (i := 8) rfl)) rfl, by decide +kernel, by decide +kernel, by decide +kernel⟩
theorem vX3_seeNeighbours : mvok mX3_seeNeighbours := ⟨gd_in (ti_3 (List.mem_of_getElem? (i := 9) rfl)) rfl, gd_in (ti_3 (List.mem_of_getElem? (i := 10) rfl)) rfl⟩
theorem oX3_takeRow : mdok mX3_takeRow 3 := ⟨gd_in (ti_2 (List.mem_of_getElem? (i := 239) rfl)) rfl, gd_in (ti_1 (List.mem_of_getElem? (i := 8) rfl)) rfl, by decide +kernel, by decide +kernel, by decide +kernel⟩
theorem vX3_takeRow : mvok mX3_takeRow := ⟨gd_in (ti_2 (List.mem_of_getElem? (i := 237) rfl)) rfl, gd_in (ti_2 (List.mem_of_getElem? (i := 238) rfl)) rfl⟩
theorem oX4_begin : mdok mX4_begin 0 := ⟨gd_in (ti_2 (List.mem_of_getElem? (i := 136) rfl)) rfl, gd_in (ti_1 (List.mem_of_getElem? (i := 2) rfl)) rfl, by decide +kernel, by decide +kernel, by decide +kernel⟩
theorem vX4_begin : mvok mX4_begin := ⟨gd_in (ti_2 (List.mem_of_getElem? (i := 134) rfl)) rfl, gd_in (ti_2 (List.mem_of_getElem? (i := 135) rfl)) rfl⟩
theorem oX4_knows : mdok mX4_knows 1 := ⟨gd_in (ti_2 (List.mem_of_getElem? (i := 151) rfl)) rfl, gd_in (ti_1 (List.mem_of_getElem? (i := 2) rfl)) rfl, by decide +kernel, by decide +kernel, by decide +kernel⟩
theorem vX4_knows : mvok mX4_knows := ⟨gd_in (ti_2 (List.mem_of_getElem? (i := 149) rfl)) rfl, gd_in (ti_2 (List.mem_of_getElem? (i := 150) rfl)) rfl⟩
theorem oX4_numberOf : mdok mX4_numberOf 1 := ⟨gd_in (ti_2 (List.mem_of_getElem? (i := 162) rfl)) rfl, gd_in (ti_1 (List.mem_of_getElem? (i := 2) rfl)) rfl, by decide +kernel, by decide +kernel, by decide +kernel⟩
theorem vX4_numberOf : mvok mX4_numberOf := ⟨gd_in (ti_2 (List.mem_of_getElem? (i := 160) rfl)) rfl, gd_in (ti_2 (List.mem_of_getElem? (i := 161) rfl)) rfl⟩
theorem oX5_addLetter : mdok mX5_addLetter 1 := ⟨gd_in (ti_2 (List.mem_of_getElem? (i := 92) rfl)) rfl, gd_in (ti_1 (List.mem_of_getElem? (i := 3) rfl)) rfl, by decide +kernel, by decide +kernel, by decide +kernel⟩
theorem vX5_addLetter : mvok mX5_addLetter := ⟨gd_in (ti_2 (List.mem_of_getElem? (i := 90) rfl)) rfl, gd_in (ti_2 (List.mem_of_getElem? (i := 91) rfl)) rfl⟩
theorem oX5_isFigure : mdok mX5_isFigure 1 := ⟨gd_in (ti_2 (List.mem_of_getElem? (i := 120) rfl)) rfl, gd_in (ti_1 (List.mem_of_getElem? (i := 3) rfl)) rfl, by decide +kernel, by decide +kernel, by decide +kernel⟩
theorem vX5_isFigure : Cond.static mX5_isFigure.1 ∈ lw_gd := gd_in (ti_2 (List.mem_of_getElem? (i := 119) rfl)) rfl
theorem oX5_readBlank : mdok mX5_readBlank 0 := ⟨gd_in (ti_2 (List.mem_of_getElem? (i := 105) rfl)) rfl, gd_in (ti_1 (List.mem_of_getElem? (i := 3) rfl)) rfl, by decide +kernel, by decide +kernel, by decide +kernel⟩
theorem vX5_readBlank : mvok mX5_readBlank := ⟨gd_in (ti_2 (List.mem_of_getElem? (i := 103) rfl)) rfl, gd_in (ti_2 (List.mem_of_getElem? (i := 104) rfl)) rfl⟩
theorem oX5_readClause : mdok mX5_readClause 1 := ⟨gd_in (ti_2 (List.mem_of_getElem? (i := 132) rfl)) rfl, gd_in (ti_1 (List.mem_of_getElem? (i := 3) rfl)) rfl, by decide +kernel, by decide +kernel, by decide +kernel⟩
theorem vX5_readClause : mvok mX5_readClause := ⟨gd_in (ti_2 (List.mem_of_getElem? (i := 130) rfl)) rfl, gd_in (ti_2 (List.mem_of_getElem? (i := 131) rfl)) rfl⟩
theorem oX5_readFirstFigure : mdok mX5_readFirstFigure 2 := ⟨gd_in (ti_2 (List.mem_of_getElem? (i := 117) rfl)) rfl, gd_in (ti_1 (List.mem_of_getElem? (i := 3) rfl)) rfl, by decide +kernel, by decide +kernel, by decide +kernel⟩
theorem vX5_readFirstFigure : mvok mX5_readFirstFigure := ⟨gd_in (ti_2 (List.mem_of_getElem? (i := 115) rfl)) rfl, gd_in (ti_2 (List.mem_of_getElem? (i := 116) rfl)) rfl⟩
theorem oX5_readLetter : mdok mX5_readLetter 2 := ⟨gd_in (ti_2 (List.mem_of_getElem? (i := 109) rfl)) rfl, gd_in (ti_1 (List.mem_of_getElem? (i := 3) rfl)) rfl, by decide +kernel, by decide +kernel, by decide +kernel⟩
theorem vX5_readLetter : mvok mX5_readLetter := ⟨gd_in (ti_2 (List.mem_of_getElem? (i := 107) rfl)) rfl, gd_in (ti_2 (List.mem_of_getElem? (i := 108) rfl)) rfl⟩
theorem oX5_readNumber : mdok mX5_readNumber 1 := ⟨gd_in (ti_2 (List.mem_of_getElem? (i := 124) rfl)) rfl, gd_in (ti_1 (List.mem_of_getElem? (i := 3) rfl)) rfl, by decide +kernel, by decide +kernel, by decide +kernel⟩
theorem vX5_readNumber : mvok mX5_readNumber := ⟨gd_in (ti_2 (List.mem_of_getElem? (i := 122) rfl)) rfl, gd_in (ti_2 (List.mem_of_getElem? (i := 123) rfl)) rfl⟩
theorem oX5_readNumbersEnd : mdok mX5_readNumbersEnd 1 := ⟨gd_in (ti_2 (List.mem_of_getElem? (i := 128) rfl)) rfl, gd_in (ti_1 (List.mem_of_getElem? (i := 3) rfl)) rfl, by decide +kernel, by decide +kernel, by decide +kernel⟩
theorem vX5_readNumbersEnd : mvok mX5_readNumbersEnd := ⟨gd_in (ti_2 (List.mem_of_getElem? (i := 126) rfl)) rfl, gd_in (ti_2 (List.mem_of_getElem? (i := 127) rfl)) rfl⟩
theorem oX5_readPass : mdok mX5_readPass 2 := ⟨gd_in (ti_2 (List.mem_of_getElem? (i := 144) rfl)) rfl, gd_in (ti_1 (List.mem_of_getElem? (i := 3) rfl)) rfl, by decide +kernel, by decide +kernel, by decide +kernel⟩
theorem vX5_readPass : mvok mX5_readPass := ⟨gd_in (ti_2 (List.mem_of_getElem? (i := 142) rfl)) rfl, gd_in (ti_2 (List.mem_of_getElem? (i := 143) rfl)) rfl⟩
theorem oX5_readStart : mdok mX5_readStart 1 := ⟨gd_in (ti_2 (List.mem_of_getElem? (i := 113) rfl)) rfl, gd_in (ti_1 (List.mem_of_getElem? (i := 3) rfl)) rfl, by decide +kernel, by decide +kernel, by decide +kernel⟩
theorem vX5_readStart : mvok mX5_readStart := ⟨gd_in (ti_2 (List.mem_of_getElem? (i := 111) rfl)) rfl, gd_in (ti_2 (List.mem_of_getElem? (i := 112) rfl)) rfl⟩
theorem oX5_readText : mdok mX5_readText 0 := ⟨gd_in (ti_2 (List.mem_of_getElem? (i := 101) rfl)) rfl, gd_in (ti_1 (List.mem_of_getElem? (i := 3) rfl)) rfl, by decide +kernel, by decide +kernel, by decide +kernel⟩
theorem vX5_readText : mvok mX5_readText := ⟨gd_in (ti_2 (List.mem_of_getElem? (i := 99) rfl)) rfl, gd_in (ti_2 (List.mem_of_getElem? (i := 100) rfl)) rfl⟩
theorem oX5_readThread : mdok mX5_readThread 1 := ⟨gd_in (ti_2 (List.mem_of_getElem? (i := 140) rfl)) rfl, gd_in (ti_1 (List.mem_of_getElem? (i := 3) rfl)) rfl, by decide +kernel, by decide +kernel, by decide +kernel⟩
theorem vX5_readThread : mvok mX5_readThread := ⟨gd_in (ti_2 (List.mem_of_getElem? (i := 138) rfl)) rfl, gd_in (ti_2 (List.mem_of_getElem? (i := 139) rfl)) rfl⟩
theorem oX5_readThreadsEnd : mdok mX5_readThreadsEnd 0 := ⟨gd_in (ti_2 (List.mem_of_getElem? (i := 167) rfl)) rfl, gd_in (ti_1 (List.mem_of_getElem? (i := 3) rfl)) rfl, by decide +kernel, by decide +kernel, by decide +kernel⟩
theorem vX5_readThreadsEnd : mvok mX5_readThreadsEnd := ⟨gd_in (ti_2 (List.mem_of_getElem? (i := 165) rfl)) rfl, gd_in (ti_2 (List.mem_of_getElem? (i := 166) rfl)) rfl⟩
theorem oX6_addCurl : mdok mX6_addCurl 2 := ⟨gd_in (ti_3 (List.mem_of_getElem? (i := 155) rfl)) rfl, gd_in (ti_1 (List.mem_of_getElem? (i := 5) rfl)) rfl, by decide +kernel, by decide +kernel, by decide +kernel⟩
theorem vX6_addCurl : mvok mX6_addCurl := ⟨gd_in (ti_3 (List.mem_of_getElem? (i := 153) rfl)) rfl, gd_in (ti_3 (List.mem_of_getElem? (i := 154) rfl)) rfl⟩
theorem oX6_append : mdok mX6_append 1 := ⟨gd_in (ti_3 (List.mem_of_getElem? (i := 191) rfl)) rfl, gd_in (ti_1 (List.mem_of_getElem? (i := 5) rfl)) rfl, by decide +kernel, by decide +kernel, by decide +kernel⟩
theorem vX6_append : mvok mX6_append := ⟨gd_in (ti_3 (List.mem_of_getElem? (i := 189) rfl)) rfl, gd_in (ti_3 (List.mem_of_getElem? (i := 190) rfl)) rfl⟩
theorem oX6_copyFrom : mdok mX6_copyFrom 1 := ⟨gd_in (ti_2 (List.mem_of_getElem? (i := 190) rfl)) rfl, gd_in (ti_1 (List.mem_of_getElem? (i := 5) rfl)) rfl, by decide +kernel, by decide +kernel, by decide +kernel⟩
theorem vX6_copyFrom : mvok mX6_copyFrom := ⟨gd_in (ti_2 (List.mem_of_getElem? (i := 188) rfl)) rfl, gd_in (ti_2 (List.mem_of_getElem? (i := 189) rfl)) rfl⟩
theorem oX6_everyCrossing : mdok mX6_everyCrossing 0 := ⟨gd_in (ti_2 (List.mem_of_getElem? (i := 227) rfl)) rfl, gd_in (ti_1 (List.mem_of_getElem? (i := 5) rfl)) rfl, by decide +kernel, by decide +kernel, by decide +kernel⟩
theorem vX6_everyCrossing : mvok mX6_everyCrossing := ⟨gd_in (ti_2 (List.mem_of_getElem? (i := 225) rfl)) rfl, gd_in (ti_2 (List.mem_of_getElem? (i := 226) rfl)) rfl⟩
theorem oX6_goTheOtherWay : mdok mX6_goTheOtherWay 0 := ⟨gd_in (ti_3 (List.mem_of_getElem? (i := 171) rfl)) rfl, gd_in (ti_1 (List.mem_of_getElem? (i := 5) rfl)) rfl, by decide +kernel, by decide +kernel, by decide +kernel⟩
theorem vX6_goTheOtherWay : mvok mX6_goTheOtherWay := ⟨gd_in (ti_3 (List.mem_of_getElem? (i := 169) rfl)) rfl, gd_in (ti_3 (List.mem_of_getElem? (i := 170) rfl)) rfl⟩
theorem oX6_has : mdok mX6_has 1 := ⟨gd_in (ti_3 (List.mem_of_getElem? (i := 122) rfl)) rfl, gd_in (ti_1 (List.mem_of_getElem? (i := 5) rfl)) rfl, by decide +kernel, by decide +kernel, by decide +kernel⟩
theorem vX6_has : mvok mX6_has := ⟨gd_in (ti_3 (List.mem_of_getElem? (i := 120) rfl)) rfl, gd_in (ti_3 (List.mem_of_getElem? (i := 121) rfl)) rfl⟩
theorem oX6_lay : mdok mX6_lay 2 := ⟨gd_in (ti_2 (List.mem_of_getElem? (i := 175) rfl)) rfl, gd_in (ti_1 (List.mem_of_getElem? (i := 5) rfl)) rfl, by decide +kernel, by decide +kernel, by decide +kernel⟩
theorem vX6_lay : mvok mX6_lay := ⟨gd_in (ti_2 (List.mem_of_getElem? (i := 173) rfl)) rfl, gd_in (ti_2 (List.mem_of_getElem? (i := 174) rfl)) rfl⟩
theorem oX6_length : mdok mX6_length 0 := ⟨gd_in (ti_3 (List.mem_of_getElem? (i := 3) rfl)) rfl, gd_in (ti_1 (List.mem_of_getElem? (i := 5) rfl)) rfl, by decide +kernel, by decide +kernel, by decide +kernel⟩
theorem vX6_length : mvok mX6_length := ⟨gd_in (ti_3 (List.mem_of_getElem? (i := 1) rfl)) rfl, gd_in (ti_3 (List.mem_of_getElem? (i := 2) rfl)) rfl⟩
theorem oX6_lyingIn : mdok mX6_lyingIn 1 := ⟨gd_in (ti_3 (List.mem_of_getElem? (i := 92) rfl)) rfl, gd_in (ti_1 (List.mem_of_getElem? (i := 5) rfl)) rfl, by decide +kernel, by decide +kernel, by decide +kernel⟩
theorem vX6_lyingIn : mvok mX6_lyingIn := ⟨gd_in (ti_3 (List.mem_of_getElem? (i := 90) rfl)) rfl, gd_in (ti_3 (List.mem_of_getElem? (i := 91) rfl)) rfl⟩
theorem oX6_makePlain : mdok mX6_makePlain 0 := ⟨gd_in (ti_2 (List.mem_of_getElem? (i := 179) rfl)) rfl, gd_in (ti_1 (List.mem_of_getElem? (i := 5) rfl)) rfl, by decide +kernel, by decide +kernel, by decide +kernel⟩
theorem vX6_makePlain : mvok mX6_makePlain := ⟨gd_in (ti_2 (List.mem_of_getElem? (i := 177) rfl)) rfl, gd_in (ti_2 (List.mem_of_getElem? (i := 178) rfl)) rfl⟩
theorem oX6_numberAnew : mdok mX6_numberAnew 0 := ⟨gd_in (ti_3 (List.mem_of_getElem? (i := 144) rfl)) rfl, gd_in (ti_1 (List.mem_of_getElem? (i := 5) rfl)) rfl, by decide +kernel, by decide +kernel, by decide +kernel⟩
theorem vX6_numberAnew : mvok mX6_numberAnew := ⟨gd_in (ti_3 (List.mem_of_getElem? (i := 142) rfl)) rfl, gd_in (ti_3 (List.mem_of_getElem? (i := 143) rfl)) rfl⟩
theorem oX6_passAt : mdok mX6_passAt 1 := ⟨gd_in (ti_3 (List.mem_of_getElem? (i := 102) rfl)) rfl, gd_in (ti_1 (List.mem_of_getElem? (i := 5) rfl)) rfl, by decide +kernel, by decide +kernel, by decide +kernel⟩
theorem vX6_passAt : mvok mX6_passAt := ⟨gd_in (ti_3 (List.mem_of_getElem? (i := 100) rfl)) rfl, gd_in (ti_3 (List.mem_of_getElem? (i := 101) rfl)) rfl⟩
theorem oX6_rollOnce : mdok mX6_rollOnce 0 := ⟨gd_in (ti_3 (List.mem_of_getElem? (i := 183) rfl)) rfl, gd_in (ti_1 (List.mem_of_getElem? (i := 5) rfl)) rfl, by decide +kernel, by decide +kernel, by decide +kernel⟩
theorem vX6_rollOnce : mvok mX6_rollOnce := ⟨gd_in (ti_3 (List.mem_of_getElem? (i := 181) rfl)) rfl, gd_in (ti_3 (List.mem_of_getElem? (i := 182) rfl)) rfl⟩
theorem oX6_switchSet : mdok mX6_switchSet 1 := ⟨gd_in (ti_3 (List.mem_of_getElem? (i := 163) rfl)) rfl, gd_in (ti_1 (List.mem_of_getElem? (i := 5) rfl)) rfl, by decide +kernel, by decide +kernel, by decide +kernel⟩
theorem vX6_switchSet : mvok mX6_switchSet := ⟨gd_in (ti_3 (List.mem_of_getElem? (i := 161) rfl)) rfl, gd_in (ti_3 (List.mem_of_getElem? (i := 162) rfl)) rfl⟩
theorem oX6_takeAway : mdok mX6_takeAway 1 := ⟨gd_in (ti_3 (List.mem_of_getElem? (i := 139) rfl)) rfl, gd_in (ti_1 (List.mem_of_getElem? (i := 5) rfl)) rfl, by decide +kernel, by decide +kernel, by decide +kernel⟩
theorem vX6_takeAway : mvok mX6_takeAway := ⟨gd_in (ti_3 (List.mem_of_getElem? (i := 137) rfl)) rfl, gd_in (ti_3 (List.mem_of_getElem? (i := 138) rfl)) rfl⟩
theorem oX7_comesTo : mdok mX7_comesTo 4 := ⟨gd_in (ti_4 (List.mem_of_getElem? (i := 29) rfl)) rfl, gd_in (ti_1 (List.mem_of_getElem? (i := 11) rfl)) rfl, by decide +kernel, by decide +kernel, by decide +kernel⟩
theorem vX7_comesTo : mvok mX7_comesTo := ⟨gd_in (ti_4 (List.mem_of_getElem? (i := 27) rfl)) rfl, gd_in (ti_4 (List.mem_of_getElem? (i := 28) rfl)) rfl⟩
theorem oX7_compare : mdok mX7_compare 3 := ⟨gd_in (ti_4 (List.mem_of_getElem? (i := 41) rfl)) rfl, gd_in (ti_1 (List.mem_of_getElem? (i := 11) rfl)) rfl, by decide +kernel, by decide +kernel, by decide +kernel⟩
theorem vX7_compare : Cond.static mX7_compare.1 ∈ lw_gd := gd_in (ti_4 (List.mem_of_getElem? (i := 40) rfl)) rfl
theorem oX7_goAlong : mdok mX7_goAlong 4 := ⟨gd_in (ti_4 (List.mem_of_getElem? (i := 34) rfl)) rfl, gd_in (ti_1 (List.mem_of_getElem? (i := 11) rfl)) rfl, by decide +kernel, by decide +kernel, by decide +kernel⟩
theorem vX7_goAlong : mvok mX7_goAlong := ⟨gd_in (ti_4 (List.mem_of_getElem? (i := 32) rfl)) rfl, gd_in (ti_4 (List.mem_of_getElem? (i := 33) rfl)) rfl⟩
theorem oX7_leastWordAt : mdok mX7_leastWordAt 2 := ⟨gd_in (ti_4 (List.mem_of_getElem? (i := 57) rfl)) rfl, gd_in (ti_1 (List.mem_of_getElem? (i := 11) rfl)) rfl, by decide +kernel, by decide +kernel, by decide +kernel⟩
theorem vX7_leastWordAt : mvok mX7_leastWordAt := ⟨gd_in (ti_4 (List.mem_of_getElem? (i := 55) rfl)) rfl, gd_in (ti_4 (List.mem_of_getElem? (i := 56) rfl)) rfl⟩
theorem oX7_waysInto : mdok mX7_waysInto 2 := ⟨gd_in (ti_4 (List.mem_of_getElem? (i := 25) rfl)) rfl, gd_in (ti_1 (List.mem_of_getElem? (i := 11) rfl)) rfl, by decide +kernel, by decide +kernel, by decide +kernel⟩
theorem vX7_waysInto : mvok mX7_waysInto := ⟨gd_in (ti_4 (List.mem_of_getElem? (i := 23) rfl)) rfl, gd_in (ti_4 (List.mem_of_getElem? (i := 24) rfl)) rfl⟩
theorem oX8_followMoves : mdok mX8_followMoves 3 := ⟨gd_in (ti_4 (List.mem_of_getElem? (i := 11) rfl)) rfl, gd_in (ti_1 (List.mem_of_getElem? (i := 9) rfl)) rfl, by decide +kernel, by decide +kernel, by decide +kernel⟩
theorem vX8_followMoves : mvok mX8_followMoves := ⟨gd_in (ti_4 (List.mem_of_getElem? (i := 9) rfl)) rfl, gd_in (ti_4 (List.mem_of_getElem? (i := 10) rfl)) rfl⟩
theorem oX8_tryAll : mdok mX8_tryAll 2 := ⟨gd_in (ti_3 (List.mem_of_getElem? (i := 239) rfl)) rfl, gd_in (ti_1 (List.mem_of_getElem? (i := 9) rfl)) rfl, by decide +kernel, by decide +kernel, by decide +kernel⟩
theorem vX8_tryAll : mvok mX8_tryAll := ⟨gd_in (ti_3 (List.mem_of_getElem? (i := 237) rfl)) rfl, gd_in (ti_3 (List.mem_of_getElem? (i := 238) rfl)) rfl⟩
theorem oX8_weigh : mdok mX8_weigh 1 := ⟨gd_in (ti_4 (List.mem_of_getElem? (i := 5) rfl)) rfl, gd_in (ti_1 (List.mem_of_getElem? (i := 9) rfl)) rfl, by decide +kernel, by decide +kernel, by decide +kernel⟩
theorem vX8_weigh : mvok mX8_weigh := ⟨gd_in (ti_4 (List.mem_of_getElem? (i := 3) rfl)) rfl, gd_in (ti_4 (List.mem_of_getElem? (i := 4) rfl)) rfl⟩
theorem oX9_copyFrom : mdok mX9_copyFrom 1 := ⟨gd_in (ti_2 (List.mem_of_getElem? (i := 186) rfl)) rfl, gd_in (ti_1 (List.mem_of_getElem? (i := 4) rfl)) rfl, by decide +kernel, by decide +kernel, by decide +kernel⟩
theorem vX9_copyFrom : mvok mX9_copyFrom := ⟨gd_in (ti_2 (List.mem_of_getElem? (i := 184) rfl)) rfl, gd_in (ti_2 (List.mem_of_getElem? (i := 185) rfl)) rfl⟩
theorem oX9_crossingsOfAll : mdok mX9_crossingsOfAll 0 := ⟨gd_in (ti_2 (List.mem_of_getElem? (i := 209) rfl)) rfl, gd_in (ti_1 (List.mem_of_getElem? (i := 4) rfl)) rfl, by decide +kernel, by decide +kernel, by decide +kernel⟩
theorem vX9_crossingsOfAll : mvok mX9_crossingsOfAll := ⟨gd_in (ti_2 (List.mem_of_getElem? (i := 207) rfl)) rfl, gd_in (ti_2 (List.mem_of_getElem? (i := 208) rfl)) rfl⟩
theorem oX9_plainOnes : mdok mX9_plainOnes 0 := ⟨gd_in (ti_2 (List.mem_of_getElem? (i := 218) rfl)) rfl, gd_in (ti_1 (List.mem_of_getElem? (i := 4) rfl)) rfl, by decide +kernel, by decide +kernel, by decide +kernel⟩
theorem vX9_plainOnes : mvok mX9_plainOnes := ⟨gd_in (ti_2 (List.mem_of_getElem? (i := 216) rfl)) rfl, gd_in (ti_2 (List.mem_of_getElem? (i := 217) rfl)) rfl⟩
theorem oX9_ropeOf : mdok mX9_ropeOf 1 := ⟨gd_in (ti_2 (List.mem_of_getElem? (i := 171) rfl)) rfl, gd_in (ti_1 (List.mem_of_getElem? (i := 4) rfl)) rfl, by decide +kernel, by decide +kernel, by decide +kernel⟩
theorem vX9_ropeOf : mvok mX9_ropeOf := ⟨gd_in (ti_2 (List.mem_of_getElem? (i := 169) rfl)) rfl, gd_in (ti_2 (List.mem_of_getElem? (i := 170) rfl)) rfl⟩
theorem oX9_saltedOfAll : mdok mX9_saltedOfAll 0 := ⟨gd_in (ti_2 (List.mem_of_getElem? (i := 213) rfl)) rfl, gd_in (ti_1 (List.mem_of_getElem? (i := 4) rfl)) rfl, by decide +kernel, by decide +kernel, by decide +kernel⟩
theorem vX9_saltedOfAll : mvok mX9_saltedOfAll := ⟨gd_in (ti_2 (List.mem_of_getElem? (i := 211) rfl)) rfl, gd_in (ti_2 (List.mem_of_getElem? (i := 212) rfl)) rfl⟩
theorem nRX10_84 : Cond.constant RX10 84 (Int32.ofInt (-1000000002)) ∈ lw_gd := gd_in (ti_2 (List.mem_of_getElem? (i := 88) rfl)) rfl
theorem nRX10_92 : Cond.constant RX10 92 (Int32.ofInt (-1000000004)) ∈ lw_gd := gd_in (ti_2 (List.mem_of_getElem? (i := 93) rfl)) rfl
theorem nRX10_145 : Cond.constant RX10 145 (Int32.ofInt (-1000000001)) ∈ lw_gd := gd_in (ti_3 (List.mem_of_getElem? (i := 26) rfl)) rfl
theorem nRX10_195 : Cond.constant RX10 195 (Int32.ofInt (-1000000003)) ∈ lw_gd := gd_in (ti_3 (List.mem_of_getElem? (i := 129) rfl)) rfl
theorem nRX10_271 : Cond.constantLong RX10 271 (Int64.ofInt (1000000000)) ∈ lw_gd := gd_in (ti_4 (List.mem_of_getElem? (i := 71) rfl)) rfl
theorem nRX10_273 : Cond.constantLong RX10 273 (Int64.ofInt (100)) ∈ lw_gd := gd_in (ti_4 (List.mem_of_getElem? (i := 72) rfl)) rfl
theorem nRX10_309 : Cond.constantLong RX10 309 (Int64.ofInt (1103515245)) ∈ lw_gd := gd_in (ti_3 (List.mem_of_getElem? (i := 210) rfl)) rfl
theorem nRX10_311 : Cond.constantLong RX10 311 (Int64.ofInt (12345)) ∈ lw_gd := gd_in (ti_3 (List.mem_of_getElem? (i := 211) rfl)) rfl
theorem nRX10_313 : Cond.constantLong RX10 313 (Int64.ofInt (2147483647)) ∈ lw_gd := gd_in (ti_3 (List.mem_of_getElem? (i := 212) rfl)) rfl
theorem nRX10_315 : Cond.constant RX10 315 (Int32.ofInt (65536)) ∈ lw_gd := gd_in (ti_3 (List.mem_of_getElem? (i := 213) rfl)) rfl
theorem nRX11_95 : Cond.constantLong RX11 95 (Int64.ofInt (255)) ∈ lw_gd := gd_in (ti_4 (List.mem_of_getElem? (i := 223) rfl)) rfl
theorem nRX11_97 : Cond.constant RX11 97 (Int32.ofInt (-1000000002)) ∈ lw_gd := gd_in (ti_4 (List.mem_of_getElem? (i := 227) rfl)) rfl
theorem nRX11_101 : Cond.constant RX11 101 (Int32.ofInt (-1000000004)) ∈ lw_gd := gd_in (ti_4 (List.mem_of_getElem? (i := 228) rfl)) rfl
theorem nRX11_119 : Cond.constantLong RX11 119 (Int64.ofInt (48)) ∈ lw_gd := gd_in (ti_5 (List.mem_of_getElem? (i := 9) rfl)) rfl
theorem nRX11_121 : Cond.constantLong RX11 121 (Int64.ofInt (57)) ∈ lw_gd := gd_in (ti_5 (List.mem_of_getElem? (i := 10) rfl)) rfl
theorem nRX11_129 : Cond.constantLong RX11 129 (Int64.ofInt (65)) ∈ lw_gd := gd_in (ti_5 (List.mem_of_getElem? (i := 22) rfl)) rfl
theorem nRX11_131 : Cond.constantLong RX11 131 (Int64.ofInt (90)) ∈ lw_gd := gd_in (ti_5 (List.mem_of_getElem? (i := 23) rfl)) rfl
theorem nRX11_133 : Cond.constantLong RX11 133 (Int64.ofInt (97)) ∈ lw_gd := gd_in (ti_5 (List.mem_of_getElem? (i := 24) rfl)) rfl
theorem nRX11_135 : Cond.constantLong RX11 135 (Int64.ofInt (122)) ∈ lw_gd := gd_in (ti_5 (List.mem_of_getElem? (i := 25) rfl)) rfl
theorem nRX11_210 : Cond.constant RX11 210 (Int32.ofInt (-1000000001)) ∈ lw_gd := gd_in (ti_5 (List.mem_of_getElem? (i := 53) rfl)) rfl
theorem nRX11_217 : Cond.constantLong RX11 217 (Int64.ofInt (3)) ∈ lw_gd := gd_in (ti_5 (List.mem_of_getElem? (i := 82) rfl)) rfl
theorem nRX11_248 : Cond.constantLong RX11 248 (Int64.ofInt (8)) ∈ lw_gd := gd_in (ti_5 (List.mem_of_getElem? (i := 124) rfl)) rfl
theorem nRX11_250 : Cond.constantLong RX11 250 (Int64.ofInt (6)) ∈ lw_gd := gd_in (ti_5 (List.mem_of_getElem? (i := 129) rfl)) rfl
theorem nRX11_279 : Cond.constant RX11 279 (Int32.ofInt (-1000000003)) ∈ lw_gd := gd_in (ti_5 (List.mem_of_getElem? (i := 206) rfl)) rfl
theorem nRX11_296 : Cond.constantLong RX11 296 (Int64.ofInt (1103515245)) ∈ lw_gd := gd_in (ti_6 (List.mem_of_getElem? (i := 29) rfl)) rfl
theorem nRX11_298 : Cond.constantLong RX11 298 (Int64.ofInt (12345)) ∈ lw_gd := gd_in (ti_6 (List.mem_of_getElem? (i := 30) rfl)) rfl
theorem nRX11_300 : Cond.constantLong RX11 300 (Int64.ofInt (2147483648)) ∈ lw_gd := gd_in (ti_6 (List.mem_of_getElem? (i := 31) rfl)) rfl
theorem nRX11_302 : Cond.constant RX11 302 (Int32.ofInt (65536)) ∈ lw_gd := gd_in (ti_6 (List.mem_of_getElem? (i := 32) rfl)) rfl
theorem nRX11_306 : Cond.constantLong RX11 306 (Int64.ofInt (30)) ∈ lw_gd := gd_in (ti_6 (List.mem_of_getElem? (i := 20) rfl)) rfl
theorem nRX11_314 : Cond.constantLong RX11 314 (Int64.ofInt (60)) ∈ lw_gd := gd_in (ti_6 (List.mem_of_getElem? (i := 42) rfl)) rfl
theorem nRX11_316 : Cond.constantLong RX11 316 (Int64.ofInt (100)) ∈ lw_gd := gd_in (ti_6 (List.mem_of_getElem? (i := 43) rfl)) rfl
theorem nRX11_318 : Cond.constantLong RX11 318 (Int64.ofInt (1000000000)) ∈ lw_gd := gd_in (ti_6 (List.mem_of_getElem? (i := 44) rfl)) rfl
theorem nRJ6_265 : Cond.constant RJ6 265 (Int32.ofInt (1431655765)) ∈ lw_gd := gd_in (ti_2 (List.mem_of_getElem? (i := 156) rfl)) rfl
theorem nRJ6_266 : Cond.constant RJ6 266 (Int32.ofInt (858993459)) ∈ lw_gd := gd_in (ti_2 (List.mem_of_getElem? (i := 157) rfl)) rfl
theorem nRJ6_267 : Cond.constant RJ6 267 (Int32.ofInt (252645135)) ∈ lw_gd := gd_in (ti_2 (List.mem_of_getElem? (i := 158) rfl)) rfl
