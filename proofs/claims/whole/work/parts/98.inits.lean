/-! the constructors -/
theorem ic_4_0 : IC yX4_init cX4_init 1 1 20 1 26 (1, 0) [] [(1, 0), (2, 0)] h00 := by
  refine IC.of (by decide) rfl (by decide) ?_
  intro X C e1 e2 e3 e4 e5 e6 hr
  refine k_aload (n := 0) (q := (1, 0)) C (kd e2 kI_4 (k := 0) rfl) rfl rfl ?_
  refine k_obj (z := (1, 0)) C (kd e2 kI_4 (k := 1) rfl) (show Cond.methodLink X.own 3 _ ∈ lw_gd by rw [e1]; exact il_4_3) ob_i ob_c (by rw [e6]; exact ⟨by decide, by decide⟩) (Nat.le_of_ble_eq_true rfl) ?_
  refine k_aload (n := 0) (q := (1, 0)) C (kd e2 kI_4 (k := 2) rfl) rfl rfl ?_
  refine k_bipush C (kd e2 kI_4 (k := 3) rfl) rfl ⟨by decide, by decide⟩ ?_
  refine k_newa (z := (2, 0)) (a := 0) (n := 26) (ty := .int) C (kd e2 kI_4 (k := 4) rfl) rfl aw_int rfl rfl (by decide) (fun _ => rfl) (fun _ _ => rfl) rfl rfl (by decide) (by decide) (fun _ => rfl) (nin_of e5 (by decide +kernel)) (fun _ => rfl) (by rw [e6]; decide) (by rw [e6]; decide) ?_
  refine k_putr (z := (1, 0)) (r := (2, 0)) C (kd e2 kI_4 (k := 5) rfl) (show fpr X.own 9 4 0 by rw [e1]; exact pr_4_9) e4 rfl rfl (by simp) ?_
  exact hr _ _ _ _ _ _ (kd e2 kI_4 (k := 6) rfl) (full_of (by decide +kernel)) (by decide) (by decide)
theorem ic_4_1 : IC yX4_init cX4_init 1 1 20 1 26 (1, 1) [] [(1, 1), (2, 1)] h00 := by
  refine IC.of (by decide) rfl (by decide) ?_
  intro X C e1 e2 e3 e4 e5 e6 hr
  refine k_aload (n := 0) (q := (1, 1)) C (kd e2 kI_4 (k := 0) rfl) rfl rfl ?_
  refine k_obj (z := (1, 1)) C (kd e2 kI_4 (k := 1) rfl) (show Cond.methodLink X.own 3 _ ∈ lw_gd by rw [e1]; exact il_4_3) ob_i ob_c (by rw [e6]; exact ⟨by decide, by decide⟩) (Nat.le_of_ble_eq_true rfl) ?_
  refine k_aload (n := 0) (q := (1, 1)) C (kd e2 kI_4 (k := 2) rfl) rfl rfl ?_
  refine k_bipush C (kd e2 kI_4 (k := 3) rfl) rfl ⟨by decide, by decide⟩ ?_
  refine k_newa (z := (2, 1)) (a := 0) (n := 26) (ty := .int) C (kd e2 kI_4 (k := 4) rfl) rfl aw_int rfl rfl (by decide) (fun _ => rfl) (fun _ _ => rfl) rfl rfl (by decide) (by decide) (fun _ => rfl) (nin_of e5 (by decide +kernel)) (fun _ => rfl) (by rw [e6]; decide) (by rw [e6]; decide) ?_
  refine k_putr (z := (1, 1)) (r := (2, 1)) C (kd e2 kI_4 (k := 5) rfl) (show fpr X.own 9 4 0 by rw [e1]; exact pr_4_9) e4 rfl rfl (by simp) ?_
  exact hr _ _ _ _ _ _ (kd e2 kI_4 (k := 6) rfl) (full_of (by decide +kernel)) (by decide) (by decide)
theorem ic_0 : IC yX0_init cX0_init 1 1 20 2 30 (14, 0) [] [(14, 0), (15, 0), (16, 0)] h00 := by
  refine IC.of (by decide) rfl (by decide) ?_
  intro X C e1 e2 e3 e4 e5 e6 hr
  refine k_aload (n := 0) (q := (14, 0)) C (kd e2 kI_0 (k := 0) rfl) rfl rfl ?_
  refine k_obj (z := (14, 0)) C (kd e2 kI_0 (k := 1) rfl) (show Cond.methodLink X.own 3 _ ∈ lw_gd by rw [e1]; exact il_0_3) ob_i ob_c (by rw [e6]; exact ⟨by decide, by decide⟩) (Nat.le_of_ble_eq_true rfl) ?_
  refine k_aload (n := 0) (q := (14, 0)) C (kd e2 kI_0 (k := 2) rfl) rfl rfl ?_
  refine k_bipush C (kd e2 kI_0 (k := 3) rfl) rfl ⟨by decide, by decide⟩ ?_
  refine k_newa (z := (15, 0)) (a := 0) (n := 15) (ty := .int) C (kd e2 kI_0 (k := 4) rfl) rfl aw_int rfl rfl (by decide) (fun _ => rfl) (fun _ _ => rfl) rfl rfl (by decide) (by decide) (fun _ => rfl) (nin_of e5 (by decide +kernel)) (fun _ => rfl) (by rw [e6]; decide) (by rw [e6]; decide) ?_
  refine k_putr (z := (14, 0)) (r := (15, 0)) C (kd e2 kI_0 (k := 5) rfl) (show fpr X.own 9 0 0 by rw [e1]; exact pr_0_9) e4 rfl rfl (by simp) ?_
  refine k_aload (n := 0) (q := (14, 0)) C (kd e2 kI_0 (k := 6) rfl) rfl rfl ?_
  refine k_bipush C (kd e2 kI_0 (k := 7) rfl) rfl ⟨by decide, by decide⟩ ?_
  refine k_newa (z := (16, 0)) (a := 0) (n := 15) (ty := .int) C (kd e2 kI_0 (k := 8) rfl) rfl aw_int rfl rfl (by decide) (fun _ => rfl) (fun _ _ => rfl) rfl rfl (by decide) (by decide) (fun _ => rfl) (nin_of e5 (by decide +kernel)) (fun _ => rfl) (by rw [e6]; decide) (by rw [e6]; decide) ?_
  refine k_putr (z := (14, 0)) (r := (16, 0)) C (kd e2 kI_0 (k := 9) rfl) (show fpr X.own 15 0 1 by rw [e1]; exact pr_0_15) e4 rfl rfl (by simp) ?_
  exact hr _ _ _ _ _ _ (kd e2 kI_0 (k := 10) rfl) (full_of (by decide +kernel)) (by decide) (by decide)
theorem ic_3 : IC yX3_init cX3_init 1 1 20 4 68 (17, 0) [] [(17, 0), (18, 0), (19, 0), (20, 0), (21, 0)] h00 := by
  refine IC.of (by decide) rfl (by decide) ?_
  intro X C e1 e2 e3 e4 e5 e6 hr
  refine k_aload (n := 0) (q := (17, 0)) C (kd e2 kI_3 (k := 0) rfl) rfl rfl ?_
  refine k_obj (z := (17, 0)) C (kd e2 kI_3 (k := 1) rfl) (show Cond.methodLink X.own 3 _ ∈ lw_gd by rw [e1]; exact il_3_3) ob_i ob_c (by rw [e6]; exact ⟨by decide, by decide⟩) (Nat.le_of_ble_eq_true rfl) ?_
  refine k_aload (n := 0) (q := (17, 0)) C (kd e2 kI_3 (k := 2) rfl) rfl rfl ?_
  refine k_bipush C (kd e2 kI_3 (k := 3) rfl) rfl ⟨by decide, by decide⟩ ?_
  refine k_newa (z := (18, 0)) (a := 0) (n := 16) (ty := .int) C (kd e2 kI_3 (k := 4) rfl) rfl aw_int rfl rfl (by decide) (fun _ => rfl) (fun _ _ => rfl) rfl rfl (by decide) (by decide) (fun _ => rfl) (nin_of e5 (by decide +kernel)) (fun _ => rfl) (by rw [e6]; decide) (by rw [e6]; decide) ?_
  refine k_putr (z := (17, 0)) (r := (18, 0)) C (kd e2 kI_3 (k := 5) rfl) (show fpr X.own 9 3 0 by rw [e1]; exact pr_3_9) e4 rfl rfl (by simp) ?_
  refine k_aload (n := 0) (q := (17, 0)) C (kd e2 kI_3 (k := 6) rfl) rfl rfl ?_
  refine k_bipush C (kd e2 kI_3 (k := 7) rfl) rfl ⟨by decide, by decide⟩ ?_
  refine k_newa (z := (19, 0)) (a := 0) (n := 8) (ty := .int) C (kd e2 kI_3 (k := 8) rfl) rfl aw_int rfl rfl (by decide) (fun _ => rfl) (fun _ _ => rfl) rfl rfl (by decide) (by decide) (fun _ => rfl) (nin_of e5 (by decide +kernel)) (fun _ => rfl) (by rw [e6]; decide) (by rw [e6]; decide) ?_
  refine k_putr (z := (17, 0)) (r := (19, 0)) C (kd e2 kI_3 (k := 9) rfl) (show fpr X.own 15 3 1 by rw [e1]; exact pr_3_15) e4 rfl rfl (by simp) ?_
  refine k_aload (n := 0) (q := (17, 0)) C (kd e2 kI_3 (k := 10) rfl) rfl rfl ?_
  refine k_bipush C (kd e2 kI_3 (k := 11) rfl) rfl ⟨by decide, by decide⟩ ?_
  refine k_newa (z := (20, 0)) (a := 0) (n := 8) (ty := .int) C (kd e2 kI_3 (k := 12) rfl) rfl aw_int rfl rfl (by decide) (fun _ => rfl) (fun _ _ => rfl) rfl rfl (by decide) (by decide) (fun _ => rfl) (nin_of e5 (by decide +kernel)) (fun _ => rfl) (by rw [e6]; decide) (by rw [e6]; decide) ?_
  refine k_putr (z := (17, 0)) (r := (20, 0)) C (kd e2 kI_3 (k := 13) rfl) (show fpr X.own 18 3 2 by rw [e1]; exact pr_3_18) e4 rfl rfl (by simp) ?_
  refine k_aload (n := 0) (q := (17, 0)) C (kd e2 kI_3 (k := 14) rfl) rfl rfl ?_
  refine k_bipush C (kd e2 kI_3 (k := 15) rfl) rfl ⟨by decide, by decide⟩ ?_
  refine k_newa (z := (21, 0)) (a := 0) (n := 36) (ty := .int) C (kd e2 kI_3 (k := 16) rfl) rfl aw_int rfl rfl (by decide) (fun _ => rfl) (fun _ _ => rfl) rfl rfl (by decide) (by decide) (fun _ => rfl) (nin_of e5 (by decide +kernel)) (fun _ => rfl) (by rw [e6]; decide) (by rw [e6]; decide) ?_
  refine k_putr (z := (17, 0)) (r := (21, 0)) C (kd e2 kI_3 (k := 17) rfl) (show fpr X.own 21 3 3 by rw [e1]; exact pr_3_21) e4 rfl rfl (by simp) ?_
  exact hr _ _ _ _ _ _ (kd e2 kI_3 (k := 18) rfl) (full_of (by decide +kernel)) (by decide) (by decide)
theorem ic_8 : IC yX8_init cX8_init 1 1 20 2 512 (22, 0) [] [(22, 0), (23, 0), (24, 0)] h00 := by
  refine IC.of (by decide) rfl (by decide) ?_
  intro X C e1 e2 e3 e4 e5 e6 hr
  refine k_aload (n := 0) (q := (22, 0)) C (kd e2 kI_8 (k := 0) rfl) rfl rfl ?_
  refine k_obj (z := (22, 0)) C (kd e2 kI_8 (k := 1) rfl) (show Cond.methodLink X.own 3 _ ∈ lw_gd by rw [e1]; exact il_8_3) ob_i ob_c (by rw [e6]; exact ⟨by decide, by decide⟩) (Nat.le_of_ble_eq_true rfl) ?_
  refine k_aload (n := 0) (q := (22, 0)) C (kd e2 kI_8 (k := 2) rfl) rfl rfl ?_
  refine k_sipush C (kd e2 kI_8 (k := 3) rfl) rfl ⟨by decide, by decide⟩ ?_
  refine k_newa (z := (23, 0)) (a := 0) (n := 256) (ty := .int) C (kd e2 kI_8 (k := 4) rfl) rfl aw_int rfl rfl (by decide) (fun _ => rfl) (fun _ _ => rfl) rfl rfl (by decide) (by decide) (fun _ => rfl) (nin_of e5 (by decide +kernel)) (fun _ => rfl) (by rw [e6]; decide) (by rw [e6]; decide) ?_
  refine k_putr (z := (22, 0)) (r := (23, 0)) C (kd e2 kI_8 (k := 5) rfl) (show fpr X.own 9 8 0 by rw [e1]; exact pr_8_9) e4 rfl rfl (by simp) ?_
  refine k_aload (n := 0) (q := (22, 0)) C (kd e2 kI_8 (k := 6) rfl) rfl rfl ?_
  refine k_sipush C (kd e2 kI_8 (k := 7) rfl) rfl ⟨by decide, by decide⟩ ?_
  refine k_newa (z := (24, 0)) (a := 0) (n := 256) (ty := .int) C (kd e2 kI_8 (k := 8) rfl) rfl aw_int rfl rfl (by decide) (fun _ => rfl) (fun _ _ => rfl) rfl rfl (by decide) (by decide) (fun _ => rfl) (nin_of e5 (by decide +kernel)) (fun _ => rfl) (by rw [e6]; decide) (by rw [e6]; decide) ?_
  refine k_putr (z := (22, 0)) (r := (24, 0)) C (kd e2 kI_8 (k := 9) rfl) (show fpr X.own 15 8 1 by rw [e1]; exact pr_8_15) e4 rfl rfl (by simp) ?_
  exact hr _ _ _ _ _ _ (kd e2 kI_8 (k := 10) rfl) (full_of (by decide +kernel)) (by decide) (by decide)
theorem ic_7 : IC yX7_init cX7_init 2 1 20 2 32 (31, 0) [(1, 0)] [(31, 0), (32, 0), (33, 0)] h00 := by
  refine IC.of (by decide) rfl (by decide) ?_
  intro X C e1 e2 e3 e4 e5 e6 hr
  refine k_aload (n := 0) (q := (31, 0)) C (kd e2 kI_7 (k := 0) rfl) rfl rfl ?_
  refine k_obj (z := (31, 0)) C (kd e2 kI_7 (k := 1) rfl) (show Cond.methodLink X.own 3 _ ∈ lw_gd by rw [e1]; exact il_7_3) ob_i ob_c (by rw [e6]; exact ⟨by decide, by decide⟩) (Nat.le_of_ble_eq_true rfl) ?_
  refine k_aload (n := 0) (q := (31, 0)) C (kd e2 kI_7 (k := 2) rfl) rfl rfl ?_
  refine k_aload (n := 1) (q := (1, 0)) C (kd e2 kI_7 (k := 3) rfl) rfl rfl ?_
  refine k_putr (z := (31, 0)) (r := (1, 0)) C (kd e2 kI_7 (k := 4) rfl) (show fpr X.own 9 7 0 by rw [e1]; exact pr_7_9) e4 rfl rfl (by simp) ?_
  refine k_aload (n := 0) (q := (31, 0)) C (kd e2 kI_7 (k := 5) rfl) rfl rfl ?_
  refine k_bipush C (kd e2 kI_7 (k := 6) rfl) rfl ⟨by decide, by decide⟩ ?_
  refine k_newa (z := (32, 0)) (a := 0) (n := 16) (ty := .int) C (kd e2 kI_7 (k := 7) rfl) rfl aw_int rfl rfl (by decide) (fun _ => rfl) (fun _ _ => rfl) rfl rfl (by decide) (by decide) (fun _ => rfl) (nin_of e5 (by decide +kernel)) (fun _ => rfl) (by rw [e6]; decide) (by rw [e6]; decide) ?_
  refine k_putr (z := (31, 0)) (r := (32, 0)) C (kd e2 kI_7 (k := 8) rfl) (show fpr X.own 15 7 1 by rw [e1]; exact pr_7_15) e4 rfl rfl (by simp) ?_
  refine k_aload (n := 0) (q := (31, 0)) C (kd e2 kI_7 (k := 9) rfl) rfl rfl ?_
  refine k_bipush C (kd e2 kI_7 (k := 10) rfl) rfl ⟨by decide, by decide⟩ ?_
  refine k_newa (z := (33, 0)) (a := 0) (n := 16) (ty := .int) C (kd e2 kI_7 (k := 11) rfl) rfl aw_int rfl rfl (by decide) (fun _ => rfl) (fun _ _ => rfl) rfl rfl (by decide) (by decide) (fun _ => rfl) (nin_of e5 (by decide +kernel)) (fun _ => rfl) (by rw [e6]; decide) (by rw [e6]; decide) ?_
  refine k_putr (z := (31, 0)) (r := (33, 0)) C (kd e2 kI_7 (k := 12) rfl) (show fpr X.own 19 7 2 by rw [e1]; exact pr_7_19) e4 rfl rfl (by simp) ?_
  exact hr _ _ _ _ _ _ (kd e2 kI_7 (k := 13) rfl) (full_of (by decide +kernel)) (by decide) (by decide)
theorem ic_5 : IC yX5_init cX5_init 2 2 40 4 285 (7, 0) [(3, 0)] [(7, 0), (8, 0), (1, 1), (2, 1), (9, 0)] (put h00 7 0 10 (-1)) := by
  refine IC.of (by decide) rfl (by decide) ?_
  intro X C e1 e2 e3 e4 e5 e6 hr
  refine k_aload (n := 0) (q := (7, 0)) C (kd e2 kI_5 (k := 0) rfl) rfl rfl ?_
  refine k_obj (z := (7, 0)) C (kd e2 kI_5 (k := 1) rfl) (show Cond.methodLink X.own 3 _ ∈ lw_gd by rw [e1]; exact il_5_3) ob_i ob_c (by rw [e6]; exact ⟨by decide, by decide⟩) (Nat.le_of_ble_eq_true rfl) ?_
  refine k_aload (n := 0) (q := (7, 0)) C (kd e2 kI_5 (k := 2) rfl) rfl rfl ?_
  refine k_sipush C (kd e2 kI_5 (k := 3) rfl) rfl ⟨by decide, by decide⟩ ?_
  refine k_newa (z := (8, 0)) (a := 0) (n := 240) (ty := .int) C (kd e2 kI_5 (k := 4) rfl) rfl aw_int rfl rfl (by decide) (fun _ => rfl) (fun _ _ => rfl) rfl rfl (by decide) (by decide) (fun _ => rfl) (nin_of e5 (by decide +kernel)) (fun _ => rfl) (by rw [e6]; decide) (by rw [e6]; decide) ?_
  refine k_putr (z := (7, 0)) (r := (8, 0)) C (kd e2 kI_5 (k := 5) rfl) (show fpr X.own 9 5 0 by rw [e1]; exact pr_5_9) e4 rfl rfl (by simp) ?_
  refine k_aload (n := 0) (q := (7, 0)) C (kd e2 kI_5 (k := 6) rfl) rfl rfl ?_
  refine k_aload (n := 1) (q := (3, 0)) C (kd e2 kI_5 (k := 7) rfl) rfl rfl ?_
  refine k_putr (z := (7, 0)) (r := (3, 0)) C (kd e2 kI_5 (k := 8) rfl) (show fpr X.own 15 5 1 by rw [e1]; exact pr_5_15) e4 rfl rfl (by simp) ?_
  refine k_aload (n := 0) (q := (7, 0)) C (kd e2 kI_5 (k := 9) rfl) rfl rfl ?_
  refine k_new (z := (1, 1)) (ty := tyX4) (ci := 4) C (kd e2 kI_5 (k := 10) rfl) rfl rfl tyX4_ok (show Cond.classLink X.own 19 _ ∈ lw_gd by rw [e1]; exact cl_5_19) ii_4 in_4 (nin_of e5 (by decide +kernel)) (fun _ => rfl) (df_4 _) (by rw [e6]; decide) (by rw [e6]; decide) ?_
  refine k_dup (q := (1, 1)) C (kd e2 kI_5 (k := 11) rfl) ?_
  refine k_initB (h' := h00) (K := [(7, 0), (3, 0)]) (L1 := [(7, 0), (8, 0)]) (LL := [(1, 1), (2, 1)]) (z := (1, 1)) (as := []) (by decide +kernel) e5 C (kd e2 kI_5 (k := 12) rfl) ic_4_1 (show Cond.methodLink X.own 21 _ ∈ lw_gd by rw [e1]; exact il_5_21) io_4 (by rw [e6]; exact ⟨by decide, by decide⟩) (by rw [e6]; exact ⟨by decide, by decide⟩) rfl rfl (Nat.le_of_ble_eq_true rfl) rfl (fun _ _ => rfl) (fun _ _ => rfl) ?_
  refine k_putr (z := (7, 0)) (r := (1, 1)) C (kd e2 kI_5 (k := 13) rfl) (show fpr X.own 22 5 2 by rw [e1]; exact pr_5_22) e4 rfl rfl (by simp) ?_
  refine k_aload (n := 0) (q := (7, 0)) C (kd e2 kI_5 (k := 14) rfl) rfl rfl ?_
  refine k_bipush C (kd e2 kI_5 (k := 15) rfl) rfl ⟨by decide, by decide⟩ ?_
  refine k_newa (z := (9, 0)) (a := 0) (n := 16) (ty := .int) C (kd e2 kI_5 (k := 16) rfl) rfl aw_int rfl rfl (by decide) (fun _ => rfl) (fun _ _ => rfl) rfl rfl (by decide) (by decide) (fun _ => rfl) (nin_of e5 (by decide +kernel)) (fun _ => rfl) (by rw [e6]; decide) (by rw [e6]; decide) ?_
  refine k_putr (z := (7, 0)) (r := (9, 0)) C (kd e2 kI_5 (k := 17) rfl) (show fpr X.own 26 5 3 by rw [e1]; exact pr_5_26) e4 rfl rfl (by simp) ?_
  refine k_aload (n := 0) (q := (7, 0)) C (kd e2 kI_5 (k := 18) rfl) rfl rfl ?_
  refine k_iconst C (kd e2 kI_5 (k := 19) rfl) ⟨by decide, by decide⟩ ?_
  refine k_puti (z := (7, 0)) C (kd e2 kI_5 (k := 20) rfl) (show fp X.own 29 5 10 .int by rw [e1]; exact pi_5_29) rfl rfl rfl (by simp) ?_
  exact hr _ _ _ _ _ _ (kd e2 kI_5 (k := 21) rfl) (full_of (by decide +kernel)) (by decide) (by decide)
theorem ic_11 : IC yX11_init cX11_init 1 1 20 21 2813 (40, 0) [] [(40, 0), (41, 0), (42, 0), (43, 0), (44, 0), (45, 0), (46, 0), (47, 0), (48, 0), (49, 0), (50, 0), (51, 0), (52, 0), (53, 0), (54, 0), (55, 0), (56, 0), (57, 0), (58, 0), (59, 0), (60, 0), (61, 0)] (put (put h00 40 0 11 (-1)) 40 0 3 (0)) := by
  refine IC.of (by decide) rfl (by decide) ?_
  intro X C e1 e2 e3 e4 e5 e6 hr
  refine k_aload (n := 0) (q := (40, 0)) C (kd e2 kI_11 (k := 0) rfl) rfl rfl ?_
  refine k_obj (z := (40, 0)) C (kd e2 kI_11 (k := 1) rfl) (show Cond.methodLink X.own 1 _ ∈ lw_gd by rw [e1]; exact il_11_1) ob_i ob_c (by rw [e6]; exact ⟨by decide, by decide⟩) (Nat.le_of_ble_eq_true rfl) ?_
  refine k_aload (n := 0) (q := (40, 0)) C (kd e2 kI_11 (k := 2) rfl) rfl rfl ?_
  refine k_sipush C (kd e2 kI_11 (k := 3) rfl) rfl ⟨by decide, by decide⟩ ?_
  refine k_newa (z := (41, 0)) (a := 0) (n := 1748) (ty := .int) C (kd e2 kI_11 (k := 4) rfl) rfl aw_int rfl rfl (by decide) (fun _ => rfl) (fun _ _ => rfl) rfl rfl (by decide) (by decide) (fun _ => rfl) (nin_of e5 (by decide +kernel)) (fun _ => rfl) (by rw [e6]; decide) (by rw [e6]; decide) ?_
  refine k_putr (z := (40, 0)) (r := (41, 0)) C (kd e2 kI_11 (k := 5) rfl) (show fpr X.own 7 11 0 by rw [e1]; exact pr_11_7) e4 rfl rfl (by simp) ?_
  refine k_aload (n := 0) (q := (40, 0)) C (kd e2 kI_11 (k := 6) rfl) rfl rfl ?_
  refine k_iconst C (kd e2 kI_11 (k := 7) rfl) ⟨by decide, by decide⟩ ?_
  refine k_newa (z := (42, 0)) (a := 0) (n := 2) (ty := .int) C (kd e2 kI_11 (k := 8) rfl) rfl aw_int rfl rfl (by decide) (fun _ => rfl) (fun _ _ => rfl) rfl rfl (by decide) (by decide) (fun _ => rfl) (nin_of e5 (by decide +kernel)) (fun _ => rfl) (by rw [e6]; decide) (by rw [e6]; decide) ?_
  refine k_putr (z := (40, 0)) (r := (42, 0)) C (kd e2 kI_11 (k := 9) rfl) (show fpr X.own 13 11 4 by rw [e1]; exact pr_11_13) e4 rfl rfl (by simp) ?_
  refine k_aload (n := 0) (q := (40, 0)) C (kd e2 kI_11 (k := 10) rfl) rfl rfl ?_
  refine k_iconst C (kd e2 kI_11 (k := 11) rfl) ⟨by decide, by decide⟩ ?_
  refine k_newa (z := (43, 0)) (a := 0) (n := 2) (ty := .int) C (kd e2 kI_11 (k := 12) rfl) rfl aw_int rfl rfl (by decide) (fun _ => rfl) (fun _ _ => rfl) rfl rfl (by decide) (by decide) (fun _ => rfl) (nin_of e5 (by decide +kernel)) (fun _ => rfl) (by rw [e6]; decide) (by rw [e6]; decide) ?_
  refine k_putr (z := (40, 0)) (r := (43, 0)) C (kd e2 kI_11 (k := 13) rfl) (show fpr X.own 16 11 5 by rw [e1]; exact pr_11_16) e4 rfl rfl (by simp) ?_
  refine k_aload (n := 0) (q := (40, 0)) C (kd e2 kI_11 (k := 14) rfl) rfl rfl ?_
  refine k_sipush C (kd e2 kI_11 (k := 15) rfl) rfl ⟨by decide, by decide⟩ ?_
  refine k_newa (z := (44, 0)) (a := 1) (n := 240) (ty := .byte) C (kd e2 kI_11 (k := 16) rfl) rfl aw_byte rfl rfl (by decide) (fun _ => rfl) (fun _ _ => rfl) rfl rfl (by decide) (by decide) (fun _ => rfl) (nin_of e5 (by decide +kernel)) (fun _ => rfl) (by rw [e6]; decide) (by rw [e6]; decide) ?_
  refine k_putr (z := (40, 0)) (r := (44, 0)) C (kd e2 kI_11 (k := 17) rfl) (show fpr X.own 19 11 7 by rw [e1]; exact pr_11_19) e4 rfl rfl (by simp) ?_
  refine k_aload (n := 0) (q := (40, 0)) C (kd e2 kI_11 (k := 18) rfl) rfl rfl ?_
  refine k_iconst C (kd e2 kI_11 (k := 19) rfl) ⟨by decide, by decide⟩ ?_
  refine k_puti (z := (40, 0)) C (kd e2 kI_11 (k := 20) rfl) (show fp X.own 23 11 11 .int by rw [e1]; exact pi_11_23) rfl rfl rfl (by simp) ?_
  refine k_aload (n := 0) (q := (40, 0)) C (kd e2 kI_11 (k := 21) rfl) rfl rfl ?_
  refine k_iconst C (kd e2 kI_11 (k := 22) rfl) ⟨by decide, by decide⟩ ?_
  refine k_newa (z := (45, 0)) (a := 0) (n := 5) (ty := .int) C (kd e2 kI_11 (k := 23) rfl) rfl aw_int rfl rfl (by decide) (fun _ => rfl) (fun _ _ => rfl) rfl rfl (by decide) (by decide) (fun _ => rfl) (nin_of e5 (by decide +kernel)) (fun _ => by simp [put, h00]) (by rw [e6]; decide) (by rw [e6]; decide) ?_
  refine k_putr (z := (40, 0)) (r := (45, 0)) C (kd e2 kI_11 (k := 24) rfl) (show fpr X.own 27 11 14 by rw [e1]; exact pr_11_27) e4 rfl rfl (by simp) ?_
  refine k_aload (n := 0) (q := (40, 0)) C (kd e2 kI_11 (k := 25) rfl) rfl rfl ?_
  refine k_bipush C (kd e2 kI_11 (k := 26) rfl) rfl ⟨by decide, by decide⟩ ?_
  refine k_newa (z := (46, 0)) (a := 0) (n := 80) (ty := .int) C (kd e2 kI_11 (k := 27) rfl) rfl aw_int rfl rfl (by decide) (fun _ => rfl) (fun _ _ => rfl) rfl rfl (by decide) (by decide) (fun _ => rfl) (nin_of e5 (by decide +kernel)) (fun _ => by simp [put, h00]) (by rw [e6]; decide) (by rw [e6]; decide) ?_
  refine k_putr (z := (40, 0)) (r := (46, 0)) C (kd e2 kI_11 (k := 28) rfl) (show fpr X.own 30 11 15 by rw [e1]; exact pr_11_30) e4 rfl rfl (by simp) ?_
  refine k_aload (n := 0) (q := (40, 0)) C (kd e2 kI_11 (k := 29) rfl) rfl rfl ?_
  refine k_bipush C (kd e2 kI_11 (k := 30) rfl) rfl ⟨by decide, by decide⟩ ?_
  refine k_newa (z := (47, 0)) (a := 0) (n := 26) (ty := .int) C (kd e2 kI_11 (k := 31) rfl) rfl aw_int rfl rfl (by decide) (fun _ => rfl) (fun _ _ => rfl) rfl rfl (by decide) (by decide) (fun _ => rfl) (nin_of e5 (by decide +kernel)) (fun _ => by simp [put, h00]) (by rw [e6]; decide) (by rw [e6]; decide) ?_
  refine k_putr (z := (40, 0)) (r := (47, 0)) C (kd e2 kI_11 (k := 32) rfl) (show fpr X.own 33 11 16 by rw [e1]; exact pr_11_33) e4 rfl rfl (by simp) ?_
  refine k_aload (n := 0) (q := (40, 0)) C (kd e2 kI_11 (k := 33) rfl) rfl rfl ?_
  refine k_bipush C (kd e2 kI_11 (k := 34) rfl) rfl ⟨by decide, by decide⟩ ?_
  refine k_newa (z := (48, 0)) (a := 0) (n := 15) (ty := .int) C (kd e2 kI_11 (k := 35) rfl) rfl aw_int rfl rfl (by decide) (fun _ => rfl) (fun _ _ => rfl) rfl rfl (by decide) (by decide) (fun _ => rfl) (nin_of e5 (by decide +kernel)) (fun _ => by simp [put, h00]) (by rw [e6]; decide) (by rw [e6]; decide) ?_
  refine k_putr (z := (40, 0)) (r := (48, 0)) C (kd e2 kI_11 (k := 36) rfl) (show fpr X.own 36 11 18 by rw [e1]; exact pr_11_36) e4 rfl rfl (by simp) ?_
  refine k_aload (n := 0) (q := (40, 0)) C (kd e2 kI_11 (k := 37) rfl) rfl rfl ?_
  refine k_bipush C (kd e2 kI_11 (k := 38) rfl) rfl ⟨by decide, by decide⟩ ?_
  refine k_newa (z := (49, 0)) (a := 0) (n := 15) (ty := .int) C (kd e2 kI_11 (k := 39) rfl) rfl aw_int rfl rfl (by decide) (fun _ => rfl) (fun _ _ => rfl) rfl rfl (by decide) (by decide) (fun _ => rfl) (nin_of e5 (by decide +kernel)) (fun _ => by simp [put, h00]) (by rw [e6]; decide) (by rw [e6]; decide) ?_
  refine k_putr (z := (40, 0)) (r := (49, 0)) C (kd e2 kI_11 (k := 40) rfl) (show fpr X.own 39 11 19 by rw [e1]; exact pr_11_39) e4 rfl rfl (by simp) ?_
  refine k_aload (n := 0) (q := (40, 0)) C (kd e2 kI_11 (k := 41) rfl) rfl rfl ?_
  refine k_bipush C (kd e2 kI_11 (k := 42) rfl) rfl ⟨by decide, by decide⟩ ?_
  refine k_newa (z := (50, 0)) (a := 0) (n := 16) (ty := .int) C (kd e2 kI_11 (k := 43) rfl) rfl aw_int rfl rfl (by decide) (fun _ => rfl) (fun _ _ => rfl) rfl rfl (by decide) (by decide) (fun _ => rfl) (nin_of e5 (by decide +kernel)) (fun _ => by simp [put, h00]) (by rw [e6]; decide) (by rw [e6]; decide) ?_
  refine k_putr (z := (40, 0)) (r := (50, 0)) C (kd e2 kI_11 (k := 44) rfl) (show fpr X.own 42 11 21 by rw [e1]; exact pr_11_42) e4 rfl rfl (by simp) ?_
  refine k_aload (n := 0) (q := (40, 0)) C (kd e2 kI_11 (k := 45) rfl) rfl rfl ?_
  refine k_bipush C (kd e2 kI_11 (k := 46) rfl) rfl ⟨by decide, by decide⟩ ?_
  refine k_newa (z := (51, 0)) (a := 0) (n := 16) (ty := .int) C (kd e2 kI_11 (k := 47) rfl) rfl aw_int rfl rfl (by decide) (fun _ => rfl) (fun _ _ => rfl) rfl rfl (by decide) (by decide) (fun _ => rfl) (nin_of e5 (by decide +kernel)) (fun _ => by simp [put, h00]) (by rw [e6]; decide) (by rw [e6]; decide) ?_
  refine k_putr (z := (40, 0)) (r := (51, 0)) C (kd e2 kI_11 (k := 48) rfl) (show fpr X.own 45 11 22 by rw [e1]; exact pr_11_45) e4 rfl rfl (by simp) ?_
  refine k_aload (n := 0) (q := (40, 0)) C (kd e2 kI_11 (k := 49) rfl) rfl rfl ?_
  refine k_bipush C (kd e2 kI_11 (k := 50) rfl) rfl ⟨by decide, by decide⟩ ?_
  refine k_newa (z := (52, 0)) (a := 0) (n := 16) (ty := .int) C (kd e2 kI_11 (k := 51) rfl) rfl aw_int rfl rfl (by decide) (fun _ => rfl) (fun _ _ => rfl) rfl rfl (by decide) (by decide) (fun _ => rfl) (nin_of e5 (by decide +kernel)) (fun _ => by simp [put, h00]) (by rw [e6]; decide) (by rw [e6]; decide) ?_
  refine k_putr (z := (40, 0)) (r := (52, 0)) C (kd e2 kI_11 (k := 52) rfl) (show fpr X.own 48 11 23 by rw [e1]; exact pr_11_48) e4 rfl rfl (by simp) ?_
  refine k_aload (n := 0) (q := (40, 0)) C (kd e2 kI_11 (k := 53) rfl) rfl rfl ?_
  refine k_bipush C (kd e2 kI_11 (k := 54) rfl) rfl ⟨by decide, by decide⟩ ?_
  refine k_newa (z := (53, 0)) (a := 0) (n := 16) (ty := .int) C (kd e2 kI_11 (k := 55) rfl) rfl aw_int rfl rfl (by decide) (fun _ => rfl) (fun _ _ => rfl) rfl rfl (by decide) (by decide) (fun _ => rfl) (nin_of e5 (by decide +kernel)) (fun _ => by simp [put, h00]) (by rw [e6]; decide) (by rw [e6]; decide) ?_
  refine k_putr (z := (40, 0)) (r := (53, 0)) C (kd e2 kI_11 (k := 56) rfl) (show fpr X.own 51 11 26 by rw [e1]; exact pr_11_51) e4 rfl rfl (by simp) ?_
  refine k_aload (n := 0) (q := (40, 0)) C (kd e2 kI_11 (k := 57) rfl) rfl rfl ?_
  refine k_sipush C (kd e2 kI_11 (k := 58) rfl) rfl ⟨by decide, by decide⟩ ?_
  refine k_newa (z := (54, 0)) (a := 0) (n := 256) (ty := .int) C (kd e2 kI_11 (k := 59) rfl) rfl aw_int rfl rfl (by decide) (fun _ => rfl) (fun _ _ => rfl) rfl rfl (by decide) (by decide) (fun _ => rfl) (nin_of e5 (by decide +kernel)) (fun _ => by simp [put, h00]) (by rw [e6]; decide) (by rw [e6]; decide) ?_
  refine k_putr (z := (40, 0)) (r := (54, 0)) C (kd e2 kI_11 (k := 60) rfl) (show fpr X.own 54 11 27 by rw [e1]; exact pr_11_54) e4 rfl rfl (by simp) ?_
  refine k_aload (n := 0) (q := (40, 0)) C (kd e2 kI_11 (k := 61) rfl) rfl rfl ?_
  refine k_sipush C (kd e2 kI_11 (k := 62) rfl) rfl ⟨by decide, by decide⟩ ?_
  refine k_newa (z := (55, 0)) (a := 0) (n := 256) (ty := .int) C (kd e2 kI_11 (k := 63) rfl) rfl aw_int rfl rfl (by decide) (fun _ => rfl) (fun _ _ => rfl) rfl rfl (by decide) (by decide) (fun _ => rfl) (nin_of e5 (by decide +kernel)) (fun _ => by simp [put, h00]) (by rw [e6]; decide) (by rw [e6]; decide) ?_
  refine k_putr (z := (40, 0)) (r := (55, 0)) C (kd e2 kI_11 (k := 64) rfl) (show fpr X.own 57 11 28 by rw [e1]; exact pr_11_57) e4 rfl rfl (by simp) ?_
  refine k_aload (n := 0) (q := (40, 0)) C (kd e2 kI_11 (k := 65) rfl) rfl rfl ?_
  refine k_bipush C (kd e2 kI_11 (k := 66) rfl) rfl ⟨by decide, by decide⟩ ?_
  refine k_newa (z := (56, 0)) (a := 0) (n := 8) (ty := .int) C (kd e2 kI_11 (k := 67) rfl) rfl aw_int rfl rfl (by decide) (fun _ => rfl) (fun _ _ => rfl) rfl rfl (by decide) (by decide) (fun _ => rfl) (nin_of e5 (by decide +kernel)) (fun _ => by simp [put, h00]) (by rw [e6]; decide) (by rw [e6]; decide) ?_
  refine k_putr (z := (40, 0)) (r := (56, 0)) C (kd e2 kI_11 (k := 68) rfl) (show fpr X.own 60 11 29 by rw [e1]; exact pr_11_60) e4 rfl rfl (by simp) ?_
  refine k_aload (n := 0) (q := (40, 0)) C (kd e2 kI_11 (k := 69) rfl) rfl rfl ?_
  refine k_bipush C (kd e2 kI_11 (k := 70) rfl) rfl ⟨by decide, by decide⟩ ?_
  refine k_newa (z := (57, 0)) (a := 0) (n := 8) (ty := .int) C (kd e2 kI_11 (k := 71) rfl) rfl aw_int rfl rfl (by decide) (fun _ => rfl) (fun _ _ => rfl) rfl rfl (by decide) (by decide) (fun _ => rfl) (nin_of e5 (by decide +kernel)) (fun _ => by simp [put, h00]) (by rw [e6]; decide) (by rw [e6]; decide) ?_
  refine k_putr (z := (40, 0)) (r := (57, 0)) C (kd e2 kI_11 (k := 72) rfl) (show fpr X.own 63 11 30 by rw [e1]; exact pr_11_63) e4 rfl rfl (by simp) ?_
  refine k_aload (n := 0) (q := (40, 0)) C (kd e2 kI_11 (k := 73) rfl) rfl rfl ?_
  refine k_bipush C (kd e2 kI_11 (k := 74) rfl) rfl ⟨by decide, by decide⟩ ?_
  refine k_newa (z := (58, 0)) (a := 0) (n := 64) (ty := .int) C (kd e2 kI_11 (k := 75) rfl) rfl aw_int rfl rfl (by decide) (fun _ => rfl) (fun _ _ => rfl) rfl rfl (by decide) (by decide) (fun _ => rfl) (nin_of e5 (by decide +kernel)) (fun _ => by simp [put, h00]) (by rw [e6]; decide) (by rw [e6]; decide) ?_
  refine k_putr (z := (40, 0)) (r := (58, 0)) C (kd e2 kI_11 (k := 76) rfl) (show fpr X.own 66 11 31 by rw [e1]; exact pr_11_66) e4 rfl rfl (by simp) ?_
  refine k_aload (n := 0) (q := (40, 0)) C (kd e2 kI_11 (k := 77) rfl) rfl rfl ?_
  refine k_bipush C (kd e2 kI_11 (k := 78) rfl) rfl ⟨by decide, by decide⟩ ?_
  refine k_newa (z := (59, 0)) (a := 0) (n := 8) (ty := .int) C (kd e2 kI_11 (k := 79) rfl) rfl aw_int rfl rfl (by decide) (fun _ => rfl) (fun _ _ => rfl) rfl rfl (by decide) (by decide) (fun _ => rfl) (nin_of e5 (by decide +kernel)) (fun _ => by simp [put, h00]) (by rw [e6]; decide) (by rw [e6]; decide) ?_
  refine k_putr (z := (40, 0)) (r := (59, 0)) C (kd e2 kI_11 (k := 80) rfl) (show fpr X.own 69 11 32 by rw [e1]; exact pr_11_69) e4 rfl rfl (by simp) ?_
  refine k_aload (n := 0) (q := (40, 0)) C (kd e2 kI_11 (k := 81) rfl) rfl rfl ?_
  refine k_bipush C (kd e2 kI_11 (k := 82) rfl) rfl ⟨by decide, by decide⟩ ?_
  refine k_newa (z := (60, 0)) (a := 0) (n := 8) (ty := .int) C (kd e2 kI_11 (k := 83) rfl) rfl aw_int rfl rfl (by decide) (fun _ => rfl) (fun _ _ => rfl) rfl rfl (by decide) (by decide) (fun _ => rfl) (nin_of e5 (by decide +kernel)) (fun _ => by simp [put, h00]) (by rw [e6]; decide) (by rw [e6]; decide) ?_
  refine k_putr (z := (40, 0)) (r := (60, 0)) C (kd e2 kI_11 (k := 84) rfl) (show fpr X.own 72 11 33 by rw [e1]; exact pr_11_72) e4 rfl rfl (by simp) ?_
  refine k_aload (n := 0) (q := (40, 0)) C (kd e2 kI_11 (k := 85) rfl) rfl rfl ?_
  refine k_bipush C (kd e2 kI_11 (k := 86) rfl) rfl ⟨by decide, by decide⟩ ?_
  refine k_newa (z := (61, 0)) (a := 0) (n := 8) (ty := .int) C (kd e2 kI_11 (k := 87) rfl) rfl aw_int rfl rfl (by decide) (fun _ => rfl) (fun _ _ => rfl) rfl rfl (by decide) (by decide) (fun _ => rfl) (nin_of e5 (by decide +kernel)) (fun _ => by simp [put, h00]) (by rw [e6]; decide) (by rw [e6]; decide) ?_
  refine k_putr (z := (40, 0)) (r := (61, 0)) C (kd e2 kI_11 (k := 88) rfl) (show fpr X.own 75 11 34 by rw [e1]; exact pr_11_75) e4 rfl rfl (by simp) ?_
  refine k_aload (n := 0) (q := (40, 0)) C (kd e2 kI_11 (k := 89) rfl) rfl rfl ?_
  refine k_iconst C (kd e2 kI_11 (k := 90) rfl) ⟨by decide, by decide⟩ ?_
  refine k_puti (z := (40, 0)) C (kd e2 kI_11 (k := 91) rfl) (show fp X.own 78 11 3 .int by rw [e1]; exact pi_11_78) rfl rfl rfl (by simp) ?_
  exact hr _ _ _ _ _ _ (kd e2 kI_11 (k := 92) rfl) (full_of (by decide +kernel)) (by decide) (by decide)
