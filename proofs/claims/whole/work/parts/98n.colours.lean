theorem cl_1_9 : Cond.classLink RX1 9 "[[I" ∈ lw_gd := gd_in (ti_2 (List.mem_of_getElem? (i := 4) rfl)) rfl
theorem ic_1 : IC yX1_init cX1_init 1 1 20 12 96 (25, 0) [] [(25, 0), (26, 0), (27, 0), (27, 1), (27, 2), (27, 3), (27, 4), (27, 5), (27, 6), (27, 7), (28, 0), (29, 0), (30, 0)] h00 := by
  refine IC.of (by decide) rfl (by decide) ?_
  intro X C e1 e2 e3 e4 e5 e6 hr
  refine k_aload (n := 0) (q := (25, 0)) C (kd e2 kI_1 (k := 0) rfl) rfl rfl ?_
  refine k_obj (z := (25, 0)) C (kd e2 kI_1 (k := 1) rfl) (show Cond.methodLink X.own 3 _ ∈ lw_gd by rw [e1]; exact il_1_3) ob_i ob_c (by rw [e6]; exact ⟨by decide, by decide⟩) (Nat.le_of_ble_eq_true rfl) ?_
  refine k_aload (n := 0) (q := (25, 0)) C (kd e2 kI_1 (k := 2) rfl) rfl rfl ?_
  refine k_bipush C (kd e2 kI_1 (k := 3) rfl) rfl ⟨by decide, by decide⟩ ?_
  refine k_bipush C (kd e2 kI_1 (k := 4) rfl) rfl ⟨by decide, by decide⟩ ?_
  refine k_mna C (kd e2 kI_1 (k := 5) rfl) (show Cond.classLink X.own 9 _ ∈ lw_gd by rw [e1]; exact cl_1_9) (by rw [e5]; decide) (fun _ _ => rfl) (by rw [e6]; decide) (by rw [e6]; decide) ?_
  refine k_putr (z := (25, 0)) (r := (26, 0)) C (kd e2 kI_1 (k := 6) rfl) (show fpr X.own 11 1 0 by rw [e1]; exact pr_1_11) e4 rfl rfl (by simp) ?_
  refine k_aload (n := 0) (q := (25, 0)) C (kd e2 kI_1 (k := 7) rfl) rfl rfl ?_
  refine k_bipush C (kd e2 kI_1 (k := 8) rfl) rfl ⟨by decide, by decide⟩ ?_
  refine k_newa (z := (28, 0)) (a := 0) (n := 8) (ty := .int) C (kd e2 kI_1 (k := 9) rfl) rfl aw_int rfl rfl (by decide) (fun _ => rfl) (fun _ _ => rfl) rfl rfl (by decide) (by decide) (fun _ => rfl) (nin_of e5 (by decide +kernel)) (fun _ => rfl) (by rw [e6]; decide) (by rw [e6]; decide) ?_
  refine k_putr (z := (25, 0)) (r := (28, 0)) C (kd e2 kI_1 (k := 10) rfl) (show fpr X.own 16 1 1 by rw [e1]; exact pr_1_16) e4 rfl rfl (by simp) ?_
  refine k_aload (n := 0) (q := (25, 0)) C (kd e2 kI_1 (k := 11) rfl) rfl rfl ?_
  refine k_bipush C (kd e2 kI_1 (k := 12) rfl) rfl ⟨by decide, by decide⟩ ?_
  refine k_newa (z := (29, 0)) (a := 0) (n := 8) (ty := .int) C (kd e2 kI_1 (k := 13) rfl) rfl aw_int rfl rfl (by decide) (fun _ => rfl) (fun _ _ => rfl) rfl rfl (by decide) (by decide) (fun _ => rfl) (nin_of e5 (by decide +kernel)) (fun _ => rfl) (by rw [e6]; decide) (by rw [e6]; decide) ?_
  refine k_putr (z := (25, 0)) (r := (29, 0)) C (kd e2 kI_1 (k := 14) rfl) (show fpr X.own 20 1 2 by rw [e1]; exact pr_1_20) e4 rfl rfl (by simp) ?_
  refine k_aload (n := 0) (q := (25, 0)) C (kd e2 kI_1 (k := 15) rfl) rfl rfl ?_
  refine k_bipush C (kd e2 kI_1 (k := 16) rfl) rfl ⟨by decide, by decide⟩ ?_
  refine k_newa (z := (30, 0)) (a := 0) (n := 8) (ty := .int) C (kd e2 kI_1 (k := 17) rfl) rfl aw_int rfl rfl (by decide) (fun _ => rfl) (fun _ _ => rfl) rfl rfl (by decide) (by decide) (fun _ => rfl) (nin_of e5 (by decide +kernel)) (fun _ => rfl) (by rw [e6]; decide) (by rw [e6]; decide) ?_
  refine k_putr (z := (25, 0)) (r := (30, 0)) C (kd e2 kI_1 (k := 18) rfl) (show fpr X.own 23 1 3 by rw [e1]; exact pr_1_23) e4 rfl rfl (by simp) ?_
  exact hr _ _ _ _ _ _ (kd e2 kI_1 (k := 19) rfl) (full_of (by decide +kernel)) (by decide) (by decide)
