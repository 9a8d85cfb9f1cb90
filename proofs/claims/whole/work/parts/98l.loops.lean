theorem n6 : ∀ j, j < 100 → (([(5, j), (1, 0)] ++ [(5, j)] : List Tg).contains (6, j)) = false := by decide +kernel
theorem f6 : ∀ j, j < 100 → fullB [(6, j)] [(5, j, 0), (5, j, 1)] [(5, j), (6, j)] = true := by decide +kernel
theorem ic_6 (j : Nat) (hj : j < 100) : IC yX6_init cX6_init 2 1 20 1 16 (5, j) [(1, 0)] [(5, j), (6, j)] h00 := by
  refine IC.of (by decide) rfl (Nat.le_of_ble_eq_true rfl) ?_
  intro X C e1 e2 e3 e4 e5 e6 hr
  refine k_aload (n := 0) (q := (5, j)) C (kd e2 kI_6 (k := 0) rfl) rfl rfl ?_
  refine k_obj (z := (5, j)) C (kd e2 kI_6 (k := 1) rfl) (show Cond.methodLink X.own 3 _ ∈ lw_gd by rw [e1]; exact il_6_3) ob_i ob_c (by rw [e6]; exact ⟨by decide, by decide⟩) (Nat.le_of_ble_eq_true rfl) ?_
  refine k_aload (n := 0) (q := (5, j)) C (kd e2 kI_6 (k := 2) rfl) rfl rfl ?_
  refine k_aload (n := 1) (q := (1, 0)) C (kd e2 kI_6 (k := 3) rfl) rfl rfl ?_
  refine k_putr (z := (5, j)) (r := (1, 0)) C (kd e2 kI_6 (k := 4) rfl) (show fpr X.own 9 6 0 by rw [e1]; exact pr_6_9) e4 rfl rfl (by simp) ?_
  refine k_aload (n := 0) (q := (5, j)) C (kd e2 kI_6 (k := 5) rfl) rfl rfl ?_
  refine k_bipush C (kd e2 kI_6 (k := 6) rfl) rfl ⟨by decide, by decide⟩ ?_
  refine k_newa (z := (6, j)) (a := 0) (n := 16) (ty := .int) C (kd e2 kI_6 (k := 7) rfl) rfl aw_int rfl rfl (by decide) (fun _ => rfl) (fun _ _ => rfl) rfl rfl (by decide) (by decide) (fun _ => rfl) (nin_of e5 (n6 j hj)) (fun _ => rfl) (by rw [e6]; decide) (by rw [e6]; decide) ?_
  refine k_putr (z := (5, j)) (r := (6, j)) C (kd e2 kI_6 (k := 8) rfl) (show fpr X.own 15 6 1 by rw [e1]; exact pr_6_15) e4 rfl rfl (by simp) ?_
  exact hr _ _ _ _ _ _ (kd e2 kI_6 (k := 9) rfl) (full_of (f6 j hj)) (by decide) (by decide)
def nolong (lv : LV) : Bool := lv.all fun q => match q.2 with
  | .inr (.inl _) => false
  | _ => true
theorem nl_of {lv : LV} (h : nolong lv = true) : ∀ q ∈ lv, ∀ x, q.2 ≠ .inr (.inl x) := by
  intro q hq x e
  have := List.all_eq_true.mp h q hq
  rw [e] at this
  cases this
def rpL (t : Nat) : Nat → List Tg
  | 0 => []
  | k + 1 => rpL t k ++ [(5, 5 * t + k), (6, 5 * t + k)]
def rpM (t : Nat) : Nat → List (Nat × Nat × Nat)
  | 0 => [(3, t, 0)]
  | k + 1 => rpM t k ++ [(4, t, k)]
def trL (t : Nat) : List Tg := (3, t) :: (4, t) :: rpL t 5
def hyL : Nat → List Tg
  | 0 => []
  | k + 1 => hyL k ++ trL (2 + k)
def hyM : Nat → List (Nat × Nat × Nat)
  | 0 => [(10, 0, 0)]
  | k + 1 => hyM k ++ [(11, 0, k)]
theorem n9 : ∀ t, t < 20 → ∀ k, k < 5 → (([(3, t), (1, 0)] ++ ((3, t) :: (4, t) :: rpL t k) : List Tg).contains (5, 5 * t + k)) = false := by decide +kernel
theorem n9a : ∀ t, t < 20 → (([(3, t), (1, 0)] ++ [(3, t)] : List Tg).contains (4, t)) = false := by decide +kernel
theorem b9 : ∀ t, t < 20 → ∀ k, k < 5 → inB (rpL t k) (rpM t k) [(3, t), (1, 0)] ((3, t) :: (4, t) :: rpL t k) [(5, 5 * t + k), (6, 5 * t + k)] (5, 5 * t + k) [(1, 0)] = true := by decide +kernel
theorem m9 : ∀ t, t < 20 → ∀ k, k < 5 → mkb (rpL t k) (rpM t k) 3 t 0 = true := by decide +kernel
theorem f9 : ∀ t, t < 20 → fullB (rpL t 5) (rpM t 5) (trL t) = true := by decide +kernel
theorem n2 : ∀ k, k < 16 → (([(10, 0), (1, 0)] ++ ((10, 0) :: (11, 0) :: hyL k) : List Tg).contains (3, 2 + k)) = false := by decide +kernel
theorem b2 : ∀ k, k < 16 → inB (hyL k) (hyM k) [(10, 0), (1, 0)] ((10, 0) :: (11, 0) :: hyL k) (trL (2 + k)) (3, 2 + k) [(1, 0)] = true := by decide +kernel
theorem m2 : ∀ k, k < 16 → mkb (hyL k) (hyM k) 10 0 0 = true := by decide +kernel
theorem f2 : fullB (hyL 16) (hyM 16) ((10, 0) :: (11, 0) :: hyL 16) = true := by decide +kernel

theorem ic_9 (t : Nat) (ht : t < 20) : IC yX9_init cX9_init 3 2 41 11 105 (3, t) [(1, 0)] (trL t) h00 := by
  refine IC.of (by decide) rfl (Nat.le_of_ble_eq_true rfl) ?_
  intro X C e1 e2 e3 e4 e5 e6 hr
  have Lp : ∀ (d k cl sl : Nat), k + d = 5 → cl = 1 + 2 * k → sl = 5 + 20 * k → KJ X 14 [(2, vi (k : Int)), (0, vr 3 t), (1, vr 1 0)] [] (rpL t k) (rpM t k) h00 ((3, t) :: (4, t) :: rpL t k) cl sl := by
    intro d
    induction d with
    | zero =>
      intro k cl sl hk hc hs
      have hk : k = 5 := by omega
      subst hk
      refine k_iload (n := 0) (a := ((5 : Nat) : Int)) C (kd e2 kI_9 (k := 8) rfl) rfl rfl ?_
      refine k_iconst C (kd e2 kI_9 (k := 9) rfl) ⟨by decide, by decide⟩ ?_
      refine k_ge (tgt := 39) C (kd e2 kI_9 (k := 10) rfl) (by decide) (fun _ => ?_) (fun q => absurd (by decide) q)
      exact hr _ _ _ _ _ _ (kd e2 kI_9 (k := 21) rfl) (full_of (f9 t ht)) (by omega) (by omega)
    | succ d ih =>
      intro k cl sl hk hc hs
      have hk5 : k < 5 := by omega
      refine k_iload (n := 0) (a := (k : Int)) C (kd e2 kI_9 (k := 8) rfl) rfl rfl ?_
      refine k_iconst C (kd e2 kI_9 (k := 9) rfl) ⟨by decide, by decide⟩ ?_
      refine k_ge (tgt := 39) C (kd e2 kI_9 (k := 10) rfl) (by decide) (fun q => absurd q (by omega)) (fun _ => ?_)
      refine k_aload (n := 1) (q := (3, t)) C (kd e2 kI_9 (k := 11) rfl) rfl rfl ?_
      refine k_getr (z := (3, t)) (r := (4, t)) C (kd e2 kI_9 (k := 12) rfl) (show fpr X.own 11 9 0 by rw [e1]; exact pr_9_11) rfl rfl (m9 t ht k hk5) (by simp) ?_
      refine k_iload (n := 0) (a := (k : Int)) C (kd e2 kI_9 (k := 13) rfl) rfl rfl ?_
      refine k_new (z := (5, 5 * t + k)) (ty := tyX6) (ci := 6) C (kd e2 kI_9 (k := 14) rfl) rfl rfl tyX6_ok (show Cond.classLink X.own 9 _ ∈ lw_gd by rw [e1]; exact cl_9_9) ii_6 in_6 (nin_of e5 (n9 t ht k hk5)) (fun _ => rfl) (df_6 _) (by rw [e6]; show cl + 1 ≤ 11; omega) (by rw [e6]; show sl + 4 ≤ 105; omega) ?_
      refine k_dup (q := (5, 5 * t + k)) C (kd e2 kI_9 (k := 15) rfl) ?_
      refine k_aload (n := 2) (q := (1, 0)) C (kd e2 kI_9 (k := 16) rfl) rfl rfl ?_
      refine k_initB (h' := h00) (K := [(3, t), (1, 0)]) (L1 := (3, t) :: (4, t) :: rpL t k) (LL := [(5, 5 * t + k), (6, 5 * t + k)]) (z := (5, 5 * t + k)) (as := [(1, 0)]) (b9 t ht k hk5) e5 C (kd e2 kI_9 (k := 17) rfl) (ic_6 (5 * t + k) (by omega)) (show Cond.methodLink X.own 17 _ ∈ lw_gd by rw [e1]; exact il_9_17) io_6 (by rw [e6]; exact ⟨by decide, by decide⟩) (by rw [e6]; exact ⟨(by show cl + 1 + 1 ≤ 11; omega), (by show sl + 4 + 16 ≤ 105; omega)⟩) rfl rfl (Nat.le_of_ble_eq_true rfl) rfl (fun _ _ => rfl) (fun _ _ => rfl) ?_
      refine k_ast (z := (4, t)) (r := (5, 5 * t + k)) (a := 3) (n := 5) (ci := 6) (j := k) C (kd e2 kI_9 (k := 18) rfl) rfl rfl (by decide) (fun _ => rfl) rfl rfl rfl hk5 (by decide) rfl (by simp) (by simp [trL]) ?_
      refine k_iinc (k := 0) (a := (k : Int)) (b := ((k + 1 : Nat) : Int)) C (kd e2 kI_9 (k := 19) rfl) rfl (by omega) ⟨by omega, by omega⟩ (by rw [e3]; decide) (nl_of rfl) rfl ?_
      refine k_goto (tgt := 14) C (kd e2 kI_9 (k := 20) rfl) (by decide) ?_
      exact ih (k + 1) _ _ (by omega) (by show cl + 1 + 1 = _; omega) (by show sl + 4 + 16 = _; omega)
  refine k_aload (n := 0) (q := (3, t)) C (kd e2 kI_9 (k := 0) rfl) rfl rfl ?_
  refine k_obj (z := (3, t)) C (kd e2 kI_9 (k := 1) rfl) (show Cond.methodLink X.own 3 _ ∈ lw_gd by rw [e1]; exact il_9_3) ob_i ob_c (by rw [e6]; exact ⟨by decide, by decide⟩) (Nat.le_of_ble_eq_true rfl) ?_
  refine k_aload (n := 0) (q := (3, t)) C (kd e2 kI_9 (k := 2) rfl) rfl rfl ?_
  refine k_iconst C (kd e2 kI_9 (k := 3) rfl) ⟨by decide, by decide⟩ ?_
  refine k_newq (z := (4, t)) (a := 3) (n := 5) C (kd e2 kI_9 (k := 4) rfl) (show Cond.classLink X.own 9 _ ∈ lw_gd by rw [e1]; exact cl_9_9) (fun _ h => h.1) rfl rfl (by decide) (fun _ => rfl) rfl (by decide) (nin_of e5 (n9a t ht)) (by rw [e6]; decide) (by rw [e6]; decide) ?_
  refine k_putr (z := (3, t)) (r := (4, t)) C (kd e2 kI_9 (k := 5) rfl) (show fpr X.own 11 9 0 by rw [e1]; exact pr_9_11) e4 rfl rfl (by simp) ?_
  refine k_iconst C (kd e2 kI_9 (k := 6) rfl) ⟨by decide, by decide⟩ ?_
  refine k_istore (lv' := [(2, vi ((0 : Nat) : Int)), (0, vr 3 t), (1, vr 1 0)]) C (kd e2 kI_9 (k := 7) rfl) rfl (by rw [e3]; decide) (nl_of rfl) rfl ?_
  exact Lp 5 0 _ _ rfl rfl rfl
theorem ic_2 : IC yX2_init cX2_init 3 3 63 193 1744 (10, 0) [(1, 0)] ((10, 0) :: (11, 0) :: hyL 16) h00 := by
  refine IC.of (by decide) rfl (Nat.le_of_ble_eq_true rfl) ?_
  intro X C e1 e2 e3 e4 e5 e6 hr
  have Lp : ∀ (d k cl sl : Nat), k + d = 16 → cl = 1 + 12 * k → sl = 16 + 108 * k → KJ X 15 [(2, vi (k : Int)), (0, vr 10 0), (1, vr 1 0)] [] (hyL k) (hyM k) h00 ((10, 0) :: (11, 0) :: hyL k) cl sl := by
    intro d
    induction d with
    | zero =>
      intro k cl sl hk hc hs
      have hk : k = 16 := by omega
      subst hk
      refine k_iload (n := 0) (a := ((16 : Nat) : Int)) C (kd e2 kI_2 (k := 8) rfl) rfl rfl ?_
      refine k_bipush C (kd e2 kI_2 (k := 9) rfl) rfl ⟨by decide, by decide⟩ ?_
      refine k_ge (tgt := 41) C (kd e2 kI_2 (k := 10) rfl) (by decide) (fun _ => ?_) (fun q => absurd (by decide) q)
      exact hr _ _ _ _ _ _ (kd e2 kI_2 (k := 21) rfl) (full_of f2) (by omega) (by omega)
    | succ d ih =>
      intro k cl sl hk hc hs
      have hk5 : k < 16 := by omega
      refine k_iload (n := 0) (a := (k : Int)) C (kd e2 kI_2 (k := 8) rfl) rfl rfl ?_
      refine k_bipush C (kd e2 kI_2 (k := 9) rfl) rfl ⟨by decide, by decide⟩ ?_
      refine k_ge (tgt := 41) C (kd e2 kI_2 (k := 10) rfl) (by decide) (fun q => absurd q (by omega)) (fun _ => ?_)
      refine k_aload (n := 1) (q := (10, 0)) C (kd e2 kI_2 (k := 11) rfl) rfl rfl ?_
      refine k_getr (z := (10, 0)) (r := (11, 0)) C (kd e2 kI_2 (k := 12) rfl) (show fpr X.own 11 2 0 by rw [e1]; exact pr_2_11) rfl rfl (m2 k hk5) (by simp) ?_
      refine k_iload (n := 0) (a := (k : Int)) C (kd e2 kI_2 (k := 13) rfl) rfl rfl ?_
      refine k_new (z := (3, 2 + k)) (ty := tyX9) (ci := 9) C (kd e2 kI_2 (k := 14) rfl) rfl rfl tyX9_ok (show Cond.classLink X.own 9 _ ∈ lw_gd by rw [e1]; exact cl_2_9) ii_9 in_9 (nin_of e5 (n2 k hk5)) (fun _ => rfl) (df_9 _) (by rw [e6]; show cl + 1 ≤ 193; omega) (by rw [e6]; show sl + 3 ≤ 1744; omega) ?_
      refine k_dup (q := (3, 2 + k)) C (kd e2 kI_2 (k := 15) rfl) ?_
      refine k_aload (n := 2) (q := (1, 0)) C (kd e2 kI_2 (k := 16) rfl) rfl rfl ?_
      refine k_initB (h' := h00) (K := [(10, 0), (1, 0)]) (L1 := (10, 0) :: (11, 0) :: hyL k) (LL := trL (2 + k)) (z := (3, 2 + k)) (as := [(1, 0)]) (b2 k hk5) e5 C (kd e2 kI_2 (k := 17) rfl) (ic_9 (2 + k) (by omega)) (show Cond.methodLink X.own 17 _ ∈ lw_gd by rw [e1]; exact il_2_17) io_9 (by rw [e6]; exact ⟨by decide, by decide⟩) (by rw [e6]; exact ⟨(by show cl + 1 + 11 ≤ 193; omega), (by show sl + 3 + 105 ≤ 1744; omega)⟩) rfl rfl (Nat.le_of_ble_eq_true rfl) rfl (fun _ _ => rfl) (fun _ _ => rfl) ?_
      refine k_ast (z := (11, 0)) (r := (3, 2 + k)) (a := 2) (n := 16) (ci := 9) (j := k) C (kd e2 kI_2 (k := 18) rfl) rfl rfl (by decide) (fun _ => rfl) rfl rfl rfl hk5 (by decide) rfl (by simp) (by simp [trL]) ?_
      refine k_iinc (k := 0) (a := (k : Int)) (b := ((k + 1 : Nat) : Int)) C (kd e2 kI_2 (k := 19) rfl) rfl (by omega) ⟨by omega, by omega⟩ (by rw [e3]; decide) (nl_of rfl) rfl ?_
      refine k_goto (tgt := 15) C (kd e2 kI_2 (k := 20) rfl) (by decide) ?_
      exact ih (k + 1) _ _ (by omega) (by show cl + 1 + 11 = _; omega) (by show sl + 3 + 105 = _; omega)
  refine k_aload (n := 0) (q := (10, 0)) C (kd e2 kI_2 (k := 0) rfl) rfl rfl ?_
  refine k_obj (z := (10, 0)) C (kd e2 kI_2 (k := 1) rfl) (show Cond.methodLink X.own 3 _ ∈ lw_gd by rw [e1]; exact il_2_3) ob_i ob_c (by rw [e6]; exact ⟨by decide, by decide⟩) (Nat.le_of_ble_eq_true rfl) ?_
  refine k_aload (n := 0) (q := (10, 0)) C (kd e2 kI_2 (k := 2) rfl) rfl rfl ?_
  refine k_bipush C (kd e2 kI_2 (k := 3) rfl) rfl ⟨by decide, by decide⟩ ?_
  refine k_newq (z := (11, 0)) (a := 2) (n := 16) C (kd e2 kI_2 (k := 4) rfl) (show Cond.classLink X.own 9 _ ∈ lw_gd by rw [e1]; exact cl_2_9) (fun _ h => h.2.1) rfl rfl (by decide) (fun _ => rfl) rfl (by decide) (nin_of e5 (by decide +kernel)) (by rw [e6]; decide) (by rw [e6]; decide) ?_
  refine k_putr (z := (10, 0)) (r := (11, 0)) C (kd e2 kI_2 (k := 5) rfl) (show fpr X.own 11 2 0 by rw [e1]; exact pr_2_11) e4 rfl rfl (by simp) ?_
  refine k_iconst C (kd e2 kI_2 (k := 6) rfl) ⟨by decide, by decide⟩ ?_
  refine k_istore (lv' := [(2, vi ((0 : Nat) : Int)), (0, vr 10 0), (1, vr 1 0)]) C (kd e2 kI_2 (k := 7) rfl) rfl (by rw [e3]; decide) (nl_of rfl) rfl ?_
  exact Lp 16 0 _ _ rfl rfl rfl
