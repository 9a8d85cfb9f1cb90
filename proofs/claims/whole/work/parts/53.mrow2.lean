theorem rsl_cong {f f' : Nat → Nat} {s : Nat} : ∀ {n : Nat}, (∀ i, i < n → f i = f' i) → rsl f s n = rsl f' s n
  | 0, _ => rfl
  | n + 1, h => by
    unfold rsl
    rw [rsl_cong (fun i hi => h i (by omega)), h n (by omega), cr_cong h]
theorem rot0 {F : Nat → Nat} {n : Nat} : ∀ i, i < n → rot F n 0 i = F i := fun i hi => by unfold rot; rw [Nat.zero_add, Nat.mod_eq_of_lt hi]
/-- all but these, these slots, and slots lo to hi, is as it was -/
def Fq (T : List (Nat × Nat)) (K : List (Nat × Nat × Nat)) (lo hi : Nat) (h g : HH) : Prop := ∀ t i k, (t, i) ∉ T → (t, i, k) ∉ K → ¬ (t = 41 ∧ lo ≤ k ∧ k < hi) → g t i k = h t i k
theorem m_stores (k n s : Nat) (F : Nat → Nat) (h : HH) (hk : k < 5) (hn : n ≤ 16) (hs : s < 256) (hR : RW n F s h) (hF52 : ∀ i, i < n → F i < 52) :
    Sp mX11_stores [vr 40 0, vi k] h (fun z g => z = none ∧ g 41 0 (2 + 18 * k) = (n : Int) ∧ g 41 0 (2 + 18 * k + 1) = (rsl F s n : Int) ∧ (∀ i, i < n → g 41 0 (2 + 18 * k + 2 + i) = (rn F i : Int)) ∧ Fq [(52, 0)] [] (2 + 18 * k) (2 + 18 * k + 18) h g) := by
  refine Sp.of rfl kX11_stores (Nat.le_of_ble_eq_true rfl) ?_
  have Lp : ∀ (d q : Nat) (g : HH) (w : Int), q + d = 16 → (∀ i, i < n → g 52 0 i = (rn F i : Int)) → g 41 0 (2 + 18 * k) = (n : Int) → g 41 0 (2 + 18 * k + 1) = (rsl F s n : Int) → (∀ i, i < n → i < q → g 41 0 (2 + 18 * k + 2 + i) = (rn F i : Int)) → Fq [(52, 0)] [] (2 + 18 * k) (2 + 18 * k + 18) h g → AW mX11_stores (fun z g => z = none ∧ g 41 0 (2 + 18 * k) = (n : Int) ∧ g 41 0 (2 + 18 * k + 1) = (rsl F s n : Int) ∧ (∀ i, i < n → g 41 0 (2 + 18 * k + 2 + i) = (rn F i : Int)) ∧ Fq [(52, 0)] [] (2 + 18 * k) (2 + 18 * k + 18) h g) 35 [(0, vr 40 0), (1, vi k), (2, vi w), (3, vi q)] [] g := by
    intro d
    induction d with
    | zero =>
      intro q g w hq ha h1 h2 h3 hF
      refine u_iloadn (k := 23) rfl rfl ?_
      refine a_bipush (k := 24) rfl ?_
      refine a_icmp_ge (k := 25) rfl (fun c_38 => ?_) (fun c_38 => ?_)
      · refine a_return (k := 48) rfl rfl ?_
        exact ⟨rfl, h1, h2, fun i hi => h3 i hi (by omega), hF⟩
      · omega
    | succ d ih =>
      intro q g w hq ha h1 h2 h3 hF
      have hz : g 40 0 20 = (n : Int) := by rw [hF 40 0 20 (by simp) (by simp) (by omega)]; exact hR.1
      refine u_iloadn (k := 23) rfl rfl ?_
      refine a_bipush (k := 24) rfl ?_
      refine a_icmp_ge (k := 25) rfl (fun c_38 => ?_) (fun c_38 => ?_)
      · omega
      · refine u_aloadn (k := 26) rfl rfl ?_
        refine a_getr (k := 27) rfl fRX11_7 rfl rfl rfl ?_
        refine u_aloadn (k := 28) rfl rfl ?_
        refine u_iloadn (k := 29) rfl rfl ?_
        refine i_virt1 (M' := mX11_base) (k := 30) rfl lRX11_85 oX11_base vX11_base ⟨Nat.le_of_ble_eq_true rfl, Nat.le_of_ble_eq_true rfl⟩ rfl rfl (Nat.le_of_ble_eq_true rfl) (m_base k g (by omega)) ?_
        refine a_iconst (k := 31) rfl ?_
        refine u_iadd (k := 32) rfl (by omega) ?_
        refine u_iloadn (k := 33) rfl rfl ?_
        refine u_iadd (k := 34) rfl (by omega) ?_
        refine u_iloadn (k := 35) rfl rfl ?_
        refine u_aloadn (k := 36) rfl rfl ?_
        refine a_geti (k := 37) rfl fRX11_156 rfl rfl ?_
        rw [hz]
        refine a_icmp_ge (k := 38) rfl (fun c_59 => ?_) (fun c_59 => ?_)
        · refine a_iconst (k := 44) rfl ?_
          refine u_iastx (2 + 18 * k + 2 + q) (k := 45) rfl rfl rfl (by omega) (by omega) ?_
          refine u_iinc (k := 46) (lv' := [(3, _), (0, _), (1, _), (2, _)]) rfl rfl (Nat.le_of_ble_eq_true rfl) (by omega) rfl ?_
          refine a_goto (k := 47) rfl ?_
          refine a_sub [1, 2, 3, 0] rfl ?_
          refine ih (q + 1) _ w (by omega) (fun i hi => by simp only [put_apply, Nat.reduceEqDiff, reduceIte, false_and, and_false, true_and, and_true, and_self, if_false, if_true, not_false_eq_true, not_true_eq_false, ne_eq]; exact ha i hi) (by rw [put_ne (by omega)]; exact h1) (by rw [put_ne (by omega)]; exact h2) (fun i hi hi2 => ?_) (fun t i z t1 t2 t3 => ?_)
          · by_cases he : i = q
            · subst he; first | (rw [put_eq]; exact ha i hi) | omega
            · rw [put_ne (by omega)]; exact h3 i hi (by omega)
          · rw [put_ne (by omega)]; exact hF t i z t1 t2 t3
        · refine u_aloadn (k := 39) rfl rfl ?_
          refine a_getr (k := 40) rfl fRX11_48 rfl rfl rfl ?_
          refine u_iloadn (k := 41) rfl rfl ?_
          refine u_ialdx q (k := 42) rfl rfl rfl (by omega) (by omega) ?_
          refine a_goto (k := 43) rfl ?_
          refine u_iastx (2 + 18 * k + 2 + q) (k := 45) rfl rfl rfl (by omega) (by omega) ?_
          refine u_iinc (k := 46) (lv' := [(3, _), (0, _), (1, _), (2, _)]) rfl rfl (Nat.le_of_ble_eq_true rfl) (by omega) rfl ?_
          refine a_goto (k := 47) rfl ?_
          refine a_sub [1, 2, 3, 0] rfl ?_
          refine ih (q + 1) _ w (by omega) (fun i hi => by simp only [put_apply, Nat.reduceEqDiff, reduceIte, false_and, and_false, true_and, and_true, and_self, if_false, if_true, not_false_eq_true, not_true_eq_false, ne_eq]; exact ha i hi) (by rw [put_ne (by omega)]; exact h1) (by rw [put_ne (by omega)]; exact h2) (fun i hi hi2 => ?_) (fun t i z t1 t2 t3 => ?_)
          · by_cases he : i = q
            · subst he; first | (rw [put_eq]; exact ha i hi) | omega
            · rw [put_ne (by omega)]; exact h3 i hi (by omega)
          · rw [put_ne (by omega)]; exact hF t i z t1 t2 t3
  refine u_aloadn (k := 0) rfl rfl ?_
  refine a_iconst (k := 1) rfl ?_
  refine ui_virt1 (M' := mX11_numbers) (k := 2) rfl lRX11_176 oX11_numbers vX11_numbers ⟨Nat.le_of_ble_eq_true rfl, Nat.le_of_ble_eq_true rfl⟩ rfl rfl (Nat.le_of_ble_eq_true rfl) (m_numbers n 0 s F h hn (by omega) hs hR hF52) (by intro r g hp; exact ⟨_, hp.1⟩) (fun z g hg => ?_)
  obtain ⟨hr, ha, hF⟩ := hg; cases hr
  have hz : g 40 0 20 = (n : Int) := by rw [hF 40 0 20 (by simp) (by simp)]; exact hR.1
  rw [rsl_cong rot0]
  refine a_istoren (k := 3) (lv' := [(2, _), (0, _), (1, _)]) rfl (Nat.le_of_ble_eq_true rfl) rfl ?_
  refine u_aloadn (k := 4) rfl rfl ?_
  refine a_getr (k := 5) rfl fRX11_7 rfl rfl rfl ?_
  refine u_aloadn (k := 6) rfl rfl ?_
  refine u_iloadn (k := 7) rfl rfl ?_
  refine i_virt1 (M' := mX11_base) (k := 8) rfl lRX11_85 oX11_base vX11_base ⟨Nat.le_of_ble_eq_true rfl, Nat.le_of_ble_eq_true rfl⟩ rfl rfl (Nat.le_of_ble_eq_true rfl) (m_base k g (by omega)) ?_
  refine u_aloadn (k := 9) rfl rfl ?_
  refine a_geti (k := 10) rfl fRX11_156 rfl rfl ?_
  rw [hz]
  refine u_iast (k := 11) rfl rfl rfl (by omega) ?_
  refine u_aloadn (k := 12) rfl rfl ?_
  refine a_getr (k := 13) rfl fRX11_7 rfl rfl rfl ?_
  refine u_aloadn (k := 14) rfl rfl ?_
  refine u_iloadn (k := 15) rfl rfl ?_
  refine i_virt1 (M' := mX11_base) (k := 16) rfl lRX11_85 oX11_base vX11_base ⟨Nat.le_of_ble_eq_true rfl, Nat.le_of_ble_eq_true rfl⟩ rfl rfl (Nat.le_of_ble_eq_true rfl) (m_base k _ (by omega)) ?_
  refine a_iconst (k := 17) rfl ?_
  refine u_iadd (k := 18) rfl (by omega) ?_
  refine u_iloadn (k := 19) rfl rfl ?_
  refine u_iastx (2 + 18 * k + 1) (k := 20) rfl rfl rfl (by omega) (by omega) ?_
  refine a_iconst (k := 21) rfl ?_
  refine a_istoren (k := 22) (lv' := [(3, _), (2, _), (0, _), (1, _)]) rfl (Nat.le_of_ble_eq_true rfl) rfl ?_
  refine a_sub [2, 3, 1, 0] rfl ?_
  refine Lp 16 0 _ _ (by omega) (fun i hi => ?_) (by rw [put_ne (by omega), put_eq]) (by rw [put_eq]) (fun i _ hi => absurd hi (Nat.not_lt_zero i)) (fun t i z t1 t2 t3 => ?_)
  · rw [put_ne (by omega), put_ne (by omega), ha i hi, rn_cong (fun z hz => rot0 z (by omega))]
  · rw [put_ne (by omega), put_ne (by omega)]; exact hF t i z t1 t2
theorem m_turns (n s S : Nat) (F : Nat → Nat) (h : HH) (hn : n ≤ 16) (hS : S < 2 ^ 31) (hR : RW n F s h) (hF52 : ∀ i, i < n → F i < 52) :
    Sp mX11_turns [vr 40 0, vi S] h (fun z g => z = none ∧ RW n (swf F S) s g ∧ Fr [(50, 0)] [] h g) := by
  refine Sp.of rfl kX11_turns (Nat.le_of_ble_eq_true rfl) ?_
  have Lp : ∀ (d q : Nat) (g : HH), q + d = n → (∀ i, i < n → g 50 0 i = if i < q then (swf F S i : Int) else (F i : Int)) → Fr [(50, 0)] [] h g → AW mX11_turns (fun z g => z = none ∧ RW n (swf F S) s g ∧ Fr [(50, 0)] [] h g) 2 [(0, vr 40 0), (1, vi S), (2, vi q)] [] g := by
    intro d
    induction d with
    | zero =>
      intro q g hq hr hF
      have hz : g 40 0 20 = (n : Int) := by rw [hF 40 0 20 (by simp) (by simp)]; exact hR.1
      refine u_iloadn (k := 2) rfl rfl ?_
      refine u_aloadn (k := 3) rfl rfl ?_
      refine a_geti (k := 4) rfl fRX11_156 rfl rfl ?_
      rw [hz]
      refine a_icmp_ge (k := 5) rfl (fun c_7 => ?_) (fun c_7 => ?_)
      · refine a_return (k := 27) rfl rfl ?_
        exact ⟨rfl, ⟨hz, by rw [hF 40 0 24 (by simp) (by simp)]; exact hR.2.1, fun i hi => by rw [hr i hi, if_pos (by omega)]⟩, hF⟩
      · omega
    | succ d ih =>
      intro q g hq hr hF
      have hz : g 40 0 20 = (n : Int) := by rw [hF 40 0 20 (by simp) (by simp)]; exact hR.1
      have hq0 : g 50 0 q = (F q : Int) := by rw [hr q (by omega), if_neg (by omega)]
      have h52 := hF52 q (by omega)
      have fin : ∀ v : Int, v = (swf F S q : Int) → AW mX11_turns (fun z g => z = none ∧ RW n (swf F S) s g ∧ Fr [(50, 0)] [] h g) 39 [(0, vr 40 0), (1, vi S), (2, vi q)] [] (put g 50 0 q v) := by
        intro v hv
        refine u_iinc (k := 25) (lv' := [(2, _), (0, _), (1, _)]) rfl rfl (Nat.le_of_ble_eq_true rfl) (by omega) rfl ?_
        refine a_goto (k := 26) rfl ?_
        refine a_sub [1, 2, 0] rfl ?_
        refine ih (q + 1) _ (by omega) (fun i hi => ?_) (hF.p1 (by simp))
        by_cases he : i = q
        · subst he; rw [put_eq, if_pos (by omega)]; exact hv
        · rw [put_ne (by simp [he]), hr i hi]
          by_cases hlt : i < q
          · rw [if_pos hlt, if_pos (by omega)]
          · rw [if_neg hlt, if_neg (by omega)]
      refine u_iloadn (k := 2) rfl rfl ?_
      refine u_aloadn (k := 3) rfl rfl ?_
      refine a_geti (k := 4) rfl fRX11_156 rfl rfl ?_
      rw [hz]
      refine a_icmp_ge (k := 5) rfl (fun c_7 => ?_) (fun c_7 => ?_)
      · omega
      · refine u_aloadn (k := 6) rfl rfl ?_
        refine a_getr (k := 7) rfl fRX11_42 rfl rfl rfl ?_
        refine u_iloadn (k := 8) rfl rfl ?_
        refine a_dup2 (k := 9) rfl rfl rfl ?_
        refine u_iald (k := 10) rfl rfl rfl (by omega) ?_
        rw [hq0]
        refine u_iloadn (k := 11) rfl rfl ?_
        refine u_aloadn (k := 12) rfl rfl ?_
        refine a_getr (k := 13) rfl fRX11_42 rfl rfl rfl ?_
        refine u_iloadn (k := 14) rfl rfl ?_
        refine u_iald (k := 15) rfl rfl rfl (by omega) ?_
        refine a_iconst (k := 16) rfl ?_
        refine u_idiv (k := 17) rfl (by omega) (by omega) ?_
        rw [hq0, show ((F q : Int) / 2) = ((F q / 2 : Nat) : Int) by omega]
        refine i_stat2 (M' := mX11_has) (k := 18) rfl lRX11_172 oX11_has vX11_has ⟨Nat.le_of_ble_eq_true rfl, Nat.le_of_ble_eq_true rfl⟩ rfl (Nat.le_of_ble_eq_true rfl) (m_has S _ g hS (by omega)) ?_
        refine a_if_eq (k := 19) rfl (fun c_29 => ?_) (fun c_29 => ?_)
        · refine a_iconst (k := 22) rfl ?_
          refine a_ixor (k := 23) rfl ?_
          refine u_iast (k := 24) rfl rfl rfl (by omega) ?_
          refine fin _ ?_
          unfold swf
          by_cases hb : S.testBit (F q / 2) = true
          · rw [if_pos hb]
            first
            | exact ixor_nat (b := 1) (by omega) (by omega)
            | (exfalso; unfold tbi at c_29; rw [hb] at c_29; simp at c_29)
          · rw [if_neg hb]
            first
            | exact ixor_nat (b := 0) (by omega) (by omega)
            | (exfalso; unfold tbi at c_29; rw [if_neg hb] at c_29; exact c_29 rfl)
        · refine a_iconst (k := 20) rfl ?_
          refine a_goto (k := 21) rfl ?_
          refine a_ixor (k := 23) rfl ?_
          refine u_iast (k := 24) rfl rfl rfl (by omega) ?_
          refine fin _ ?_
          unfold swf
          by_cases hb : S.testBit (F q / 2) = true
          · rw [if_pos hb]
            first
            | exact ixor_nat (b := 1) (by omega) (by omega)
            | (exfalso; unfold tbi at c_29; rw [hb] at c_29; simp at c_29)
          · rw [if_neg hb]
            first
            | exact ixor_nat (b := 0) (by omega) (by omega)
            | (exfalso; unfold tbi at c_29; rw [if_neg hb] at c_29; exact c_29 rfl)
  refine a_iconst (k := 0) rfl ?_
  refine a_istoren (k := 1) (lv' := [(2, _), (0, _), (1, _)]) rfl (Nat.le_of_ble_eq_true rfl) rfl ?_
  refine a_sub [1, 2, 0] rfl ?_
  exact Lp n 0 h (by omega) (fun i hi => by rw [if_neg (by omega)]; exact hR.2.2 i hi) Fr.rf
theorem m_reverses (n s : Nat) (F : Nat → Nat) (h : HH) (hn : n ≤ 16) (hR : RW n F s h) :
    Sp mX11_reverses [vr 40 0] h (fun z g => z = none ∧ RW n (rvf F n) s g ∧ Fr [(50, 0)] [] h g) := by
  refine Sp.of rfl kX11_reverses (Nat.le_of_ble_eq_true rfl) ?_
  have Lp : ∀ (d q : Nat) (g : HH), q + d = n / 2 → (∀ i, i < n → g 50 0 i = if i < q ∨ n - 1 - i < q then (rvf F n i : Int) else (F i : Int)) → Fr [(50, 0)] [] h g → AW mX11_reverses (fun z g => z = none ∧ RW n (rvf F n) s g ∧ Fr [(50, 0)] [] h g) 2 [(0, vr 40 0), (1, vi q)] [] g := by
    intro d
    induction d with
    | zero =>
      intro q g hq hr hF
      have hz : g 40 0 20 = (n : Int) := by rw [hF 40 0 20 (by simp) (by simp)]; exact hR.1
      refine u_iloadn (k := 2) rfl rfl ?_
      refine u_aloadn (k := 3) rfl rfl ?_
      refine a_geti (k := 4) rfl fRX11_156 rfl rfl ?_
      rw [hz]
      refine a_iconst (k := 5) rfl ?_
      refine u_idiv (k := 6) rfl (by omega) (by omega) ?_
      refine a_icmp_ge (k := 7) rfl (fun c_9 => ?_) (fun c_9 => ?_)
      · refine a_return (k := 38) rfl rfl ?_
        refine ⟨rfl, ⟨hz, by rw [hF 40 0 24 (by simp) (by simp)]; exact hR.2.1, fun i hi => ?_⟩, hF⟩
        rw [hr i hi]
        by_cases hc : i < q ∨ n - 1 - i < q
        · rw [if_pos hc]
        · rw [if_neg hc]
          unfold rvf
          rw [show n - 1 - i = i by omega]
      · omega
    | succ d ih =>
      intro q g hq hr hF
      have hz : g 40 0 20 = (n : Int) := by rw [hF 40 0 20 (by simp) (by simp)]; exact hR.1
      have h1 : g 50 0 q = (F q : Int) := by rw [hr q (by omega), if_neg (by omega)]
      have h2 : g 50 0 (n - 1 - q) = (F (n - 1 - q) : Int) := by rw [hr _ (by omega), if_neg (by omega)]
      refine u_iloadn (k := 2) rfl rfl ?_
      refine u_aloadn (k := 3) rfl rfl ?_
      refine a_geti (k := 4) rfl fRX11_156 rfl rfl ?_
      rw [hz]
      refine a_iconst (k := 5) rfl ?_
      refine u_idiv (k := 6) rfl (by omega) (by omega) ?_
      refine a_icmp_ge (k := 7) rfl (fun c_9 => ?_) (fun c_9 => ?_)
      · omega
      · refine u_aloadn (k := 8) rfl rfl ?_
        refine a_getr (k := 9) rfl fRX11_42 rfl rfl rfl ?_
        refine u_iloadn (k := 10) rfl rfl ?_
        refine u_iald (k := 11) rfl rfl rfl (by omega) ?_
        rw [h1]
        refine a_istoren (k := 12) (lv' := [(2, _), (0, _), (1, _)]) rfl (Nat.le_of_ble_eq_true rfl) rfl ?_
        refine u_aloadn (k := 13) rfl rfl ?_
        refine a_getr (k := 14) rfl fRX11_42 rfl rfl rfl ?_
        refine u_iloadn (k := 15) rfl rfl ?_
        refine u_aloadn (k := 16) rfl rfl ?_
        refine a_getr (k := 17) rfl fRX11_42 rfl rfl rfl ?_
        refine u_aloadn (k := 18) rfl rfl ?_
        refine a_geti (k := 19) rfl fRX11_156 rfl rfl ?_
        rw [hz]
        refine a_iconst (k := 20) rfl ?_
        refine u_isub (k := 21) rfl (by omega) ?_
        refine u_iloadn (k := 22) rfl rfl ?_
        refine u_isub (k := 23) rfl (by omega) ?_
        refine u_ialdx (n - 1 - q) (k := 24) rfl rfl rfl (by omega) (by omega) ?_
        rw [h2]
        refine u_iast (k := 25) rfl rfl rfl (by omega) ?_
        refine u_aloadn (k := 26) rfl rfl ?_
        refine a_getr (k := 27) rfl fRX11_42 rfl rfl rfl ?_
        refine u_aloadn (k := 28) rfl rfl ?_
        refine a_geti (k := 29) rfl fRX11_156 rfl rfl ?_
        rw [put_ne (by simp), hz]
        refine a_iconst (k := 30) rfl ?_
        refine u_isub (k := 31) rfl (by omega) ?_
        refine u_iloadn (k := 32) rfl rfl ?_
        refine u_isub (k := 33) rfl (by omega) ?_
        refine u_iloadn (k := 34) rfl rfl ?_
        refine u_iastx (n - 1 - q) (k := 35) rfl rfl rfl (by omega) (by omega) ?_
        refine u_iinc (k := 36) (lv' := [(1, _), (2, _), (0, _)]) rfl rfl (Nat.le_of_ble_eq_true rfl) (by omega) rfl ?_
        refine a_goto (k := 37) rfl ?_
        refine a_sub [2, 0] rfl ?_
        refine ih (q + 1) _ (by omega) (fun i hi => ?_) ((hF.p1 (by simp)).p1 (by simp))
        by_cases e1 : i = n - 1 - q
        · subst e1
          rw [put_eq, if_pos (by omega)]
          unfold rvf
          rw [show n - 1 - (n - 1 - q) = q by omega]
        · rw [put_ne (by simp [e1])]
          by_cases e2 : i = q
          · subst e2
            rw [put_eq, if_pos (by omega)]
            rfl
          · rw [put_ne (by simp [e2]), hr i hi]
            by_cases hc : i < q ∨ n - 1 - i < q
            · rw [if_pos hc, if_pos (by omega)]
            · rw [if_neg hc, if_neg (by omega)]
  refine a_iconst (k := 0) rfl ?_
  refine a_istoren (k := 1) (lv' := [(1, _), (0, _)]) rfl (Nat.le_of_ble_eq_true rfl) rfl ?_
  refine a_sub [1, 0] rfl ?_
  exact Lp (n / 2) 0 h (by omega) (fun i hi => by rw [if_neg (by omega)]; exact hR.2.2 i hi) Fr.rf
theorem m_drops (n s S : Nat) (F : Nat → Nat) (h : HH) (hn : n ≤ 16) (hS : S < 2 ^ 31) (hR : RW n F s h) (hF52 : ∀ i, i < n → F i < 52) :
    Sp mX11_drops [vr 40 0, vi S] h (fun z g => z = none ∧ RW (kp F S n).length (fn (kp F S n)) s g ∧ Fr [(50, 0)] [(40, 0, 20)] h g) := by
  refine Sp.of rfl kX11_drops (Nat.le_of_ble_eq_true rfl) ?_
  have Lp : ∀ (d q : Nat) (g : HH), q + d = n → (∀ i, i < (kp F S q).length → g 50 0 i = (fn (kp F S q) i : Int)) → (∀ i, q ≤ i → i < n → g 50 0 i = (F i : Int)) → Fr [(50, 0)] [] h g → AW mX11_drops (fun z g => z = none ∧ RW (kp F S n).length (fn (kp F S n)) s g ∧ Fr [(50, 0)] [(40, 0, 20)] h g) 4 [(0, vr 40 0), (1, vi S), (2, vi ((kp F S q).length : Int)), (3, vi q)] [] g := by
    intro d
    induction d with
    | zero =>
      intro q g hq hr hf hF
      have hq : q = n := by omega
      subst hq
      have hz : g 40 0 20 = (q : Int) := by rw [hF 40 0 20 (by simp) (by simp)]; exact hR.1
      refine u_iloadn (k := 4) rfl rfl ?_
      refine u_aloadn (k := 5) rfl rfl ?_
      refine a_geti (k := 6) rfl fRX11_156 rfl rfl ?_
      rw [hz]
      refine a_icmp_ge (k := 7) rfl (fun c_9 => ?_) (fun c_9 => ?_)
      · refine u_aloadn (k := 28) rfl rfl ?_
        refine u_iloadn (k := 29) rfl rfl ?_
        refine a_puti (k := 30) rfl pRX11_156 rfl rfl ?_
        refine a_return (k := 31) rfl rfl ?_
        exact ⟨rfl, ⟨by rw [put_eq], by simp only [put_apply, Nat.reduceEqDiff, reduceIte, false_and, and_false, true_and, and_true, and_self, if_false, if_true, not_false_eq_true, not_true_eq_false, ne_eq]; rw [hF 40 0 24 (by simp) (by simp)]; exact hR.2.1, fun i hi => by simp only [put_apply, Nat.reduceEqDiff, reduceIte, false_and, and_false, true_and, and_true, and_self, if_false, if_true, not_false_eq_true, not_true_eq_false, ne_eq]; exact hr i hi⟩, (hF.mono (fun _ q => q) (by simp)).p2 (by simp)⟩
      · omega
    | succ d ih =>
      intro q g hq hr hf hF
      have hz : g 40 0 20 = (n : Int) := by rw [hF 40 0 20 (by simp) (by simp)]; exact hR.1
      have hq0 : g 50 0 q = (F q : Int) := hf q (by omega) (by omega)
      have h52 := hF52 q (by omega)
      have hlen := kp_len F S q
      by_cases hb : S.testBit (F q / 2) = true
      · have ek : kp F S (q + 1) = kp F S q := if_pos hb
        refine u_iloadn (k := 4) rfl rfl ?_
        refine u_aloadn (k := 5) rfl rfl ?_
        refine a_geti (k := 6) rfl fRX11_156 rfl rfl ?_
        rw [hz]
        refine a_icmp_ge (k := 7) rfl (fun c_9 => ?_) (fun c_9 => ?_)
        · omega
        · refine u_iloadn (k := 8) rfl rfl ?_
          refine u_aloadn (k := 9) rfl rfl ?_
          refine a_getr (k := 10) rfl fRX11_42 rfl rfl rfl ?_
          refine u_iloadn (k := 11) rfl rfl ?_
          refine u_iald (k := 12) rfl rfl rfl (by omega) ?_
          refine a_iconst (k := 13) rfl ?_
          refine u_idiv (k := 14) rfl (by omega) (by omega) ?_
          rw [hq0, show ((F q : Int) / 2) = ((F q / 2 : Nat) : Int) by omega]
          refine i_stat2 (M' := mX11_has) (k := 15) rfl lRX11_172 oX11_has vX11_has ⟨Nat.le_of_ble_eq_true rfl, Nat.le_of_ble_eq_true rfl⟩ rfl (Nat.le_of_ble_eq_true rfl) (m_has S _ g hS (by omega)) ?_
          refine a_if_ne (k := 16) rfl (fun c_24 => ?_) (fun c_24 => ?_)
          · refine u_iinc (k := 26) (lv' := [(3, _), (0, _), (1, _), (2, _)]) rfl rfl (Nat.le_of_ble_eq_true rfl) (by omega) rfl ?_
            refine a_goto (k := 27) rfl ?_
            refine a_sub [1, 2, 3, 0] rfl ?_
            have := ih (q + 1) g (by omega) (by rw [ek]; exact hr) (fun i h1 h2 => hf i (by omega) h2) hF
            rw [ek] at this
            exact this
          · unfold tbi at c_24; rw [hb] at c_24; simp at c_24
      · have ek : kp F S (q + 1) = kp F S q ++ [F q] := if_neg hb
        refine u_iloadn (k := 4) rfl rfl ?_
        refine u_aloadn (k := 5) rfl rfl ?_
        refine a_geti (k := 6) rfl fRX11_156 rfl rfl ?_
        rw [hz]
        refine a_icmp_ge (k := 7) rfl (fun c_9 => ?_) (fun c_9 => ?_)
        · omega
        · refine u_iloadn (k := 8) rfl rfl ?_
          refine u_aloadn (k := 9) rfl rfl ?_
          refine a_getr (k := 10) rfl fRX11_42 rfl rfl rfl ?_
          refine u_iloadn (k := 11) rfl rfl ?_
          refine u_iald (k := 12) rfl rfl rfl (by omega) ?_
          refine a_iconst (k := 13) rfl ?_
          refine u_idiv (k := 14) rfl (by omega) (by omega) ?_
          rw [hq0, show ((F q : Int) / 2) = ((F q / 2 : Nat) : Int) by omega]
          refine i_stat2 (M' := mX11_has) (k := 15) rfl lRX11_172 oX11_has vX11_has ⟨Nat.le_of_ble_eq_true rfl, Nat.le_of_ble_eq_true rfl⟩ rfl (Nat.le_of_ble_eq_true rfl) (m_has S _ g hS (by omega)) ?_
          refine a_if_ne (k := 16) rfl (fun c_24 => ?_) (fun c_24 => ?_)
          · unfold tbi at c_24; rw [if_neg hb] at c_24; exact absurd rfl c_24
          · refine u_aloadn (k := 17) rfl rfl ?_
            refine a_getr (k := 18) rfl fRX11_42 rfl rfl rfl ?_
            refine u_iloadn (k := 19) rfl rfl ?_
            refine u_aloadn (k := 20) rfl rfl ?_
            refine a_getr (k := 21) rfl fRX11_42 rfl rfl rfl ?_
            refine u_iloadn (k := 22) rfl rfl ?_
            refine u_iald (k := 23) rfl rfl rfl (by omega) ?_
            rw [hq0]
            refine u_iast (k := 24) rfl rfl rfl (by omega) ?_
            refine u_iinc (k := 25) (lv' := [(2, _), (0, _), (1, _), (3, _)]) rfl rfl (Nat.le_of_ble_eq_true rfl) (by omega) rfl ?_
            refine u_iinc (k := 26) (lv' := [(3, _), (2, _), (0, _), (1, _)]) rfl rfl (Nat.le_of_ble_eq_true rfl) (by omega) rfl ?_
            refine a_goto (k := 27) rfl ?_
            refine a_sub [2, 3, 1, 0] rfl ?_
            have := ih (q + 1) (put g 50 0 (kp F S q).length (F q : Int)) (by omega) (fun i hi => ?_) (fun i h1 h2 => by rw [put_ne (by omega)]; exact hf i (by omega) h2) (hF.p1 (by simp))
            · rw [ek, List.length_append, List.length_singleton] at this
              exact this
            · rw [ek, List.length_append, List.length_singleton] at hi
              rw [ek]
              by_cases he : i = (kp F S q).length
              · subst he; rw [put_eq]; unfold fn; simp
              · rw [put_ne (by simp [he]), hr i (by omega)]
                unfold fn
                rw [List.getD_eq_getElem?_getD, List.getD_eq_getElem?_getD, List.getElem?_append_left (by omega)]
  refine a_iconst (k := 0) rfl ?_
  refine a_istoren (k := 1) (lv' := [(2, _), (0, _), (1, _)]) rfl (Nat.le_of_ble_eq_true rfl) rfl ?_
  refine a_iconst (k := 2) rfl ?_
  refine a_istoren (k := 3) (lv' := [(3, _), (2, _), (0, _), (1, _)]) rfl (Nat.le_of_ble_eq_true rfl) rfl ?_
  refine a_sub [2, 3, 1, 0] rfl ?_
  exact Lp n 0 h (by omega) (fun i hi => absurd hi (Nat.not_lt_zero i)) (fun i _ hi => hR.2.2 i hi) Fr.rf
