/-! rows of the reference -/
def rot (F : Nat → Nat) (n a q : Nat) : Nat := F ((a + q) % n)
theorem rsl_tb (f : Nat → Nat) (s x : Nat) : ∀ n, (rsl f s n).testBit x = true ↔ ∃ i, i < n ∧ cr f i = x ∧ s.testBit (f i / 2) = true
  | 0 => by
    unfold rsl
    simp
  | n + 1 => by
    unfold rsl
    rw [Nat.testBit_or, Bool.or_eq_true, rsl_tb f s x n]
    constructor
    · rintro (⟨i, hi, h1, h2⟩ | h)
      · exact ⟨i, by omega, h1, h2⟩
      · split at h
        · rename_i hs
          rw [Nat.testBit_two_pow] at h
          exact ⟨n, by omega, by simpa using h, hs⟩
        · simp at h
    · rintro ⟨i, hi, h1, h2⟩
      by_cases he : i = n
      · subst he
        refine Or.inr ?_
        rw [if_pos h2, Nat.testBit_two_pow]
        simpa using h1
      · exact Or.inl ⟨i, by omega, h1, h2⟩
theorem or_has {a x : Nat} (h : a.testBit x = true) : a ||| 2 ^ x = a := by
  refine Nat.eq_of_testBit_eq (fun i => ?_)
  rw [Nat.testBit_or, Nat.testBit_two_pow]
  by_cases he : x = i
  · subst he; rw [h]; simp
  · simp [he]
/-- a crossing that has come before brings no new salt -/
theorem rsl_old {f : Nat → Nat} {s n i : Nat} (hi : i < n) (he : f i / 2 = f n / 2) : rsl f s (n + 1) = rsl f s n := by
  show rsl f s n ||| _ = _
  split
  · rename_i hs
    exact or_has ((rsl_tb f s _ n).mpr ⟨i, hi, cr_eq he, by rw [he]; exact hs⟩)
  · exact Nat.or_zero _
theorem m_numbers (n a s : Nat) (F : Nat → Nat) (h : HH) (hn : n ≤ 16) (ha : a < 16) (hs : s < 256) (hR : RW n F s h) (hF52 : ∀ i, i < n → F i < 52) :
    Sp mX11_numbers [vr 40 0, vi a] h (fun z g => z = some (vi (rsl (rot F n a) s n : Int)) ∧ (∀ i, i < n → g 52 0 i = (rn (rot F n a) i : Int)) ∧ Fr [(52, 0)] [] h g) := by
  refine Sp.of rfl kX11_numbers (Nat.le_of_ble_eq_true rfl) ?_
  have Lo : ∀ (d q : Nat) (g : HH), q + d = n → (∀ i, i < q → g 52 0 i = (rn (rot F n a) i : Int)) → Fr [(52, 0)] [] h g → AW mX11_numbers (fun z g => z = some (vi (rsl (rot F n a) s n : Int)) ∧ (∀ i, i < n → g 52 0 i = (rn (rot F n a) i : Int)) ∧ Fr [(52, 0)] [] h g) 7 [(0, vr 40 0), (1, vi a), (2, vi (mny (rot F n a) q : Int)), (3, vi (rsl (rot F n a) s q : Int)), (4, vi q)] [] g := by
    intro d
    induction d with
    | zero =>
      intro q g hq hr hF
      have hz : g 40 0 20 = (n : Int) := by rw [hF 40 0 20 (by simp) (by simp)]; exact hR.1
      refine u_iload (k := 6) rfl rfl ?_
      refine u_aloadn (k := 7) rfl rfl ?_
      refine a_geti (k := 8) rfl fRX11_156 rfl rfl ?_
      rw [hz]
      refine a_icmp_ge (k := 9) rfl (fun c_13 => ?_) (fun c_13 => ?_)
      · refine u_iloadn (k := 91) rfl rfl ?_
        refine a_ireturn (k := 92) rfl rfl ?_
        exact ⟨by rw [show q = n by omega], fun i hi => hr i (by omega), hF⟩
      · omega
    | succ d ih =>
      intro q g hq hr hF
      have hz : g 40 0 20 = (n : Int) := by rw [hF 40 0 20 (by simp) (by simp)]; exact hR.1
      have hz2 : g 40 0 24 = (s : Int) := by rw [hF 40 0 24 (by simp) (by simp)]; exact hR.2.1
      have hrow : ∀ i, i < n → g 50 0 i = (F i : Int) := fun i hi => by rw [hF 50 0 i (by simp) (by simp)]; exact hR.2.2 i hi
      have hrt : ∀ i, g 50 0 ((a + i) % n) = (rot F n a i : Int) := fun i => hrow _ (Nat.mod_lt _ (by omega))
      have h52 : ∀ i, rot F n a i < 52 := fun i => hF52 _ (Nat.mod_lt _ (by omega))
      have hmn := mny_le (rot F n a) q
      have hsl := rsl_lt (rot F n a) s q (by omega)
      have hcr := cr_lt (f := rot F n a) q
      have T135 : ∀ (M S C : Int) (y : Int), M = (mny (rot F n a) (q + 1) : Int) → S = (rsl (rot F n a) s (q + 1) : Int) → C = (cr (rot F n a) q : Int) → AW mX11_numbers (fun z g => z = some (vi (rsl (rot F n a) s n : Int)) ∧ (∀ i, i < n → g 52 0 i = (rn (rot F n a) i : Int)) ∧ Fr [(52, 0)] [] h g) 135 [(0, vr 40 0), (1, vi a), (2, vi M), (3, vi S), (4, vi q), (5, vi (rot F n a q : Int)), (6, vi C), (7, vi y)] [] g := by
        intro M S C y hM hS hC
        subst hM
        subst hS
        subst hC
        refine u_aloadn (k := 78) rfl rfl ?_
        refine a_getr (k := 79) rfl fRX11_48 rfl rfl rfl ?_
        refine u_iload (k := 80) rfl rfl ?_
        refine a_iconst (k := 81) rfl ?_
        refine u_iload (k := 82) rfl rfl ?_
        refine u_imul (k := 83) rfl (by omega) ?_
        refine u_iload (k := 84) rfl rfl ?_
        refine a_iconst (k := 85) rfl ?_
        refine u_irem (k := 86) rfl (by omega) (by omega) ?_
        refine u_iadd (k := 87) rfl (by omega) ?_
        refine u_iast (k := 88) rfl rfl rfl (by omega) ?_
        refine u_iinc (k := 89) (lv' := [(4, _), (0, _), (1, _), (2, _), (3, _), (5, _), (6, _), (7, _)]) rfl rfl (Nat.le_of_ble_eq_true rfl) (by omega) rfl ?_
        refine a_goto (k := 90) rfl ?_
        refine a_sub [1, 2, 3, 4, 0] rfl ?_
        refine ih (q + 1) _ (by omega) (fun i hi => ?_) (hF.p1 (by simp))
        by_cases he : i = q
        · subst he
          rw [put_eq]
          unfold rn
          omega
        · rw [put_ne (by simp [he])]; exact hr i (by omega)
      have T90 : ∀ (C : Int), ((∃ i, i < q ∧ rot F n a i / 2 = rot F n a q / 2) → C = (cr (rot F n a) q : Int)) → (¬ (∃ i, i < q ∧ rot F n a i / 2 = rot F n a q / 2) → C = -1) → AW mX11_numbers (fun z g => z = some (vi (rsl (rot F n a) s n : Int)) ∧ (∀ i, i < n → g 52 0 i = (rn (rot F n a) i : Int)) ∧ Fr [(52, 0)] [] h g) 90 [(0, vr 40 0), (1, vi a), (2, vi (mny (rot F n a) q : Int)), (3, vi (rsl (rot F n a) s q : Int)), (4, vi q), (5, vi (rot F n a q : Int)), (6, vi C), (7, vi q)] [] g := by
        intro C h1 h2
        by_cases hex : ∃ i, i < q ∧ rot F n a i / 2 = rot F n a q / 2
        · have hC := h1 hex
          obtain ⟨i, hi, he⟩ := hex
          have hso : num (rot F n a) (rot F n a q / 2) q = some (cr (rot F n a) i) := by rw [← he]; exact num_cr2 hi
          refine u_iload (k := 53) rfl rfl ?_
          refine a_if_ge (k := 54) rfl (fun c_92 => ?_) (fun c_92 => ?_)
          · exact T135 _ _ _ _ (by rw [mny_old hso]) (by rw [rsl_old hi he]) hC
          · omega
        · have hC := h2 hex
          subst hC
          have hno : num (rot F n a) (rot F n a q / 2) q = none := num_none.mpr (fun r hr he => hex ⟨r, hr, he⟩)
          have hcm : cr (rot F n a) q = mny (rot F n a) q := cr_new hno
          have hpw : 2 ^ mny (rot F n a) q < 2 ^ 31 := Nat.pow_lt_pow_right (by omega) (by omega)
          have hst : rsl (rot F n a) s (q + 1) = rsl (rot F n a) s q ||| (if s.testBit (rot F n a q / 2) then 2 ^ mny (rot F n a) q else 0) := by
            show _ ||| _ = _
            rw [hcm]
          have h52q := h52 q
          refine u_iload (k := 53) rfl rfl ?_
          refine a_if_ge (k := 54) rfl (fun c_92 => ?_) (fun c_92 => ?_)
          · omega
          · refine u_iloadn (k := 55) rfl rfl ?_
            refine a_istore (k := 56) (lv' := [(6, _), (0, _), (1, _), (2, _), (3, _), (4, _), (5, _), (7, _)]) rfl (Nat.le_of_ble_eq_true rfl) rfl ?_
            refine u_iinc (k := 57) (lv' := [(2, _), (6, _), (0, _), (1, _), (3, _), (4, _), (5, _), (7, _)]) rfl rfl (Nat.le_of_ble_eq_true rfl) (by omega) rfl ?_
            refine u_iloadn (k := 58) rfl rfl ?_
            refine u_iload (k := 59) rfl rfl ?_
            refine a_iconst (k := 60) rfl ?_
            refine u_idiv (k := 61) rfl (by omega) (by omega) ?_
            refine a_bipush (k := 62) rfl ?_
            refine a_icmp_ge (k := 63) rfl (fun c_108 => ?_) (fun c_108 => ?_)
            · refine a_iconst (k := 75) rfl ?_
              refine a_ior (k := 76) rfl ?_
              refine a_istoren (k := 77) (lv' := [(3, _), (2, _), (6, _), (0, _), (1, _), (4, _), (5, _), (7, _)]) rfl (Nat.le_of_ble_eq_true rfl) rfl ?_
              refine a_sub [3, 4, 1, 0, 5, 6, 2, 7] rfl ?_
              refine T135 _ _ _ _ (by rw [mny_new hno]; rfl) ?_ (by rw [hcm])
              rw [hst]
              by_cases hb : s.testBit (rot F n a q / 2) = true
              · rw [if_pos hb]
                first
                | (exact ior_nat (by omega) hpw)
                | (exfalso; have e8 : 2 ^ 8 ≤ 2 ^ (rot F n a q / 2) := Nat.pow_le_pow_right (by omega) (by omega); have h256 := Nat.testBit_lt_two_pow (Nat.lt_of_lt_of_le (show s < 2 ^ 8 from hs) e8); rw [h256] at hb; cases hb)
                | (exfalso; unfold tbi at c_122; rw [hb] at c_122; simp at c_122)
              · rw [if_neg hb]
                first
                | (exact ior_nat (b := 0) (by omega) (by omega))
                | (exfalso; unfold tbi at c_122; rw [if_neg hb] at c_122; exact c_122 rfl)
            · refine u_aloadn (k := 64) rfl rfl ?_
              refine a_geti (k := 65) rfl fRX11_159 rfl rfl ?_
              refine u_iload (k := 66) rfl rfl ?_
              refine a_iconst (k := 67) rfl ?_
              refine u_idiv (k := 68) rfl (by omega) (by omega) ?_
              rw [hz2, show ((rot F n a q : Int) / 2) = ((rot F n a q / 2 : Nat) : Int) by omega]
              refine i_stat2 (M' := mX11_has) (k := 69) rfl lRX11_172 oX11_has vX11_has ⟨Nat.le_of_ble_eq_true rfl, Nat.le_of_ble_eq_true rfl⟩ rfl (Nat.le_of_ble_eq_true rfl) (m_has s _ g (by omega) (by omega)) ?_
              refine a_if_eq (k := 70) rfl (fun c_122 => ?_) (fun c_122 => ?_)
              · refine a_iconst (k := 75) rfl ?_
                refine a_ior (k := 76) rfl ?_
                refine a_istoren (k := 77) (lv' := [(3, _), (2, _), (6, _), (0, _), (1, _), (4, _), (5, _), (7, _)]) rfl (Nat.le_of_ble_eq_true rfl) rfl ?_
                refine a_sub [3, 4, 1, 0, 5, 6, 2, 7] rfl ?_
                refine T135 _ _ _ _ (by rw [mny_new hno]; rfl) ?_ (by rw [hcm])
                rw [hst]
                by_cases hb : s.testBit (rot F n a q / 2) = true
                · rw [if_pos hb]
                  first
                  | (exact ior_nat (by omega) hpw)
                  | (exfalso; have e8 : 2 ^ 8 ≤ 2 ^ (rot F n a q / 2) := Nat.pow_le_pow_right (by omega) (by omega); have h256 := Nat.testBit_lt_two_pow (Nat.lt_of_lt_of_le (show s < 2 ^ 8 from hs) e8); rw [h256] at hb; cases hb)
                  | (exfalso; unfold tbi at c_122; rw [hb] at c_122; simp at c_122)
                · rw [if_neg hb]
                  first
                  | (exact ior_nat (b := 0) (by omega) (by omega))
                  | (exfalso; unfold tbi at c_122; rw [if_neg hb] at c_122; exact c_122 rfl)
              · refine a_iconst (k := 71) rfl ?_
                refine u_iload (k := 72) rfl rfl ?_
                refine a_ishl (k := 73) rfl ?_
                rw [shl1 (by omega)]
                refine a_goto (k := 74) rfl ?_
                refine a_ior (k := 76) rfl ?_
                refine a_istoren (k := 77) (lv' := [(3, _), (2, _), (6, _), (0, _), (1, _), (4, _), (5, _), (7, _)]) rfl (Nat.le_of_ble_eq_true rfl) rfl ?_
                refine a_sub [3, 4, 1, 0, 5, 6, 2, 7] rfl ?_
                refine T135 _ _ _ _ (by rw [mny_new hno]; rfl) ?_ (by rw [hcm])
                rw [hst]
                by_cases hb : s.testBit (rot F n a q / 2) = true
                · rw [if_pos hb]
                  first
                  | (exact ior_nat (by omega) hpw)
                  | (exfalso; have e8 : 2 ^ 8 ≤ 2 ^ (rot F n a q / 2) := Nat.pow_le_pow_right (by omega) (by omega); have h256 := Nat.testBit_lt_two_pow (Nat.lt_of_lt_of_le (show s < 2 ^ 8 from hs) e8); rw [h256] at hb; cases hb)
                  | (exfalso; unfold tbi at c_122; rw [hb] at c_122; simp at c_122)
                · rw [if_neg hb]
                  first
                  | (exact ior_nat (b := 0) (by omega) (by omega))
                  | (exfalso; unfold tbi at c_122; rw [if_neg hb] at c_122; exact c_122 rfl)
      have Li : ∀ (e r : Nat) (C : Int), r + e = q → ((∃ i, i < r ∧ rot F n a i / 2 = rot F n a q / 2) → C = (cr (rot F n a) q : Int)) → (¬ (∃ i, i < r ∧ rot F n a i / 2 = rot F n a q / 2) → C = -1) → AW mX11_numbers (fun z g => z = some (vi (rsl (rot F n a) s n : Int)) ∧ (∀ i, i < n → g 52 0 i = (rn (rot F n a) i : Int)) ∧ Fr [(52, 0)] [] h g) 38 [(0, vr 40 0), (1, vi a), (2, vi (mny (rot F n a) q : Int)), (3, vi (rsl (rot F n a) s q : Int)), (4, vi q), (5, vi (rot F n a q : Int)), (6, vi C), (7, vi r)] [] g := by
        intro e
        induction e with
        | zero =>
          intro r C hr h1 h2
          have hr : r = q := by omega
          subst hr
          refine u_iload (k := 24) rfl rfl ?_
          refine u_iload (k := 25) rfl rfl ?_
          refine a_icmp_ge (k := 26) rfl (fun c_42 => ?_) (fun c_42 => ?_)
          · exact T90 C h1 h2
          · omega
        | succ e ihe =>
          intro r C hr' h1 h2
          have hrr := hrt r
          have h52r := h52 r
          have h52q := h52 q
          have han := hr r (by omega)
          have hrd := rn_div (rot F n a) r
          by_cases hm : rot F n a r / 2 = rot F n a q / 2
          · have hceq := cr_eq hm
            refine u_iload (k := 24) rfl rfl ?_
            refine u_iload (k := 25) rfl rfl ?_
            refine a_icmp_ge (k := 26) rfl (fun c_42 => ?_) (fun c_42 => ?_)
            · omega
            · refine u_aloadn (k := 27) rfl rfl ?_
              refine a_getr (k := 28) rfl fRX11_42 rfl rfl rfl ?_
              refine u_iloadn (k := 29) rfl rfl ?_
              refine u_iload (k := 30) rfl rfl ?_
              refine u_iadd (k := 31) rfl (by omega) ?_
              refine u_aloadn (k := 32) rfl rfl ?_
              refine a_geti (k := 33) rfl fRX11_156 rfl rfl ?_
              rw [hz]
              refine u_irem (k := 34) rfl (by omega) (by omega) ?_
              refine u_ialdx ((a + r) % n)  (k := 35) rfl rfl rfl  (by rw [Int.natCast_emod, Int.natCast_add]) (Nat.lt_of_lt_of_le (Nat.mod_lt _ (by omega)) hn) ?_
              rw [hrr]
              refine a_iconst (k := 36) rfl ?_
              refine u_idiv (k := 37) rfl (by omega) (by omega) ?_
              refine u_iload (k := 38) rfl rfl ?_
              refine a_iconst (k := 39) rfl ?_
              refine u_idiv (k := 40) rfl (by omega) (by omega) ?_
              refine a_icmp_ne (k := 41) rfl (fun c_65 => ?_) (fun c_65 => ?_)
              · omega
              · refine u_aloadn (k := 42) rfl rfl ?_
                refine a_getr (k := 43) rfl fRX11_48 rfl rfl rfl ?_
                refine u_iload (k := 44) rfl rfl ?_
                refine u_iald (k := 45) rfl rfl rfl (by omega) ?_
                rw [han]
                refine a_iconst (k := 46) rfl ?_
                refine u_idiv (k := 47) rfl (by omega) (by omega) ?_
                refine a_goto (k := 48) rfl ?_
                refine a_istore (k := 50) (lv' := [(6, _), (0, _), (1, _), (2, _), (3, _), (4, _), (5, _), (7, _)]) rfl (Nat.le_of_ble_eq_true rfl) rfl ?_
                refine u_iinc (k := 51) (lv' := [(7, _), (6, _), (0, _), (1, _), (2, _), (3, _), (4, _), (5, _)]) rfl rfl (Nat.le_of_ble_eq_true rfl) (by omega) rfl ?_
                refine a_goto (k := 52) rfl ?_
                refine a_sub [2, 3, 4, 5, 6, 7, 1, 0] rfl ?_
                exact ihe (r + 1) _ (by omega) (fun _ => by omega) (fun z => absurd ⟨r, by omega, hm⟩ z)
          · refine u_iload (k := 24) rfl rfl ?_
            refine u_iload (k := 25) rfl rfl ?_
            refine a_icmp_ge (k := 26) rfl (fun c_42 => ?_) (fun c_42 => ?_)
            · omega
            · refine u_aloadn (k := 27) rfl rfl ?_
              refine a_getr (k := 28) rfl fRX11_42 rfl rfl rfl ?_
              refine u_iloadn (k := 29) rfl rfl ?_
              refine u_iload (k := 30) rfl rfl ?_
              refine u_iadd (k := 31) rfl (by omega) ?_
              refine u_aloadn (k := 32) rfl rfl ?_
              refine a_geti (k := 33) rfl fRX11_156 rfl rfl ?_
              rw [hz]
              refine u_irem (k := 34) rfl (by omega) (by omega) ?_
              refine u_ialdx ((a + r) % n)  (k := 35) rfl rfl rfl  (by rw [Int.natCast_emod, Int.natCast_add]) (Nat.lt_of_lt_of_le (Nat.mod_lt _ (by omega)) hn) ?_
              rw [hrr]
              refine a_iconst (k := 36) rfl ?_
              refine u_idiv (k := 37) rfl (by omega) (by omega) ?_
              refine u_iload (k := 38) rfl rfl ?_
              refine a_iconst (k := 39) rfl ?_
              refine u_idiv (k := 40) rfl (by omega) (by omega) ?_
              refine a_icmp_ne (k := 41) rfl (fun c_65 => ?_) (fun c_65 => ?_)
              · refine u_iload (k := 49) rfl rfl ?_
                refine a_istore (k := 50) (lv' := [(6, _), (0, _), (1, _), (2, _), (3, _), (4, _), (5, _), (7, _)]) rfl (Nat.le_of_ble_eq_true rfl) rfl ?_
                refine u_iinc (k := 51) (lv' := [(7, _), (6, _), (0, _), (1, _), (2, _), (3, _), (4, _), (5, _)]) rfl rfl (Nat.le_of_ble_eq_true rfl) (by omega) rfl ?_
                refine a_goto (k := 52) rfl ?_
                refine a_sub [2, 3, 4, 5, 6, 7, 1, 0] rfl ?_
                refine ihe (r + 1) C (by omega) (fun z => h1 ?_) (fun z => h2 ?_)
                · obtain ⟨i, hi, he⟩ := z
                  exact ⟨i, by
                    by_cases hir : i = r
                    · subst hir; exact absurd he hm
                    · omega, he⟩
                · rintro ⟨i, hi, he⟩
                  exact z ⟨i, by omega, he⟩
              · omega
      have hrq := hrt q
      refine u_iload (k := 6) rfl rfl ?_
      refine u_aloadn (k := 7) rfl rfl ?_
      refine a_geti (k := 8) rfl fRX11_156 rfl rfl ?_
      rw [hz]
      refine a_icmp_ge (k := 9) rfl (fun c_13 => ?_) (fun c_13 => ?_)
      · omega
      · refine u_aloadn (k := 10) rfl rfl ?_
        refine a_getr (k := 11) rfl fRX11_42 rfl rfl rfl ?_
        refine u_iloadn (k := 12) rfl rfl ?_
        refine u_iload (k := 13) rfl rfl ?_
        refine u_iadd (k := 14) rfl (by omega) ?_
        refine u_aloadn (k := 15) rfl rfl ?_
        refine a_geti (k := 16) rfl fRX11_156 rfl rfl ?_
        rw [hz]
        refine u_irem (k := 17) rfl (by omega) (by omega) ?_
        refine u_ialdx ((a + q) % n)  (k := 18) rfl rfl rfl  (by rw [Int.natCast_emod, Int.natCast_add]) (Nat.lt_of_lt_of_le (Nat.mod_lt _ (by omega)) hn) ?_
        rw [hrq]
        refine a_istore (k := 19) (lv' := [(5, _), (0, _), (1, _), (2, _), (3, _), (4, _)]) rfl (Nat.le_of_ble_eq_true rfl) rfl ?_
        refine a_iconst (k := 20) rfl ?_
        refine a_istore (k := 21) (lv' := [(6, _), (5, _), (0, _), (1, _), (2, _), (3, _), (4, _)]) rfl (Nat.le_of_ble_eq_true rfl) rfl ?_
        refine a_iconst (k := 22) rfl ?_
        refine a_istore (k := 23) (lv' := [(7, _), (6, _), (5, _), (0, _), (1, _), (2, _), (3, _), (4, _)]) rfl (Nat.le_of_ble_eq_true rfl) rfl ?_
        refine a_sub [3, 4, 5, 6, 7, 2, 1, 0] rfl ?_
        exact Li q 0 (-1) (by omega) (fun z => by obtain ⟨i, hi, _⟩ := z; omega) (fun _ => rfl)
  refine a_iconst (k := 0) rfl ?_
  refine a_istoren (k := 1) (lv' := [(2, _), (0, _), (1, _)]) rfl (Nat.le_of_ble_eq_true rfl) rfl ?_
  refine a_iconst (k := 2) rfl ?_
  refine a_istoren (k := 3) (lv' := [(3, _), (2, _), (0, _), (1, _)]) rfl (Nat.le_of_ble_eq_true rfl) rfl ?_
  refine a_iconst (k := 4) rfl ?_
  refine a_istore (k := 5) (lv' := [(4, _), (3, _), (2, _), (0, _), (1, _)]) rfl (Nat.le_of_ble_eq_true rfl) rfl ?_
  refine a_sub [3, 4, 2, 1, 0] rfl ?_
  exact Lo n 0 h (by omega) (fun i hi => absurd hi (Nat.not_lt_zero i)) Fr.rf
