/-- what seeNeighbours leaves -/
def NB (L : List Nat) (n : Nat) (g : HH) : Prop := g 17 0 4 = (nk L n : Int) ∧ (∀ x, x < 8 → g 19 0 x = (nq 1 L n x : Int)) ∧ ∀ x, x < 8 → g 20 0 x = (nq 0 L n x : Int)
theorem x_seeN (L : List Nat) (h : HH) (hl : L.length ≤ 16) (hr : ∀ i, i < L.length → h 18 0 i = (fn L i : Int)) (hL : ∀ q, fn L q < 16) :
    Sp mX3_seeNeighbours [vr 17 0, vi (L.length : Int)] h (fun r g => r = none ∧ NB L L.length g ∧ Fr [(19, 0), (20, 0)] [(17, 0, 4)] h g) := by
  refine Sp.of rfl kX3_seeNeighbours (Nat.le_of_ble_eq_true rfl) ?_
  have Lp : ∀ (m n : Nat) (g : HH), n + m = L.length → NB L n g → Fr [(19, 0), (20, 0)] [(17, 0, 4)] h g → AW mX3_seeNeighbours (fun r g => r = none ∧ NB L L.length g ∧ Fr [(19, 0), (20, 0)] [(17, 0, 4)] h g) 23 [(0, vr 17 0), (1, vi (L.length : Int)), (2, vi n)] [] g := by
    intro m
    induction m with
    | zero =>
      intro n g hn hN hF
      have hn : n = L.length := by omega
      subst hn
      refine u_iloadn (k := 13) rfl rfl ?_
      refine u_iloadn (k := 14) rfl rfl ?_
      refine a_icmp_ge (k := 15) rfl (fun c_25 => ?_) (fun c_25 => ?_)
      · refine a_return (k := 109) rfl rfl ?_
        exact ⟨rfl, hN, hF⟩
      · omega
    | succ m ih =>
      intro n g hn hN hF
      obtain ⟨hk, ho, hu⟩ := hN
      have ea : g 18 0 n = (pa L n : Int) := by rw [hF 18 0 n (by simp) (by simp)]; exact hr n (by omega)
      have la16 : pa L n < 16 := hL n
      have lb16 : pb L n < 16 := hL _
      have a8 : pa L n / 2 % 8 = pa L n / 2 := by omega
      have b8 : pb L n / 2 % 8 = pb L n / 2 := by omega
      have k8 := nk_lt hL n
      have o8 := fun x => nq_lt (r := 1) hL n x
      have u8 := fun x => nq_lt (r := 0) hL n x
      have s1_ := shl1 (k := pa L n / 2) (by omega)
      have s2_ := shl1 (k := pb L n / 2) (by omega)
      have p1_ : 2 ^ (pa L n / 2) < 2 ^ 31 := Nat.pow_lt_pow_right (by omega) (by omega)
      have p2_ : 2 ^ (pb L n / 2) < 2 ^ 31 := Nat.pow_lt_pow_right (by omega) (by omega)
      have mid : g 18 0 (if n + 1 < L.length then n + 1 else 0) = (pb L n : Int) := by
        rw [hF 18 0 _ (by simp) (by simp)]
        exact hr _ (by split <;> omega)
      have body : AW mX3_seeNeighbours (fun r g => r = none ∧ NB L L.length g ∧ Fr [(19, 0), (20, 0)] [(17, 0, 4)] h g) 54 [(0, vr 17 0), (1, vi (L.length : Int)), (2, vi n), (3, vi (pa L n))] [vi (pb L n)] g := by
        refine a_istore (k := 34) (lv' := [(4, _), (0, _), (1, _), (2, _), (3, _)]) rfl (Nat.le_of_ble_eq_true rfl) rfl ?_
        refine u_iloadn (k := 35) rfl rfl ?_
        refine i_statN1 (M' := mX10_crossingOf) (k := 36) rfl lRX3_65 oX10_crossingOf vX10_crossingOf ⟨Nat.le_of_ble_eq_true rfl, Nat.le_of_ble_eq_true rfl⟩ rfl (Nat.le_of_ble_eq_true rfl) (x_crossingOf (pa L n) g (by omega)) ?_
        rw [a8]
        refine a_istore (k := 37) (lv' := [(5, _), (4, _), (0, _), (1, _), (2, _), (3, _)]) rfl (Nat.le_of_ble_eq_true rfl) rfl ?_
        refine u_iload (k := 38) rfl rfl ?_
        refine i_statN1 (M' := mX10_crossingOf) (k := 39) rfl lRX3_65 oX10_crossingOf vX10_crossingOf ⟨Nat.le_of_ble_eq_true rfl, Nat.le_of_ble_eq_true rfl⟩ rfl (Nat.le_of_ble_eq_true rfl) (x_crossingOf (pb L n) g (by omega)) ?_
        rw [b8]
        refine a_istore (k := 40) (lv' := [(6, _), (5, _), (4, _), (0, _), (1, _), (2, _), (3, _)]) rfl (Nat.le_of_ble_eq_true rfl) rfl ?_
        refine u_iload (k := 41) rfl rfl ?_
        refine u_iload (k := 42) rfl rfl ?_
        refine a_icmp_ne (k := 43) rfl (fun c_73 => ?_) (fun c_73 => ?_)
        · have hne : ¬ pa L n / 2 = pb L n / 2 := by omega
          have E1 : nk L (n + 1) = nk L n := by simp [nk, hne]
          refine u_iloadn (k := 53) rfl rfl ?_
          refine u_iload (k := 54) rfl rfl ?_
          refine a_iand (k := 55) rfl ?_
          refine a_iconst (k := 56) rfl ?_
          refine a_iand (k := 57) rfl ?_
          rw [and_1 _ la16 _ lb16]
          refine a_iconst (k := 58) rfl ?_
          refine a_icmp_ne (k := 59) rfl (fun c_99 => ?_) (fun c_99 => ?_)
          · have hodd : ¬ (pa L n % 2 = 1 ∧ pb L n % 2 = 1) := by split at c_99 ; omega; assumption
            have E2 : ∀ x, nq 1 L (n + 1) x = nq 1 L n x := fun x => by simp only [nq]; rw [if_neg (fun z => hodd z.2)]
            refine u_iloadn (k := 81) rfl rfl ?_
            refine u_iload (k := 82) rfl rfl ?_
            refine a_ior (k := 83) rfl ?_
            refine a_iconst (k := 84) rfl ?_
            refine a_iand (k := 85) rfl ?_
            rw [or_1 _ la16 _ lb16]
            refine a_if_ne (k := 86) rfl (fun c_139 => ?_) (fun c_139 => ?_)
            · have hev : ¬ (pa L n % 2 = 0 ∧ pb L n % 2 = 0) := by split at c_139 ; omega; assumption
              have E3 : ∀ x, nq 0 L (n + 1) x = nq 0 L n x := fun x => by simp only [nq]; rw [if_neg (fun z => hev z.2)]
              refine u_iinc (k := 107) (lv' := [(2, _), (6, _), (5, _), (4, _), (0, _), (1, _), (3, _)]) rfl rfl (Nat.le_of_ble_eq_true rfl) (by omega) rfl ?_
              refine a_goto (k := 108) rfl ?_
              refine a_sub [4, 5, 0] rfl ?_
              first
                | exact ih (n + 1) _ (by omega) ⟨by rw [E1, put_eq], fun x hx => by rw [E2, put_ne (by simp)]; exact ho x hx, fun x hx => by rw [E3, put_ne (by simp)]; exact hu x hx⟩ (hF.p2 (by simp))
                | exact ih (n + 1) g (by omega) ⟨by rw [E1]; exact hk, fun x hx => by rw [E2]; exact ho x hx, fun x hx => by rw [E3]; exact hu x hx⟩ hF
                | exact ih (n + 1) _ (by omega) ⟨by rw [E1, put_ne (by simp), put_ne (by simp)]; exact hk, fun x hx => by
                    rw [E2]
                    by_cases h1 : x = pb L n / 2
                    · rw [h1, put_eq, if_neg (Ne.symm hne), if_pos rfl]
                    · rw [put_ne (by simp [h1]), if_neg h1]
                      by_cases h2 : x = pa L n / 2
                      · rw [h2, put_eq, if_pos rfl]
                      · rw [put_ne (by simp [h2]), if_neg h2]; exact ho x hx, fun x hx => by rw [E3, put_ne (by simp), put_ne (by simp)]; exact hu x hx⟩ ((hF.p1 (by simp)).p1 (by simp))
                | exact ih (n + 1) _ (by omega) ⟨by rw [E1, put_ne (by simp), put_ne (by simp)]; exact hk, fun x hx => by rw [E2, put_ne (by simp), put_ne (by simp)]; exact ho x hx, fun x hx => by
                    rw [E3]
                    by_cases h1 : x = pb L n / 2
                    · rw [h1, put_eq, if_neg (Ne.symm hne), if_pos rfl]
                    · rw [put_ne (by simp [h1]), if_neg h1]
                      by_cases h2 : x = pa L n / 2
                      · rw [h2, put_eq, if_pos rfl]
                      · rw [put_ne (by simp [h2]), if_neg h2]; exact hu x hx⟩ ((hF.p1 (by simp)).p1 (by simp))
            · have hev : pa L n % 2 = 0 ∧ pb L n % 2 = 0 := by split at c_139 ; assumption; omega
              have E3 : ∀ x, nq 0 L (n + 1) x = if x = pa L n / 2 then nq 0 L n x ||| 2 ^ (pb L n / 2) else if x = pb L n / 2 then nq 0 L n x ||| 2 ^ (pa L n / 2) else nq 0 L n x := fun x => by simp only [nq]; rw [if_pos ⟨hne, hev⟩]
              refine u_aloadn (k := 87) rfl rfl ?_
              refine a_getr (k := 88) rfl fRX3_18 rfl rfl rfl ?_
              refine u_iload (k := 89) rfl rfl ?_
              refine a_dup2 (k := 90) rfl rfl rfl ?_
              refine u_iald (k := 91) rfl rfl rfl (by omega) ?_
              rw [hu _ (by omega)]
              refine a_iconst (k := 92) rfl ?_
              refine u_iload (k := 93) rfl rfl ?_
              refine a_ishl (k := 94) rfl ?_
              rw [s2_]
              refine a_ior (k := 95) rfl ?_
              rw [ior_nat (by have := u8 (pa L n / 2); omega) p2_]
              refine u_iast (k := 96) rfl rfl rfl (by omega) ?_
              refine u_aloadn (k := 97) rfl rfl ?_
              refine a_getr (k := 98) rfl fRX3_18 rfl rfl rfl ?_
              refine u_iload (k := 99) rfl rfl ?_
              refine a_dup2 (k := 100) rfl rfl rfl ?_
              refine u_iald (k := 101) rfl rfl rfl (by omega) ?_
              rw [put_ne (by simp; omega), hu _ (by omega)]
              refine a_iconst (k := 102) rfl ?_
              refine u_iload (k := 103) rfl rfl ?_
              refine a_ishl (k := 104) rfl ?_
              rw [s1_]
              refine a_ior (k := 105) rfl ?_
              rw [ior_nat (by have := u8 (pb L n / 2); omega) p1_]
              refine u_iast (k := 106) rfl rfl rfl (by omega) ?_
              refine u_iinc (k := 107) (lv' := [(2, _), (6, _), (5, _), (4, _), (0, _), (1, _), (3, _)]) rfl rfl (Nat.le_of_ble_eq_true rfl) (by omega) rfl ?_
              refine a_goto (k := 108) rfl ?_
              refine a_sub [4, 5, 0] rfl ?_
              first
                | exact ih (n + 1) _ (by omega) ⟨by rw [E1, put_eq], fun x hx => by rw [E2, put_ne (by simp)]; exact ho x hx, fun x hx => by rw [E3, put_ne (by simp)]; exact hu x hx⟩ (hF.p2 (by simp))
                | exact ih (n + 1) g (by omega) ⟨by rw [E1]; exact hk, fun x hx => by rw [E2]; exact ho x hx, fun x hx => by rw [E3]; exact hu x hx⟩ hF
                | exact ih (n + 1) _ (by omega) ⟨by rw [E1, put_ne (by simp), put_ne (by simp)]; exact hk, fun x hx => by
                    rw [E2]
                    by_cases h1 : x = pb L n / 2
                    · rw [h1, put_eq, if_neg (Ne.symm hne), if_pos rfl]
                    · rw [put_ne (by simp [h1]), if_neg h1]
                      by_cases h2 : x = pa L n / 2
                      · rw [h2, put_eq, if_pos rfl]
                      · rw [put_ne (by simp [h2]), if_neg h2]; exact ho x hx, fun x hx => by rw [E3, put_ne (by simp), put_ne (by simp)]; exact hu x hx⟩ ((hF.p1 (by simp)).p1 (by simp))
                | exact ih (n + 1) _ (by omega) ⟨by rw [E1, put_ne (by simp), put_ne (by simp)]; exact hk, fun x hx => by rw [E2, put_ne (by simp), put_ne (by simp)]; exact ho x hx, fun x hx => by
                    rw [E3]
                    by_cases h1 : x = pb L n / 2
                    · rw [h1, put_eq, if_neg (Ne.symm hne), if_pos rfl]
                    · rw [put_ne (by simp [h1]), if_neg h1]
                      by_cases h2 : x = pa L n / 2
                      · rw [h2, put_eq, if_pos rfl]
                      · rw [put_ne (by simp [h2]), if_neg h2]; exact hu x hx⟩ ((hF.p1 (by simp)).p1 (by simp))
          · have hodd : pa L n % 2 = 1 ∧ pb L n % 2 = 1 := by split at c_99 ; assumption; omega
            have E2 : ∀ x, nq 1 L (n + 1) x = if x = pa L n / 2 then nq 1 L n x ||| 2 ^ (pb L n / 2) else if x = pb L n / 2 then nq 1 L n x ||| 2 ^ (pa L n / 2) else nq 1 L n x := fun x => by simp only [nq]; rw [if_pos ⟨hne, hodd⟩]
            have E3 : ∀ x, nq 0 L (n + 1) x = nq 0 L n x := fun x => by simp only [nq]; rw [if_neg (fun z => by omega)]
            refine u_aloadn (k := 60) rfl rfl ?_
            refine a_getr (k := 61) rfl fRX3_15 rfl rfl rfl ?_
            refine u_iload (k := 62) rfl rfl ?_
            refine a_dup2 (k := 63) rfl rfl rfl ?_
            refine u_iald (k := 64) rfl rfl rfl (by omega) ?_
            rw [ho _ (by omega)]
            refine a_iconst (k := 65) rfl ?_
            refine u_iload (k := 66) rfl rfl ?_
            refine a_ishl (k := 67) rfl ?_
            rw [s2_]
            refine a_ior (k := 68) rfl ?_
            rw [ior_nat (by have := o8 (pa L n / 2); omega) p2_]
            refine u_iast (k := 69) rfl rfl rfl (by omega) ?_
            refine u_aloadn (k := 70) rfl rfl ?_
            refine a_getr (k := 71) rfl fRX3_15 rfl rfl rfl ?_
            refine u_iload (k := 72) rfl rfl ?_
            refine a_dup2 (k := 73) rfl rfl rfl ?_
            refine u_iald (k := 74) rfl rfl rfl (by omega) ?_
            rw [put_ne (by simp; omega), ho _ (by omega)]
            refine a_iconst (k := 75) rfl ?_
            refine u_iload (k := 76) rfl rfl ?_
            refine a_ishl (k := 77) rfl ?_
            rw [s1_]
            refine a_ior (k := 78) rfl ?_
            rw [ior_nat (by have := o8 (pb L n / 2); omega) p1_]
            refine u_iast (k := 79) rfl rfl rfl (by omega) ?_
            refine a_goto (k := 80) rfl ?_
            refine u_iinc (k := 107) (lv' := [(2, _), (6, _), (5, _), (4, _), (0, _), (1, _), (3, _)]) rfl rfl (Nat.le_of_ble_eq_true rfl) (by omega) rfl ?_
            refine a_goto (k := 108) rfl ?_
            refine a_sub [4, 5, 0] rfl ?_
            first
              | exact ih (n + 1) _ (by omega) ⟨by rw [E1, put_eq], fun x hx => by rw [E2, put_ne (by simp)]; exact ho x hx, fun x hx => by rw [E3, put_ne (by simp)]; exact hu x hx⟩ (hF.p2 (by simp))
              | exact ih (n + 1) g (by omega) ⟨by rw [E1]; exact hk, fun x hx => by rw [E2]; exact ho x hx, fun x hx => by rw [E3]; exact hu x hx⟩ hF
              | exact ih (n + 1) _ (by omega) ⟨by rw [E1, put_ne (by simp), put_ne (by simp)]; exact hk, fun x hx => by
                  rw [E2]
                  by_cases h1 : x = pb L n / 2
                  · rw [h1, put_eq, if_neg (Ne.symm hne), if_pos rfl]
                  · rw [put_ne (by simp [h1]), if_neg h1]
                    by_cases h2 : x = pa L n / 2
                    · rw [h2, put_eq, if_pos rfl]
                    · rw [put_ne (by simp [h2]), if_neg h2]; exact ho x hx, fun x hx => by rw [E3, put_ne (by simp), put_ne (by simp)]; exact hu x hx⟩ ((hF.p1 (by simp)).p1 (by simp))
              | exact ih (n + 1) _ (by omega) ⟨by rw [E1, put_ne (by simp), put_ne (by simp)]; exact hk, fun x hx => by rw [E2, put_ne (by simp), put_ne (by simp)]; exact ho x hx, fun x hx => by
                  rw [E3]
                  by_cases h1 : x = pb L n / 2
                  · rw [h1, put_eq, if_neg (Ne.symm hne), if_pos rfl]
                  · rw [put_ne (by simp [h1]), if_neg h1]
                    by_cases h2 : x = pa L n / 2
                    · rw [h2, put_eq, if_pos rfl]
                    · rw [put_ne (by simp [h2]), if_neg h2]; exact hu x hx⟩ ((hF.p1 (by simp)).p1 (by simp))
        · have heq : pa L n / 2 = pb L n / 2 := by omega
          have E1 : nk L (n + 1) = nk L n ||| 2 ^ (pa L n / 2) := by simp only [nk]; rw [if_pos heq]
          have E2 : ∀ x, nq 1 L (n + 1) x = nq 1 L n x := fun x => by simp only [nq]; rw [if_neg (fun z => z.1 heq)]
          have E3 : ∀ x, nq 0 L (n + 1) x = nq 0 L n x := fun x => by simp only [nq]; rw [if_neg (fun z => z.1 heq)]
          refine u_aloadn (k := 44) rfl rfl ?_
          refine a_dup (k := 45) rfl rfl ?_
          refine a_geti (k := 46) rfl fRX3_52 rfl rfl ?_
          refine a_iconst (k := 47) rfl ?_
          refine u_iload (k := 48) rfl rfl ?_
          refine a_ishl (k := 49) rfl ?_
          rw [hk, s1_]
          refine a_ior (k := 50) rfl ?_
          rw [ior_nat (by omega) p1_]
          refine a_puti (k := 51) rfl pRX3_52 rfl rfl ?_
          refine a_goto (k := 52) rfl ?_
          refine u_iinc (k := 107) (lv' := [(2, _), (6, _), (5, _), (4, _), (0, _), (1, _), (3, _)]) rfl rfl (Nat.le_of_ble_eq_true rfl) (by omega) rfl ?_
          refine a_goto (k := 108) rfl ?_
          refine a_sub [4, 5, 0] rfl ?_
          first
            | exact ih (n + 1) _ (by omega) ⟨by rw [E1, put_eq], fun x hx => by rw [E2, put_ne (by simp)]; exact ho x hx, fun x hx => by rw [E3, put_ne (by simp)]; exact hu x hx⟩ (hF.p2 (by simp))
            | exact ih (n + 1) g (by omega) ⟨by rw [E1]; exact hk, fun x hx => by rw [E2]; exact ho x hx, fun x hx => by rw [E3]; exact hu x hx⟩ hF
            | exact ih (n + 1) _ (by omega) ⟨by rw [E1, put_ne (by simp), put_ne (by simp)]; exact hk, fun x hx => by
                rw [E2]
                by_cases h1 : x = pb L n / 2
                · rw [h1, put_eq, if_neg (Ne.symm hne), if_pos rfl]
                · rw [put_ne (by simp [h1]), if_neg h1]
                  by_cases h2 : x = pa L n / 2
                  · rw [h2, put_eq, if_pos rfl]
                  · rw [put_ne (by simp [h2]), if_neg h2]; exact ho x hx, fun x hx => by rw [E3, put_ne (by simp), put_ne (by simp)]; exact hu x hx⟩ ((hF.p1 (by simp)).p1 (by simp))
            | exact ih (n + 1) _ (by omega) ⟨by rw [E1, put_ne (by simp), put_ne (by simp)]; exact hk, fun x hx => by rw [E2, put_ne (by simp), put_ne (by simp)]; exact ho x hx, fun x hx => by
                rw [E3]
                by_cases h1 : x = pb L n / 2
                · rw [h1, put_eq, if_neg (Ne.symm hne), if_pos rfl]
                · rw [put_ne (by simp [h1]), if_neg h1]
                  by_cases h2 : x = pa L n / 2
                  · rw [h2, put_eq, if_pos rfl]
                  · rw [put_ne (by simp [h2]), if_neg h2]; exact hu x hx⟩ ((hF.p1 (by simp)).p1 (by simp))
      refine u_iloadn (k := 13) rfl rfl ?_
      refine u_iloadn (k := 14) rfl rfl ?_
      refine a_icmp_ge (k := 15) rfl (fun c_25 => ?_) (fun c_25 => ?_)
      · omega
      · refine u_aloadn (k := 16) rfl rfl ?_
        refine a_getr (k := 17) rfl fRX3_9 rfl rfl rfl ?_
        refine u_iloadn (k := 18) rfl rfl ?_
        refine u_iald (k := 19) rfl rfl rfl (by omega) ?_
        rw [ea]
        refine a_istoren (k := 20) (lv' := [(3, _), (0, _), (1, _), (2, _)]) rfl (Nat.le_of_ble_eq_true rfl) rfl ?_
        refine u_aloadn (k := 21) rfl rfl ?_
        refine a_getr (k := 22) rfl fRX3_9 rfl rfl rfl ?_
        refine u_iloadn (k := 23) rfl rfl ?_
        refine a_iconst (k := 24) rfl ?_
        refine u_iadd (k := 25) rfl (by omega) ?_
        refine u_iloadn (k := 26) rfl rfl ?_
        refine a_icmp_ge (k := 27) rfl (fun c_43 => ?_) (fun c_43 => ?_)
        · refine a_iconst (k := 32) rfl ?_
          refine u_ialdx (if n + 1 < L.length then n + 1 else 0)  (k := 33) rfl rfl rfl  (by split <;> omega) (by split <;> omega) ?_
          refine a_sub [1, 2, 3, 0] rfl ?_
          rw [mid]; exact body
        · refine u_iloadn (k := 28) rfl rfl ?_
          refine a_iconst (k := 29) rfl ?_
          refine u_iadd (k := 30) rfl (by omega) ?_
          refine a_goto (k := 31) rfl ?_
          refine u_ialdx (if n + 1 < L.length then n + 1 else 0)  (k := 33) rfl rfl rfl  (by split <;> omega) (by split <;> omega) ?_
          refine a_sub [1, 2, 3, 0] rfl ?_
          rw [mid]; exact body
  refine u_aloadn (k := 0) rfl rfl ?_
  refine a_getr (k := 1) rfl fRX3_15 rfl rfl rfl ?_
  refine a_iconst (k := 2) rfl ?_
  refine uv_stat2 (M' := mJ7_fill_53178) (k := 3) rfl lRX3_72 oJ7_fill_53178 vJ7_fill_53178 ⟨Nat.le_of_ble_eq_true rfl, Nat.le_of_ble_eq_true rfl⟩ rfl (Nat.le_of_ble_eq_true rfl) (j_fill 19 8 0 h rfl rfl (by omega) 0) (by intro r g hp; exact hp.1) (fun g1 hg1 => ?_)
  obtain ⟨-, b1, b2⟩ := hg1
  refine u_aloadn (k := 4) rfl rfl ?_
  refine a_getr (k := 5) rfl fRX3_18 rfl rfl rfl ?_
  refine a_iconst (k := 6) rfl ?_
  refine uv_stat2 (M' := mJ7_fill_53178) (k := 7) rfl lRX3_72 oJ7_fill_53178 vJ7_fill_53178 ⟨Nat.le_of_ble_eq_true rfl, Nat.le_of_ble_eq_true rfl⟩ rfl (Nat.le_of_ble_eq_true rfl) (j_fill 20 8 0 g1 rfl rfl (by omega) 0) (by intro r g hp; exact hp.1) (fun g2 hg2 => ?_)
  obtain ⟨-, b3, b4⟩ := hg2
  refine u_aloadn (k := 8) rfl rfl ?_
  refine a_iconst (k := 9) rfl ?_
  refine a_puti (k := 10) rfl pRX3_52 rfl rfl ?_
  refine a_iconst (k := 11) rfl ?_
  refine a_istoren (k := 12) (lv' := [(2, _), (0, _), (1, _)]) rfl (Nat.le_of_ble_eq_true rfl) rfl ?_
  refine a_sub [1, 2, 0] rfl ?_
  exact Lp L.length 0 _ (by omega) ⟨by rw [put_eq]; rfl, fun x hx => by rw [put_ne (by simp), b4 19 0 x (by simp) (by simp), b1 x hx]; rfl, fun x hx => by rw [put_ne (by simp), b3 x hx]; rfl⟩ (((b2.mono (by simp) (by simp)).tr b4 (by simp) (by simp)).p2 (by simp))
