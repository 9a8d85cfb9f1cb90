/-! PretzelProof's own small static methods -/
theorem x_isIn (S m : Nat) (h : HH) (hS : S < 2 ^ 31) (hm : m < 32) : SpI mX10_isIn [vi S, vi m] h (tbi S m) h := by
  refine Sp.of rfl kX10_isIn (Nat.le_of_ble_eq_true rfl) ?_
  have e := sab hS hm
  have e01 := tbi_01 S m
  refine u_iloadn (k := 0) rfl rfl ?_
  refine u_iloadn (k := 1) rfl rfl ?_
  refine a_ishr (k := 2) rfl ?_
  refine a_iconst (k := 3) rfl ?_
  refine a_iand (k := 4) rfl ?_
  refine a_iconst (k := 5) rfl ?_
  rw [e]
  refine a_icmp_ne (k := 6) rfl (fun c_6 => ?_) (fun c_6 => ?_)
  · refine a_iconst (k := 9) rfl ?_
    refine a_zreturn (k := 10) rfl rfl (by omega) ?_
    exact ⟨by congr 2; omega, rfl⟩
  · refine a_iconst (k := 7) rfl ?_
    refine a_goto (k := 8) rfl ?_
    refine a_zreturn (k := 10) rfl rfl (by omega) ?_
    exact ⟨by congr 2; omega, rfl⟩
theorem x_crossingOf (p : Nat) (h : HH) (hp : p < 2 ^ 31) : SpI mX10_crossingOf [vi p] h ((p / 2 % 8 : Nat) : Int) h := by
  refine Sp.of rfl kX10_crossingOf (Nat.le_of_ble_eq_true rfl) ?_
  have e : iand (ishr p 1) 7 = ((p / 2 % 8 : Nat) : Int) := by
    have h1 : ishr (p : Int) 1 = ((p >>> 1 : Nat) : Int) := ishr_nat (k := 1) hp (by omega)
    have h2 : p >>> 1 < 2 ^ 31 := by rw [Nat.shiftRight_eq_div_pow]; omega
    rw [h1]
    have := iand_nat (a := p >>> 1) (b := 7) h2
    rw [show ((7 : Nat) : Int) = 7 from rfl] at this
    rw [this, show (7 : Nat) = 2 ^ 3 - 1 from rfl, Nat.and_two_pow_sub_one_eq_mod, Nat.shiftRight_eq_div_pow]
  refine u_iloadn (k := 0) rfl rfl ?_
  refine a_iconst (k := 1) rfl ?_
  refine a_ishr (k := 2) rfl ?_
  refine a_bipush (k := 3) rfl ?_
  refine a_iand (k := 4) rfl ?_
  refine a_ireturn (k := 5) rfl rfl ?_
  exact ⟨by rw [e], rfl⟩
theorem x_leftOver (a b : Nat) (h : HH) (hb : 0 < b) : SpI mX10_leftOver [vi a, vi b] h ((a % b : Nat) : Int) h := by
  refine Sp.of rfl kX10_leftOver (Nat.le_of_ble_eq_true rfl) ?_
  refine u_iloadn (k := 0) rfl rfl ?_
  refine a_if_le (k := 1) rfl (fun c_1 => ?_) (fun c_1 => ?_)
  · omega
  · refine u_iloadn (k := 2) rfl rfl ?_
    refine u_iloadn (k := 3) rfl rfl ?_
    refine u_irem (k := 4) rfl (by omega) (by omega) ?_
    refine a_goto (k := 5) rfl ?_
    refine a_ireturn (k := 7) rfl rfl ?_
    exact ⟨by rw [Int.natCast_emod], rfl⟩
theorem x_length (j : Nat) (c : Nat) (h : HH) (hc : h 5 j 2 = c) (h8 : c ≤ 8) : SpI mX6_length [vr 5 j] h ((2 * c : Nat) : Int) h := by
  refine Sp.of rfl kX6_length (Nat.le_of_ble_eq_true rfl) ?_
  refine a_iconst (k := 0) rfl ?_
  refine u_aloadn (k := 1) rfl rfl ?_
  refine a_geti (k := 2) rfl fRX6_19 rfl rfl ?_
  refine u_imul (k := 3) rfl (by omega) ?_
  refine a_ireturn (k := 4) rfl rfl ?_
  exact ⟨by rw [hc]; rfl, rfl⟩
