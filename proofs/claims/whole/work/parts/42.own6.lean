/-! draws -/
theorem w6_id {x : Int} (h1 : -9223372036854775808 ≤ x) (h2 : x < 9223372036854775808) : w6 x = x := Int64.toInt_ofInt_of_le h1 h2
theorem land31 {x : Nat} (h : x < 2 ^ 63) : land_ (x : Int) 2147483647 = ((x % 2 ^ 31 : Nat) : Int) := by
  have e : Int64.ofInt (x : Int) &&& Int64.ofInt 2147483647 = Int64.ofInt ((x % 2 ^ 31 : Nat) : Int) := by
    apply Int64.toBitVec_inj.mp
    rw [Int64.toBitVec_and]
    show BitVec.ofInt 64 (x : Int) &&& BitVec.ofInt 64 ((2147483647 : Nat) : Int) = BitVec.ofInt 64 ((x % 2 ^ 31 : Nat) : Int)
    rw [BitVec.ofInt_natCast, BitVec.ofInt_natCast, BitVec.ofInt_natCast]
    apply BitVec.eq_of_toNat_eq
    rw [BitVec.toNat_and, BitVec.toNat_ofNat, BitVec.toNat_ofNat, BitVec.toNat_ofNat]
    rw [Nat.mod_eq_of_lt (show x < 2 ^ 64 by omega), Nat.mod_eq_of_lt (show 2147483647 < 2 ^ 64 by omega), Nat.mod_eq_of_lt (show x % 2 ^ 31 < 2 ^ 64 by omega)]
    exact Nat.and_two_pow_sub_one_eq_mod x 31
  unfold land_
  rw [e]
  exact Int64.toInt_ofInt_of_le (by omega) (by omega)
def nxt (d : Nat) : Nat := (d * 1103515245 + 12345) % 2 ^ 31
theorem nxt_lt (d : Nat) : nxt d < 2 ^ 31 := Nat.mod_lt _ (by decide)
def drw (d n : Nat) : Nat := nxt d / 65536 % n
theorem x_draw {d n : Nat} {h : HH} (hd : h 0 0 13 = (d : Int)) (hd2 : d < 2 ^ 31) (hn : 0 < n) : SpI mX10_draw [vr 0 0, vi n] h (drw d n) (put h 0 0 13 (nxt d : Int)) := by
  have hx := nxt_lt d
  refine Sp.of rfl kX10_draw (Nat.le_of_ble_eq_true rfl) ?_
  refine u_aloadn (k := 0) rfl rfl ?_
  refine u_aloadn (k := 1) rfl rfl ?_
  refine a_geti (k := 2) rfl fRX10_282 rfl rfl ?_
  rw [hd]
  refine a_i2l (k := 3) rfl ?_
  refine a_ldc2 (k := 4) rfl nRX10_309 ⟨by decide, by decide⟩ ?_
  refine a_lmul (k := 5) rfl ?_
  rw [lm, w6_id (by omega) (by omega)]
  refine a_ldc2 (k := 6) rfl nRX10_311 ⟨by decide, by decide⟩ ?_
  refine a_ladd (k := 7) rfl ?_
  rw [la_, w6_id (by omega) (by omega), show ((d : Int) * 1103515245 + 12345) = ((d * 1103515245 + 12345 : Nat) : Int) by omega]
  refine a_ldc2 (k := 8) rfl nRX10_313 ⟨by decide, by decide⟩ ?_
  refine a_land (k := 9) rfl ?_
  rw [land31 (by omega)]
  refine a_l2i (k := 10) rfl ?_
  rw [w3_id (by omega) (by omega)]
  refine a_puti (k := 11) rfl pRX10_282 rfl rfl ?_
  refine u_aloadn (k := 12) rfl rfl ?_
  refine a_geti (k := 13) rfl fRX10_282 rfl rfl ?_
  rw [put_eq]
  refine a_ldcw (k := 14) rfl nRX10_315 ⟨by decide, by decide⟩ ?_
  refine u_idiv (k := 15) rfl (by omega) (by omega) ?_
  refine u_iloadn (k := 16) rfl rfl ?_
  rw [show ((((d * 1103515245 + 12345) % 2 ^ 31 : Nat) : Int) / 65536) = ((nxt d / 65536 : Nat) : Int) by unfold nxt; omega]
  refine i_stat2 (M' := mX10_leftOver) (k := 17) rfl lRX10_316 oX10_leftOver vX10_leftOver ⟨Nat.le_of_ble_eq_true rfl, Nat.le_of_ble_eq_true rfl⟩ rfl (Nat.le_of_ble_eq_true rfl) (x_leftOver _ n _ hn) ?_
  refine a_ireturn (k := 18) rfl rfl ?_
  exact ⟨rfl, rfl⟩
