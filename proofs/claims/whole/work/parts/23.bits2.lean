/-! how many bits -/
def pct (n : Nat) : Nat → Nat
  | 0 => 0
  | k + 1 => pct n k + (if n.testBit k then 1 else 0)
theorem pct_le (n : Nat) : ∀ k, pct n k ≤ k
  | 0 => Nat.le_refl 0
  | k + 1 => by
    have := pct_le n k
    unfold pct
    split <;> omega
theorem pct_cong {a b : Nat} : ∀ {k : Nat}, (∀ i, i < k → a.testBit i = b.testBit i) → pct a k = pct b k
  | 0, _ => rfl
  | k + 1, h => by
    unfold pct
    rw [pct_cong (fun i hi => h i (by omega)), h k (by omega)]
theorem pct_split (a b k : Nat) (hb : b < 2 ^ k) : ∀ m, pct (2 ^ k * a + b) (k + m) = pct b k + pct a m
  | 0 => by
    rw [Nat.add_zero]
    show _ = pct b k + 0
    rw [Nat.add_zero]
    exact pct_cong (fun i hi => by rw [Nat.testBit_two_pow_mul_add a hb, if_pos hi])
  | m + 1 => by
    rw [← Nat.add_assoc]
    show pct _ (k + m) + _ = pct b k + (pct a m + _)
    have e := Nat.testBit_two_pow_mul_add a hb (k + m)
    rw [if_neg (by omega), Nat.add_sub_cancel_left] at e
    rw [pct_split a b k hb m, e]
    omega
theorem pct_up {n k : Nat} (h : n < 2 ^ k) : ∀ m, pct n (k + m) = pct n k
  | 0 => rfl
  | m + 1 => by
    rw [← Nat.add_assoc]
    show pct n (k + m) + _ = _
    rw [pct_up h m, Nat.testBit_lt_two_pow (Nat.lt_of_lt_of_le h (Nat.pow_le_pow_right (by omega) (by omega)))]
    rfl
def pc_ (n : Nat) : Nat := pct n 32
/-- the lines of bitCount, by their masks -/
def g1_ (M x : Nat) : Nat := x - ((x >>> 1) &&& M)
def g2_ (M x : Nat) : Nat := (x &&& M) + ((x >>> 2) &&& M)
def g3_ (M x : Nat) : Nat := (x + (x >>> 4)) &&& M
def swok (x : Nat) : Bool := decide (g1_ 0x55 x < 256) && decide (g2_ 0x33 (g1_ 0x55 x) ≤ 0x44) && decide (g2_ 0x33 (g1_ 0x55 x) % 16 ≤ 4) && decide (g3_ 0x0f (g2_ 0x33 (g1_ 0x55 x)) = pct x 8)
theorem sw_all : ∀ b, b < 256 → swok b = true := by decide +kernel
theorem sw_and {w lo hi k M : Nat} (hlo : lo < 2 ^ w) (hM : M * 2 ^ k < 2 ^ w) : ((2 ^ w * hi + lo) >>> k) &&& (2 ^ w * M + M) = 2 ^ w * ((hi >>> k) &&& M) + ((lo >>> k) &&& M) := by
  have hM' : M < 2 ^ w := Nat.lt_of_le_of_lt (Nat.le_mul_of_pos_right M (Nat.pow_pos (by omega))) hM
  have hl2 : (lo >>> k) &&& M < 2 ^ w := Nat.lt_of_le_of_lt Nat.and_le_right hM'
  apply Nat.eq_of_testBit_eq
  intro i
  rw [Nat.testBit_and, Nat.testBit_shiftRight, Nat.testBit_two_pow_mul_add hi hlo, Nat.testBit_two_pow_mul_add M hM', Nat.testBit_two_pow_mul_add _ hl2, Nat.testBit_and, Nat.testBit_and, Nat.testBit_shiftRight, Nat.testBit_shiftRight]
  by_cases hi16 : i < w
  · rw [if_pos hi16, if_pos hi16]
    by_cases hk : k + i < w
    · rw [if_pos hk]
    · rw [if_neg hk]
      have hz : M.testBit i = false := by
        apply Nat.testBit_lt_two_pow
        have h3 : M * 2 ^ k < 2 ^ i * 2 ^ k := by
          rw [← Nat.pow_add]
          exact Nat.lt_of_lt_of_le hM (Nat.pow_le_pow_right (by omega) (by omega))
        exact Nat.lt_of_mul_lt_mul_right h3
      rw [hz, Bool.and_false, Bool.and_false]
  · rw [if_neg hi16, if_neg hi16, if_neg (by omega), show k + (i - w) = k + i - w by omega]
theorem sw_low {v M : Nat} (y z : Nat) (hM : M < 2 ^ v) : (y + 2 ^ v * z) &&& M = y &&& M := by
  apply Nat.eq_of_testBit_eq
  intro i
  rw [Nat.testBit_and, Nat.testBit_and]
  by_cases hi : i < v
  · have h1 : (y + 2 ^ v * z) % 2 ^ v = y % 2 ^ v := Nat.add_mul_mod_self_left y (2 ^ v) z
    have h2 := congrArg (fun q => q.testBit i) h1
    simp only [Nat.testBit_mod_two_pow, hi, decide_true, Bool.true_and] at h2
    rw [h2]
  · have : M.testBit i = false := Nat.testBit_lt_two_pow (Nat.lt_of_lt_of_le hM (Nat.pow_le_pow_right (by omega) (by omega)))
    rw [this, Bool.and_false, Bool.and_false]
theorem c1_ {w lo hi M : Nat} (hlo : lo < 2 ^ w) (hM : M * 2 ^ 1 < 2 ^ w) : g1_ (2 ^ w * M + M) (2 ^ w * hi + lo) = 2 ^ w * g1_ M hi + g1_ M lo := by
  have q1 : (lo >>> 1) &&& M ≤ lo := Nat.le_trans Nat.and_le_left (by rw [Nat.shiftRight_eq_div_pow]; omega)
  have q2 : (hi >>> 1) &&& M ≤ hi := Nat.le_trans Nat.and_le_left (by rw [Nat.shiftRight_eq_div_pow]; omega)
  unfold g1_
  rw [sw_and hlo hM, Nat.mul_sub]
  have q3 : 2 ^ w * ((hi >>> 1) &&& M) ≤ 2 ^ w * hi := Nat.mul_le_mul_left _ q2
  omega
theorem c2_ {w lo hi M : Nat} (hlo : lo < 2 ^ w) (hM : M * 2 ^ 2 < 2 ^ w) : g2_ (2 ^ w * M + M) (2 ^ w * hi + lo) = 2 ^ w * g2_ M hi + g2_ M lo := by
  have q0 := sw_and (k := 0) (hi := hi) hlo (M := M) (by omega)
  simp only [Nat.shiftRight_zero] at q0
  unfold g2_
  rw [q0, sw_and hlo hM, Nat.mul_add]
  omega
theorem c3_ {v lo hi M : Nat} (hM : M < 2 ^ v) (hlo : lo + lo / 16 + 2 ^ v * (hi % 16) < 2 ^ (v + 4)) : g3_ (2 ^ (v + 4) * M + M) (2 ^ (v + 4) * hi + lo) = 2 ^ (v + 4) * g3_ M hi + g3_ M lo := by
  have hp : 2 ^ (v + 4) = 2 ^ v * 16 := by rw [Nat.pow_add]
  have q1 : 2 ^ (v + 4) * hi + lo + (2 ^ (v + 4) * hi + lo) >>> 4 = 2 ^ (v + 4) * (hi + hi >>> 4) + (lo + lo / 16 + 2 ^ v * (hi % 16)) := by
    have e1 : (2 ^ (v + 4) * hi + lo) >>> 4 = 2 ^ v * hi + lo / 16 := by
      rw [Nat.shiftRight_eq_div_pow, hp, show 2 ^ v * 16 * hi + lo = lo + 16 * (2 ^ v * hi) by rw [Nat.mul_comm (2 ^ v) 16, Nat.mul_assoc]; omega, Nat.add_mul_div_left _ _ (by omega)]
      omega
    have e2 : 2 ^ v * hi = 2 ^ (v + 4) * (hi / 16) + 2 ^ v * (hi % 16) := by
      rw [hp, Nat.mul_assoc, ← Nat.mul_add, Nat.div_add_mod]
    rw [e1, e2, Nat.mul_add, Nat.shiftRight_eq_div_pow, show (2 : Nat) ^ 4 = 16 from rfl]
    omega
  have q3 := sw_and (k := 0) (w := v + 4) (hi := hi + hi >>> 4) hlo (M := M) (by have : 2 ^ v ≤ 2 ^ (v + 4) := Nat.pow_le_pow_right (by omega) (by omega); omega)
  simp only [Nat.shiftRight_zero] at q3
  unfold g3_
  rw [q1, q3, sw_low _ _ hM, Nat.shiftRight_eq_div_pow lo 4]
theorem b16 (x : Nat) (hx : x < 2 ^ 16) : g1_ 0x5555 x < 2 ^ 16 ∧ g2_ 0x3333 (g1_ 0x5555 x) ≤ 0x4444 ∧ g2_ 0x3333 (g1_ 0x5555 x) % 16 ≤ 4 ∧ ∃ a b, a ≤ 8 ∧ b ≤ 8 ∧ a + b = pct x 16 ∧ g3_ 0x0f0f (g2_ 0x3333 (g1_ 0x5555 x)) = 256 * a + b := by
  obtain ⟨hi, lo, hhi, hlo, e⟩ : ∃ hi lo, hi < 256 ∧ lo < 256 ∧ x = 2 ^ 8 * hi + lo := ⟨x / 256, x % 256, by omega, by omega, by omega⟩
  have wl := sw_all lo hlo
  have wh := sw_all hi hhi
  simp only [swok, Bool.and_eq_true, decide_eq_true_eq] at wl wh
  obtain ⟨⟨⟨l1, l2⟩, l3⟩, l4⟩ := wl
  obtain ⟨⟨⟨h1, h2⟩, h3⟩, h4⟩ := wh
  have pl := pct_le lo 8
  have ph := pct_le hi 8
  have e1 : g1_ 0x5555 x = 2 ^ 8 * g1_ 0x55 hi + g1_ 0x55 lo := by rw [e]; exact c1_ (w := 8) (M := 0x55) hlo (by omega)
  have e2 : g2_ 0x3333 (g1_ 0x5555 x) = 2 ^ 8 * g2_ 0x33 (g1_ 0x55 hi) + g2_ 0x33 (g1_ 0x55 lo) := by rw [e1]; exact c2_ (w := 8) (M := 0x33) l1 (by omega)
  have e3 : g3_ 0x0f0f (g2_ 0x3333 (g1_ 0x5555 x)) = 2 ^ 8 * g3_ 0x0f (g2_ 0x33 (g1_ 0x55 hi)) + g3_ 0x0f (g2_ 0x33 (g1_ 0x55 lo)) := by rw [e2]; exact c3_ (v := 4) (M := 0x0f) (by omega) (by omega)
  refine ⟨by omega, by omega, by omega, pct hi 8, pct lo 8, ph, pl, ?_, by rw [e3, h4, l4]⟩
  rw [e, show (16 : Nat) = 8 + 8 from rfl, pct_split hi lo 8 hlo 8]
  omega
def bc1 (n : Nat) : Nat := g1_ 1431655765 n
def bc2 (n : Nat) : Nat := g2_ 858993459 n
def bc3 (n : Nat) : Nat := g3_ 252645135 n
theorem bc_ok (n : Nat) (hn : n < 2 ^ 31) : bc1 n < 2 ^ 31 ∧ bc2 (bc1 n) < 2 ^ 31 ∧ bc3 (bc2 (bc1 n)) < 2 ^ 28 ∧ (bc3 (bc2 (bc1 n)) + bc3 (bc2 (bc1 n)) / 256 + (bc3 (bc2 (bc1 n)) + bc3 (bc2 (bc1 n)) / 256) / 65536) % 64 = pc_ n := by
  obtain ⟨hi, lo, hhi, hlo, e⟩ : ∃ hi lo, hi < 32768 ∧ lo < 2 ^ 16 ∧ n = 2 ^ 16 * hi + lo := ⟨n / 65536, n % 65536, by omega, by omega, by omega⟩
  obtain ⟨l1, l2, l3, a, b, a8, b8, ab, l4⟩ := b16 lo hlo
  obtain ⟨h1, h2, h3, a2, b2, a28, b28, ab2, h4⟩ := b16 hi (by omega)
  have b1 : bc1 n ≤ n := Nat.sub_le _ _
  have e1 : bc1 n = 2 ^ 16 * g1_ 0x5555 hi + g1_ 0x5555 lo := by rw [e]; exact c1_ (w := 16) (M := 0x5555) hlo (by omega)
  have e2 : bc2 (bc1 n) = 2 ^ 16 * g2_ 0x3333 (g1_ 0x5555 hi) + g2_ 0x3333 (g1_ 0x5555 lo) := by rw [e1]; exact c2_ (w := 16) (M := 0x3333) l1 (by omega)
  have e3 : bc3 (bc2 (bc1 n)) = 2 ^ 16 * g3_ 0x0f0f (g2_ 0x3333 (g1_ 0x5555 hi)) + g3_ 0x0f0f (g2_ 0x3333 (g1_ 0x5555 lo)) := by rw [e2]; exact c3_ (v := 12) (M := 0x0f0f) (by omega) (by omega)
  have ep : pc_ n = pct lo 16 + pct hi 16 := by
    unfold pc_
    rw [e]
    exact pct_split hi lo 16 hlo 16
  refine ⟨by omega, by rw [e2]; omega, by rw [e3, l4, h4]; omega, ?_⟩
  have ex : bc3 (bc2 (bc1 n)) = b + 256 * a + 65536 * b2 + 16777216 * a2 := by rw [e3, l4, h4]; omega
  have ey : (b + 256 * a + 65536 * b2 + 16777216 * a2) / 256 = a + 256 * b2 + 65536 * a2 := by omega
  have ez : (b + 256 * a + 65536 * b2 + 16777216 * a2 + (a + 256 * b2 + 65536 * a2)) / 65536 = b2 + a2 + 256 * a2 := by omega
  rw [ex, ey, ez, ep]
  omega
theorem s_u : ∀ n, n < 32 → (((nI n).toUInt32 &&& Int32.toUInt32 31).toBitVec % 32).toNat = n := by decide +kernel
theorem iushr_nat {n k : Nat} (h : n < 2 ^ 31) (hk : k < 32) : iushr n k = ((n >>> k : Nat) : Int) := by
  have h2 : n / 2 ^ k < 2 ^ 31 := Nat.lt_of_le_of_lt (Nat.div_le_self _ _) h
  rw [iushr, ofI_nat, ofI_nat, pk_ushrN (by omega) _ k (s_u k hk), nI_toInt h2, Nat.shiftRight_eq_div_pow]
theorem j_bitCount (n : Nat) (h : HH) (hn : n < 2 ^ 31) : SpI mJ6_bitCount_0f7a4 [vi n] h (pc_ n) h := by
  refine Sp.ofF (by decide +kernel) kJ6_bitCount_0f7a4 (Nat.le_of_ble_eq_true rfl) ?_
  obtain ⟨b1, b2, b3, b4⟩ := bc_ok n hn
  have i1 : iushr (n : Int) 1 = ((n >>> 1 : Nat) : Int) := iushr_nat (k := 1) hn (by omega)
  have l1 : n >>> 1 < 2 ^ 31 := by rw [Nat.shiftRight_eq_div_pow]; omega
  have i2 : iand ((n >>> 1 : Nat) : Int) 1431655765 = (((n >>> 1) &&& 1431655765 : Nat) : Int) := iand_nat (b := 1431655765) l1
  have i3 : (n >>> 1) &&& 1431655765 ≤ n := Nat.le_trans Nat.and_le_left (by rw [Nat.shiftRight_eq_div_pow]; omega)
  have i4 : (n : Int) - (((n >>> 1) &&& 1431655765 : Nat) : Int) = (bc1 n : Int) := by unfold bc1 g1_; omega
  have j1 : iand (bc1 n : Int) 858993459 = ((bc1 n &&& 858993459 : Nat) : Int) := iand_nat (b := 858993459) b1
  have j2 : iushr (bc1 n : Int) 2 = ((bc1 n >>> 2 : Nat) : Int) := iushr_nat (k := 2) b1 (by omega)
  have j3 : iand ((bc1 n >>> 2 : Nat) : Int) 858993459 = ((bc1 n >>> 2 &&& 858993459 : Nat) : Int) := iand_nat (b := 858993459) (by rw [Nat.shiftRight_eq_div_pow]; omega)
  have j4 : ((bc1 n &&& 858993459 : Nat) : Int) + ((bc1 n >>> 2 &&& 858993459 : Nat) : Int) = (bc2 (bc1 n) : Int) := by unfold bc2 g2_; omega
  generalize bc2 (bc1 n) = y at *
  have m1 : iushr (y : Int) 4 = ((y >>> 4 : Nat) : Int) := iushr_nat (k := 4) b2 (by omega)
  have m2 : iand (ia (y : Int) ((y >>> 4 : Nat) : Int)) 252645135 = (bc3 y : Int) := by
    rw [iand, cv_ia, ofI_nat, ofI_nat, nI_add, show Int32.ofInt 252645135 = nI 252645135 from rfl, nx_and, nI_toInt (by unfold bc3 g3_ at b3; omega)]
    rfl
  generalize bc3 y = z at *
  have n1 : iushr (z : Int) 8 = ((z >>> 8 : Nat) : Int) := iushr_nat (k := 8) (by omega) (by omega)
  have n2 : z >>> 8 = z / 256 := Nat.shiftRight_eq_div_pow z 8
  have n3 : (z : Int) + ((z / 256 : Nat) : Int) = ((z + z / 256 : Nat) : Int) := by omega
  have n4 : iushr ((z + z / 256 : Nat) : Int) 16 = (((z + z / 256) >>> 16 : Nat) : Int) := iushr_nat (k := 16) (by omega) (by omega)
  have n5 : (z + z / 256) >>> 16 = (z + z / 256) / 65536 := Nat.shiftRight_eq_div_pow _ 16
  have n6 : ((z + z / 256 : Nat) : Int) + (((z + z / 256) / 65536 : Nat) : Int) = ((z + z / 256 + (z + z / 256) / 65536 : Nat) : Int) := by omega
  have n7 : iand ((z + z / 256 + (z + z / 256) / 65536 : Nat) : Int) 63 = (pc_ n : Int) := by
    have := iand_nat (a := z + z / 256 + (z + z / 256) / 65536) (b := 63) (by omega)
    rw [show ((63 : Nat) : Int) = 63 from rfl] at this
    rw [this, show (63 : Nat) = 2 ^ 6 - 1 from rfl, Nat.and_two_pow_sub_one_eq_mod, ← b4]
  refine u_iloadn (k := 0) rfl rfl ?_
  refine u_iloadn (k := 1) rfl rfl ?_
  refine a_iconst (k := 2) rfl ?_
  refine a_iushr (k := 3) rfl ?_
  rw [i1]
  refine a_ldcw (k := 4) rfl nRJ6_265 ⟨by decide, by decide⟩ ?_
  refine a_iand (k := 5) rfl ?_
  rw [i2]
  refine u_isub (k := 6) rfl (by omega) ?_
  rw [i4]
  refine a_istoren (k := 7) (lv' := [(0, _)]) rfl (Nat.le_of_ble_eq_true rfl) rfl ?_
  refine u_iloadn (k := 8) rfl rfl ?_
  refine a_ldcw (k := 9) rfl nRJ6_266 ⟨by decide, by decide⟩ ?_
  refine a_iand (k := 10) rfl ?_
  rw [j1]
  refine u_iloadn (k := 11) rfl rfl ?_
  refine a_iconst (k := 12) rfl ?_
  refine a_iushr (k := 13) rfl ?_
  rw [j2]
  refine a_ldcw (k := 14) rfl nRJ6_266 ⟨by decide, by decide⟩ ?_
  refine a_iand (k := 15) rfl ?_
  rw [j3]
  refine u_iadd (k := 16) rfl (by omega) ?_
  rw [j4]
  refine a_istoren (k := 17) (lv' := [(0, _)]) rfl (Nat.le_of_ble_eq_true rfl) rfl ?_
  refine u_iloadn (k := 18) rfl rfl ?_
  refine u_iloadn (k := 19) rfl rfl ?_
  refine a_iconst (k := 20) rfl ?_
  refine a_iushr (k := 21) rfl ?_
  rw [m1]
  refine a_iadd (k := 22) rfl ?_
  refine a_ldcw (k := 23) rfl nRJ6_267 ⟨by decide, by decide⟩ ?_
  refine a_iand (k := 24) rfl ?_
  rw [m2]
  refine a_istoren (k := 25) (lv' := [(0, _)]) rfl (Nat.le_of_ble_eq_true rfl) rfl ?_
  refine u_iloadn (k := 26) rfl rfl ?_
  refine u_iloadn (k := 27) rfl rfl ?_
  refine a_bipush (k := 28) rfl ?_
  refine a_iushr (k := 29) rfl ?_
  rw [n1, n2]
  refine u_iadd (k := 30) rfl (by omega) ?_
  rw [n3]
  refine a_istoren (k := 31) (lv' := [(0, _)]) rfl (Nat.le_of_ble_eq_true rfl) rfl ?_
  refine u_iloadn (k := 32) rfl rfl ?_
  refine u_iloadn (k := 33) rfl rfl ?_
  refine a_bipush (k := 34) rfl ?_
  refine a_iushr (k := 35) rfl ?_
  rw [n4, n5]
  refine u_iadd (k := 36) rfl (by omega) ?_
  rw [n6]
  refine a_istoren (k := 37) (lv' := [(0, _)]) rfl (Nat.le_of_ble_eq_true rfl) rfl ?_
  refine u_iloadn (k := 38) rfl rfl ?_
  refine a_bipush (k := 39) rfl ?_
  refine a_iand (k := 40) rfl ?_
  rw [n7]
  refine a_ireturn (k := 41) rfl rfl ?_
  exact ⟨rfl, rfl⟩
