/-! bits of small numbers (first rows out of the kit's BITS and COUNTS) -/
def bt (x : Int32) (i : Nat) : Bool := x.toBitVec.getLsbD i
theorem b_ext {x y : Int32} (h : ∀ i, i < 32 → bt x i = bt y i) : x = y := Int32.toBitVec_inj.mp (BitVec.eq_of_getLsbD_eq (fun i hi => h i hi))
theorem b_and (x y : Int32) (i : Nat) : bt (x &&& y) i = (bt x i && bt y i) := by unfold bt; rw [Int32.toBitVec_and, BitVec.getLsbD_and]
theorem b_xor (x y : Int32) (i : Nat) : bt (x ^^^ y) i = (bt x i ^^ bt y i) := by unfold bt; rw [Int32.toBitVec_xor, BitVec.getLsbD_xor]
theorem b_m1 : ∀ i, i < 32 → bt (-1) i = true := by decide +kernel
theorem s_l : ∀ n, n < 32 → ((nI n &&& 31).toBitVec.smod 32).toNat = n := by decide +kernel
theorem nx_and (a b : Nat) : nI a &&& nI b = nI (a &&& b) := by
  apply Int32.toBitVec_inj.1
  show BitVec.ofNat 32 a &&& BitVec.ofNat 32 b = BitVec.ofNat 32 (a &&& b)
  apply BitVec.eq_of_getLsbD_eq
  intro i hi
  simp [hi]
theorem nx_xor (a b : Nat) : nI a ^^^ nI b = nI (a ^^^ b) := by
  apply Int32.toBitVec_inj.1
  show BitVec.ofNat 32 a ^^^ BitVec.ofNat 32 b = BitVec.ofNat 32 (a ^^^ b)
  apply BitVec.eq_of_getLsbD_eq
  intro i hi
  simp [hi]
theorem nx_or (a b : Nat) : nI a ||| nI b = nI (a ||| b) := by
  apply Int32.toBitVec_inj.1
  show BitVec.ofNat 32 a ||| BitVec.ofNat 32 b = BitVec.ofNat 32 (a ||| b)
  apply BitVec.eq_of_getLsbD_eq
  intro i hi
  simp [hi]
theorem ofI_nat (n : Nat) : Int32.ofInt (n : Int) = nI n := rfl
theorem iand_nat {a b : Nat} (ha : a < 2 ^ 31) : iand a b = ((a &&& b : Nat) : Int) := by
  have : a &&& b < 2 ^ 31 := Nat.lt_of_le_of_lt Nat.and_le_left ha
  rw [iand, ofI_nat, ofI_nat, nx_and, nI_toInt this]
theorem ior_nat {a b : Nat} (ha : a < 2 ^ 31) (hb : b < 2 ^ 31) : ior a b = ((a ||| b : Nat) : Int) := by
  rw [ior, ofI_nat, ofI_nat, nx_or, nI_toInt (Nat.or_lt_two_pow ha hb)]
theorem ixor_nat {a b : Nat} (ha : a < 2 ^ 31) (hb : b < 2 ^ 31) : ixor a b = ((a ^^^ b : Nat) : Int) := by
  rw [ixor, ofI_nat, ofI_nat, nx_xor, nI_toInt (Nat.xor_lt_two_pow ha hb)]
theorem ishr_nat {n k : Nat} (h : n < 2 ^ 31) (hk : k < 32) : ishr n k = ((n >>> k : Nat) : Int) := by
  have h2 : n / 2 ^ k < 2 ^ 31 := Nat.lt_of_le_of_lt (Nat.div_le_self _ _) h
  rw [ishr, ofI_nat, ofI_nat, pk_shrN h _ k (s_l k hk), nI_toInt h2, Nat.shiftRight_eq_div_pow]
theorem ishl_nat {n k : Nat} (h : n * 2 ^ k < 2 ^ 31) (hk : k < 32) : ishl n k = ((n <<< k : Nat) : Int) := by
  rw [ishl, ofI_nat, ofI_nat, pk_shlN _ k (s_l k hk) (by omega), nI_toInt h, Nat.shiftLeft_eq]
theorem shl1 {k : Nat} (hk : k < 31) : ishl 1 k = ((2 ^ k : Nat) : Int) := by
  have h : 2 ^ k < 2 ^ 31 := Nat.pow_lt_pow_right (by omega) hk
  have := ishl_nat (n := 1) (k := k) (by omega) (by omega)
  rw [Nat.one_shiftLeft] at this
  exact this
/-- a without b -/
def ndiff (a b : Nat) : Nat := a ^^^ (a &&& b)
theorem ndiff_bit (a b i : Nat) : (ndiff a b).testBit i = (a.testBit i && !b.testBit i) := by
  unfold ndiff
  rw [Nat.testBit_xor, Nat.testBit_and]
  cases a.testBit i <;> cases b.testBit i <;> rfl
theorem ndiff_le (a b : Nat) : ndiff a b ≤ a := by
  apply Nat.le_of_testBit
  intro i hi
  rw [ndiff_bit] at hi
  simp only [Bool.and_eq_true] at hi
  exact hi.1
theorem iandn_nat {a b : Nat} (ha : a < 2 ^ 31) (hb : b < 2 ^ 31) : iand a (ixor b (-1)) = ((ndiff a b : Nat) : Int) := by
  have h1 : ndiff a b < 2 ^ 31 := Nat.lt_of_le_of_lt (ndiff_le a b) ha
  rw [iand, cv_ixor, ofI_nat, ofI_nat, show Int32.ofInt (-1) = -1 from rfl]
  have : nI a &&& (nI b ^^^ -1) = nI (ndiff a b) := by
    rw [ndiff, ← nx_xor, ← nx_and]
    apply b_ext
    intro i hi
    rw [b_and, b_xor, b_xor, b_and, b_m1 i hi]
    cases bt (nI a) i <;> cases bt (nI b) i <;> rfl
  rw [this, nI_toInt h1]
theorem bit_i (S m : Nat) : (S >>> m) &&& 1 = if S.testBit m then 1 else 0 := by
  rw [Nat.and_one_is_mod, Nat.shiftRight_eq_div_pow, Nat.testBit_eq_decide_div_mod_eq]
  have : S / 2 ^ m % 2 < 2 := Nat.mod_lt _ (by omega)
  split <;> simp_all
/-- is m in S: as an int -/
def tbi (S m : Nat) : Int := if S.testBit m then 1 else 0
theorem tbi_01 (S m : Nat) : tbi S m = 0 ∨ tbi S m = 1 := by unfold tbi; split <;> simp
theorem sab {S m : Nat} (h : S < 2 ^ 31) (hm : m < 32) : iand (ishr S m) 1 = tbi S m := by
  rw [ishr_nat h hm]
  have h2 : S >>> m < 2 ^ 31 := by rw [Nat.shiftRight_eq_div_pow]; exact Nat.lt_of_le_of_lt (Nat.div_le_self _ _) h
  have := iand_nat (a := S >>> m) (b := 1) h2
  rw [bit_i] at this
  rw [show (1 : Int) = ((1 : Nat) : Int) from rfl, this, tbi]
  split <;> rfl
