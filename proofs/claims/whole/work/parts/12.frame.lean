/-! what stays: cells T and places K may change -/
def Fr (T : List (Nat × Nat)) (K : List (Nat × Nat × Nat)) (h g : HH) : Prop := ∀ t i k, (t, i) ∉ T → (t, i, k) ∉ K → g t i k = h t i k
theorem Fr.rf {T : List (Nat × Nat)} {K : List (Nat × Nat × Nat)} {h : HH} : Fr T K h h := fun _ _ _ _ _ => rfl
theorem put_ne {h : HH} {t i k : Nat} {v : Int} {t' i' k' : Nat} (hn : ¬ (t' = t ∧ i' = i ∧ k' = k)) : put h t i k v t' i' k' = h t' i' k' := if_neg hn
theorem put_eq {h : HH} {t i k : Nat} {v : Int} : put h t i k v t i k = v := if_pos ⟨rfl, rfl, rfl⟩
theorem Fr.p1 {T : List (Nat × Nat)} {K : List (Nat × Nat × Nat)} {h g : HH} {t i k : Nat} {v : Int} (hF : Fr T K h g) (hm : (t, i) ∈ T) : Fr T K h (put g t i k v) := fun t' i' k' h1 h2 => by
  rw [put_ne (fun q => h1 (by rw [q.1, q.2.1]; exact hm))]
  exact hF t' i' k' h1 h2
theorem Fr.p2 {T : List (Nat × Nat)} {K : List (Nat × Nat × Nat)} {h g : HH} {t i k : Nat} {v : Int} (hF : Fr T K h g) (hm : (t, i, k) ∈ K) : Fr T K h (put g t i k v) := fun t' i' k' h1 h2 => by
  rw [put_ne (fun q => h2 (by rw [q.1, q.2.1, q.2.2]; exact hm))]
  exact hF t' i' k' h1 h2
theorem Fr.tr {T T' : List (Nat × Nat)} {K K' : List (Nat × Nat × Nat)} {h g g' : HH} (hF : Fr T K h g) (hG : Fr T' K' g g') (hT : ∀ q ∈ T', q ∈ T) (hK : ∀ q ∈ K', q ∈ K ∨ (q.1, q.2.1) ∈ T) : Fr T K h g' := fun t i k h1 h2 => by
  rw [hG t i k (fun q => h1 (hT _ q)) (fun q => (hK _ q).elim h2 h1)]
  exact hF t i k h1 h2
theorem Fr.mono {T T' : List (Nat × Nat)} {K K' : List (Nat × Nat × Nat)} {h g : HH} (hG : Fr T' K' h g) (hT : ∀ q ∈ T', q ∈ T) (hK : ∀ q ∈ K', q ∈ K ∨ (q.1, q.2.1) ∈ T) : Fr T K h g := Fr.rf.tr hG hT hK
/-! numbers for names, as they come -/
/-- is pass n the first of its crossing -/
def nw (f : Nat → Nat) (n : Nat) : Bool := (List.range n).all fun r => f r / 2 != f n / 2
def mny (f : Nat → Nat) : Nat → Nat
  | 0 => 0
  | n + 1 => mny f n + (if nw f n then 1 else 0)
/-- the number that crossing x has, n passes along -/
def num (f : Nat → Nat) (x : Nat) : Nat → Option Nat
  | 0 => none
  | n + 1 => match num f x n with
    | some v => some v
    | none => if f n / 2 = x then some (mny f n) else none
def cr (f : Nat → Nat) (q : Nat) : Nat := (num f (f q / 2) (q + 1)).getD 0
def rn (f : Nat → Nat) (q : Nat) : Nat := 2 * cr f q + f q % 2
/-- the salted ones, numbered anew -/
def rsl (f : Nat → Nat) (s : Nat) : Nat → Nat
  | 0 => 0
  | n + 1 => rsl f s n ||| (if s.testBit (f n / 2) then 2 ^ cr f n else 0)
theorem nw_iff (f : Nat → Nat) (n : Nat) : nw f n = true ↔ ∀ r, r < n → f r / 2 ≠ f n / 2 := by
  unfold nw
  rw [List.all_eq_true]
  constructor
  · intro h r hr
    have := h r (List.mem_range.mpr hr)
    simpa using this
  · intro h r hr
    have := h r (List.mem_range.mp hr)
    simpa using this
theorem num_none {f : Nat → Nat} {x : Nat} : ∀ {n : Nat}, num f x n = none ↔ ∀ r, r < n → f r / 2 ≠ x
  | 0 => ⟨fun _ r hr => absurd hr (Nat.not_lt_zero r), fun _ => rfl⟩
  | n + 1 => by
    unfold num
    cases hc : num f x n with
    | some v =>
      simp only [reduceCtorEq, false_iff]
      intro h
      have : num f x n = none := num_none.mpr (fun r hr => h r (by omega))
      rw [hc] at this
      cases this
    | none =>
      have h0 := (num_none (f := f) (x := x) (n := n)).mp hc
      dsimp only
      split
      · rename_i he
        simp only [reduceCtorEq, false_iff]
        intro h
        exact h n (by omega) he
      · rename_i he
        simp only [true_iff]
        intro r hr
        rcases Nat.lt_or_ge r n with h | h
        · exact h0 r h
        · have : r = n := by omega
          subst this
          exact he
theorem nw_num (f : Nat → Nat) (n : Nat) : nw f n = true ↔ num f (f n / 2) n = none := by rw [nw_iff, num_none]
theorem num_old {f : Nat → Nat} {x n v : Nat} (h : num f x n = some v) : num f x (n + 1) = some v := by simp [num, h]
theorem num_new {f : Nat → Nat} {n : Nat} (h : num f (f n / 2) n = none) : num f (f n / 2) (n + 1) = some (mny f n) := by simp [num, h]
theorem num_oth {f : Nat → Nat} {x n : Nat} (hx : f n / 2 ≠ x) : num f x (n + 1) = num f x n := by
  unfold num
  cases hc : num f x n with
  | some v => simp [← hc]; cases n <;> simp_all [num]
  | none => simp [hx]; cases n <;> simp_all [num]
theorem mny_le (f : Nat → Nat) : ∀ n, mny f n ≤ n
  | 0 => Nat.le_refl 0
  | n + 1 => by
    have := mny_le f n
    unfold mny
    split <;> omega
theorem cr_old {f : Nat → Nat} {n v : Nat} (h : num f (f n / 2) n = some v) : cr f n = v := by simp [cr, num_old h]
theorem cr_new {f : Nat → Nat} {n : Nat} (h : num f (f n / 2) n = none) : cr f n = mny f n := by simp [cr, num_new h]
theorem mny_old {f : Nat → Nat} {n v : Nat} (h : num f (f n / 2) n = some v) : mny f (n + 1) = mny f n := by
  have : nw f n = false := by
    cases hn : nw f n with
    | false => rfl
    | true => rw [(nw_num f n).mp hn] at h; cases h
  simp [mny, this]
theorem mny_new {f : Nat → Nat} {n : Nat} (h : num f (f n / 2) n = none) : mny f (n + 1) = mny f n + 1 := by
  simp [mny, (nw_num f n).mpr h]
theorem num_lt {f : Nat → Nat} {x : Nat} : ∀ {n v : Nat}, num f x n = some v → v < mny f n
  | 0, v, h => by cases h
  | n + 1, v, h => by
    cases hc : num f x n with
    | some w =>
      rw [num_old hc] at h
      cases h
      have := num_lt hc
      unfold mny
      omega
    | none =>
      by_cases he : f n / 2 = x
      · subst he
        rw [num_new hc] at h
        cases h
        rw [mny_new hc]
        omega
      · rw [num_oth he, hc] at h
        cases h
