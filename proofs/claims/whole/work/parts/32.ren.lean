/-! numbering anew: what it keeps -/
theorem fb_holes_ : ∀ (m n : Nat) (f : Nat → Nat), (∀ i, i < n → f i < m) → (∀ i j, i < j → j < n → f i ≠ f j) → n ≤ m
  | 0, n, f, h, _ => by
    rcases Nat.eq_zero_or_pos n with h0 | h0
    · omega
    · exact absurd (h 0 h0) (Nat.not_lt_zero _)
  | m + 1, n, f, h, hd => by
    rcases Nat.eq_zero_or_pos n with h0 | h0
    · omega
    · by_cases hx : ∃ i, i < n ∧ f i = m
      · obtain ⟨i, hi, hm⟩ := hx
        have := fb_holes_ m (n - 1) (fun k => if k = i then f (n - 1) else f k) (fun k hk => by
            split
            · have h1 := h (n - 1) (by omega)
              have h2 : f (n - 1) ≠ m := fun z => by
                by_cases hin : i = n - 1
                · omega
                · exact hd i (n - 1) (by omega) (by omega) (by rw [hm, z])
              omega
            · rename_i hk2
              have h1 := h k (by omega)
              have h2 : f k ≠ m := fun z => by
                rcases Nat.lt_or_gt_of_ne hk2 with q | q
                · exact hd k i q hi (by rw [hm, z])
                · exact hd i k q (by omega) (by rw [hm, z])
              omega) (fun a b hab hb => by
            split
            · split
              · omega
              · exact Ne.symm (hd b (n - 1) (by omega) (by omega))
            · split
              · exact hd a (n - 1) (by omega) (by omega)
              · exact hd a b hab (by omega))
        omega
      · have := fb_holes_ m n f (fun i hi => by
          have h1 := h i hi
          have h2 : f i ≠ m := fun z => hx ⟨i, hi, z⟩
          omega) hd
        omega
theorem num_mono {f : Nat → Nat} {x v n : Nat} (h : num f x n = some v) : ∀ m, num f x (n + m) = some v
  | 0 => h
  | m + 1 => num_old (num_mono h m)
theorem num_le {f : Nat → Nat} {x v n m : Nat} (h : num f x n = some v) (hm : n ≤ m) : num f x m = some v := by
  have := num_mono h (m - n)
  rwa [show n + (m - n) = m by omega] at this
theorem mny_mono {f : Nat → Nat} {n : Nat} : ∀ m, mny f n ≤ mny f (n + m)
  | 0 => Nat.le_refl _
  | m + 1 => by
    have := mny_mono (f := f) (n := n) m
    rw [← Nat.add_assoc]
    show _ ≤ mny f (n + m) + _
    omega
theorem num_inj {f : Nat → Nat} {x y : Nat} : ∀ {n v : Nat}, num f x n = some v → num f y n = some v → x = y
  | 0, v, h, _ => by cases h
  | n + 1, v, h1, h2 => by
    cases hx : num f x n with
    | some a =>
      rw [num_old hx] at h1
      cases h1
      cases hy : num f y n with
      | some b =>
        rw [num_old hy] at h2
        cases h2
        exact num_inj hx hy
      | none =>
        by_cases he : f n / 2 = y
        · subst he
          rw [num_new hy] at h2
          cases h2
          have := num_lt hx
          omega
        · rw [num_oth he, hy] at h2
          cases h2
    | none =>
      by_cases hex : f n / 2 = x
      · subst hex
        rw [num_new hx] at h1
        cases h1
        cases hy : num f y n with
        | some b =>
          rw [num_old hy] at h2
          cases h2
          have := num_lt hy
          omega
        | none =>
          by_cases he : f n / 2 = y
          · exact he
          · rw [num_oth he, hy] at h2
            cases h2
      · rw [num_oth hex, hx] at h1
        cases h1
theorem num_cr (f : Nat → Nat) (i : Nat) : num f (f i / 2) (i + 1) = some (cr f i) := by
  cases h : num f (f i / 2) i with
  | some v => rw [num_old h, cr_old h]
  | none => rw [num_new h, cr_new h]
theorem num_cr2 {f : Nat → Nat} {i n : Nat} (h : i < n) : num f (f i / 2) n = some (cr f i) := num_le (num_cr f i) h
theorem cr_inj {f : Nat → Nat} {i j : Nat} (h : cr f i = cr f j) : f i / 2 = f j / 2 := by
  have h1 := num_cr2 (f := f) (show i < i + j + 1 by omega)
  have h2 := num_cr2 (f := f) (show j < i + j + 1 by omega)
  rw [h] at h1
  exact num_inj h1 h2
theorem cr_eq {f : Nat → Nat} {i j : Nat} (h : f i / 2 = f j / 2) : cr f i = cr f j := by
  have h1 := num_cr2 (f := f) (show i < i + j + 1 by omega)
  have h2 := num_cr2 (f := f) (show j < i + j + 1 by omega)
  rw [h, h2] at h1
  exact (Option.some.inj h1).symm
theorem cr_mny {f : Nat → Nat} {i n : Nat} (h : i < n) : cr f i < mny f n := num_lt (num_cr2 h)
theorem rn_inj {f : Nat → Nat} {i j : Nat} (h : rn f i = rn f j) : f i = f j := by
  unfold rn at h
  have h1 : cr f i = cr f j := by omega
  have := cr_inj h1
  omega
theorem len_mny {f : Nat → Nat} {n : Nat} (h : inj2 f n) : n ≤ 2 * mny f n := by
  refine fb_holes_ (2 * mny f n) n (rn f) (fun i hi => ?_) (fun i j hij hj he => ?_)
  · have := cr_mny (f := f) hi
    unfold rn
    omega
  · have := h i j (by omega) hj (rn_inj he)
    omega
/-- every number below many is had by a pass -/
theorem mny_has {f : Nat → Nat} : ∀ {n v : Nat}, v < mny f n → ∃ i, i < n ∧ cr f i = v
  | 0, v, h => absurd h (Nat.not_lt_zero v)
  | n + 1, v, h => by
    cases hc : num f (f n / 2) n with
    | some w =>
      rw [mny_old hc] at h
      obtain ⟨i, hi, he⟩ := mny_has h
      exact ⟨i, by omega, he⟩
    | none =>
      rw [mny_new hc] at h
      by_cases hv : v = mny f n
      · exact ⟨n, by omega, by rw [cr_new hc, hv]⟩
      · obtain ⟨i, hi, he⟩ := mny_has (show v < mny f n by omega)
        exact ⟨i, by omega, he⟩
/-- every pass has its other one -/
def prd (f : Nat → Nat) (n : Nat) : Prop := ∀ i, i < n → ∃ k, k < n ∧ f k / 2 = f i / 2 ∧ f k % 2 ≠ f i % 2
theorem mny_len {f : Nat → Nat} {n : Nat} (h : prd f n) : 2 * mny f n ≤ n := by
  have hex : ∀ v, v < 2 * mny f n → ∃ i, i < n ∧ rn f i = v := by
    intro v hv
    obtain ⟨i, hi, he⟩ := mny_has (show v / 2 < mny f n by omega)
    by_cases hp : f i % 2 = v % 2
    · exact ⟨i, hi, by unfold rn; omega⟩
    · obtain ⟨k, hk, h1, h2⟩ := h i hi
      have := cr_eq h1
      exact ⟨k, hk, by unfold rn; omega⟩
  classical
  refine fb_holes_ n (2 * mny f n) (fun v => if hv : v < 2 * mny f n then (hex v hv).choose else 0) (fun v hv => ?_) (fun a b hab hb he => ?_)
  · rw [dif_pos hv]
    exact (hex v hv).choose_spec.1
  · rw [dif_pos (by omega), dif_pos hb] at he
    have h1 := (hex a (by omega)).choose_spec.2
    have h2 := (hex b hb).choose_spec.2
    rw [he, h2] at h1
    omega
/-- a thread: c crossings, each once over, once under -/
def VT (c : Nat) (f : Nat → Nat) : Prop := (∀ i, i < 2 * c → f i < 2 * c) ∧ inj2 f (2 * c)
/-- raw: distinct passes, each with its other one -/
def RT (n : Nat) (f : Nat → Nat) : Prop := inj2 f n ∧ prd f n
theorem RT_mny {n : Nat} {f : Nat → Nat} (h : RT n f) : n = 2 * mny f n := by
  have h1 := len_mny h.1
  have h2 := mny_len h.2
  omega
theorem RT_rn {c : Nat} {f : Nat → Nat} (h : RT (2 * c) f) : VT c (rn f) := by
  have hm := RT_mny h
  refine ⟨fun i hi => ?_, fun i k hi hk he => h.1 i k hi hk (rn_inj he)⟩
  have := cr_mny (f := f) hi
  unfold rn
  omega
