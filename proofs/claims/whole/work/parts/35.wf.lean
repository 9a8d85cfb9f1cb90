/-! what keeps a rope a rope -/
/-- crossings that are told apart alike get the same numbers -/
theorem nw_part {f g : Nat → Nat} {n : Nat} (h : ∀ i j, i < n + 1 → j < n + 1 → (f i / 2 = f j / 2 ↔ g i / 2 = g j / 2)) : nw f n = nw g n := by
  have : nw f n = true ↔ nw g n = true := by
    rw [nw_iff, nw_iff]
    exact ⟨fun q r hr he => q r hr ((h r n (by omega) (by omega)).mpr he), fun q r hr he => q r hr ((h r n (by omega) (by omega)).mp he)⟩
  cases h1 : nw f n <;> cases h2 : nw g n <;> simp_all
theorem mny_part {f g : Nat → Nat} : ∀ {n : Nat}, (∀ i j, i < n → j < n → (f i / 2 = f j / 2 ↔ g i / 2 = g j / 2)) → mny f n = mny g n
  | 0, _ => rfl
  | n + 1, h => by
    unfold mny
    rw [mny_part (fun i j hi hj => h i j (by omega) (by omega)), nw_part h]
theorem num_part {f g : Nat → Nat} {m : Nat} (h : ∀ i j, i < m → j < m → (f i / 2 = f j / 2 ↔ g i / 2 = g j / 2)) : ∀ {n q : Nat}, n ≤ m → q < m → num f (f q / 2) n = num g (g q / 2) n
  | 0, _, _, _ => rfl
  | n + 1, q, hn, hq => by
    unfold num
    rw [num_part h (by omega) hq, mny_part (fun i j hi hj => h i j (by omega) (by omega))]
    cases num g (g q / 2) n with
    | some v => rfl
    | none =>
      dsimp only
      by_cases he : f n / 2 = f q / 2
      · rw [if_pos he, if_pos ((h n q (by omega) hq).mp he)]
      · rw [if_neg he, if_neg (fun z => he ((h n q (by omega) hq).mpr z))]
theorem cr_part {f g : Nat → Nat} {m : Nat} (h : ∀ i j, i < m → j < m → (f i / 2 = f j / 2 ↔ g i / 2 = g j / 2)) {q : Nat} (hq : q < m) : cr f q = cr g q := by
  unfold cr
  rw [num_part h (by omega) hq]
theorem rn_div (f : Nat → Nat) (i : Nat) : rn f i / 2 = cr f i := by unfold rn; omega
theorem rn_mod (f : Nat → Nat) (i : Nat) : rn f i % 2 = f i % 2 := by unfold rn; omega
theorem cr_rn (f : Nat → Nat) (i : Nat) : cr (rn f) i = cr f i := cr_part (m := i + 1) (fun a b _ _ => by rw [rn_div, rn_div]; exact ⟨cr_inj, cr_eq⟩) (by omega)
theorem rn_rn (f : Nat → Nat) (i : Nat) : rn (rn f) i = rn f i := by
  show 2 * cr (rn f) i + rn f i % 2 = rn f i
  rw [cr_rn, rn_mod]
  rfl
theorem rsl_lt2 (f : Nat → Nat) (s : Nat) : ∀ n, rsl f s n < 2 ^ mny f n
  | 0 => by unfold rsl mny; omega
  | n + 1 => by
    unfold rsl
    have h1 := rsl_lt2 f s n
    have h2 := cr_mny (f := f) (Nat.lt_succ_self n)
    have h3 := mny_mono (f := f) (n := n) 1
    apply Nat.or_lt_two_pow (Nat.lt_of_lt_of_le h1 (Nat.pow_le_pow_right (by omega) h3))
    split
    · exact Nat.pow_lt_pow_right (by omega) h2
    · exact Nat.pow_pos (by omega)
theorem RT_WR {c s : Nat} {F : Nat → Nat} (h : RT (2 * c) F) (h8 : c ≤ 8) : WR (c, rsl F s (2 * c), rn F) := by
  have hm := RT_mny h
  refine ⟨h8, ?_, RT_rn h, fun i _ => rn_rn F i⟩
  have := rsl_lt2 F s (2 * c)
  rw [show mny F (2 * c) = c by omega] at this
  exact this
theorem VT_sur {c : Nat} {f : Nat → Nat} (h : VT c f) {v : Nat} (hv : v < 2 * c) : ∃ i, i < 2 * c ∧ f i = v := by
  refine Classical.byContradiction (fun hno => ?_)
  have hno : ∀ i, i < 2 * c → f i ≠ v := fun i hi he => hno ⟨i, hi, he⟩
  have := fb_holes_ (2 * c - 1) (2 * c) (fun i => if v < f i then f i - 1 else f i) (fun i hi => by
    have h1 := h.1 i hi
    have h2 := hno i hi
    split <;> omega) (fun i j hij hj he => by
    have h1 := hno i (by omega)
    have h2 := hno j hj
    have h3 : f i ≠ f j := fun z => by have := h.2 i j (by omega) hj z; omega
    split at he <;> split at he <;> omega)
  omega
theorem VT_RT {c : Nat} {f : Nat → Nat} (h : VT c f) : RT (2 * c) f := by
  refine ⟨h.2, fun i hi => ?_⟩
  have h1 := h.1 i hi
  obtain ⟨k, hk, he⟩ := VT_sur h (v := if f i % 2 = 0 then f i + 1 else f i - 1) (by split <;> omega)
  refine ⟨k, hk, ?_, ?_⟩ <;> rw [he] <;> split <;> omega
theorem VT_insf {c a o : Nat} {f : Nat → Nat} (h : VT c f) (ha : a ≤ 2 * c) (ho : o < 2) : VT (c + 1) (insf f c a o) := by
  refine ⟨fun i hi => ?_, fun i k hi hk he => ?_⟩
  · unfold insf
    split
    · have := h.1 i (by omega); omega
    · split
      · omega
      · split
        · omega
        · have := h.1 (i - 2) (by omega); omega
  · have hv : ∀ q, q < 2 * (c + 1) → (q < a ∧ insf f c a o q = f q ∧ f q < 2 * c) ∨ (q = a ∧ insf f c a o q = 2 * c + o) ∨ (q = a + 1 ∧ insf f c a o q = 2 * c + (1 - o)) ∨ (a + 1 < q ∧ insf f c a o q = f (q - 2) ∧ f (q - 2) < 2 * c) := by
      intro q hq
      unfold insf
      by_cases h1 : q < a
      · exact Or.inl ⟨h1, if_pos h1, h.1 q (by omega)⟩
      · rw [if_neg h1]
        by_cases h2 : q = a
        · exact Or.inr (Or.inl ⟨h2, if_pos h2⟩)
        · rw [if_neg h2]
          by_cases h3 : q = a + 1
          · exact Or.inr (Or.inr (Or.inl ⟨h3, if_pos h3⟩))
          · rw [if_neg h3]
            exact Or.inr (Or.inr (Or.inr ⟨by omega, rfl, h.1 (q - 2) (by omega)⟩))
    rcases hv i hi with ⟨a1, a2, a3⟩ | ⟨a1, a2⟩ | ⟨a1, a2⟩ | ⟨a1, a2, a3⟩ <;> rcases hv k hk with ⟨b1, b2, b3⟩ | ⟨b1, b2⟩ | ⟨b1, b2⟩ | ⟨b1, b2, b3⟩ <;> rw [a2, b2] at he <;> first
      | omega
      | (have := h.2 _ _ (by omega) (by omega) he; omega)
theorem VT_rvf {c : Nat} {f : Nat → Nat} (h : VT c f) : VT c (rvf f (2 * c)) := ⟨fun i hi => h.1 _ (by omega), fun i k hi hk he => by
  have := h.2 _ _ (by omega) (by omega) he
  omega⟩
theorem VT_rlf {c : Nat} {f : Nat → Nat} (h : VT c f) : VT c (rlf f (2 * c)) := by
  have hv : ∀ i, i < 2 * c → ∃ q, q < 2 * c ∧ rlf f (2 * c) i = f q ∧ ((i + 1 < 2 * c ∧ q = i + 1) ∨ (i + 1 = 2 * c ∧ q = 0)) := fun i hi => by
    unfold rlf
    by_cases h1 : i + 1 < 2 * c
    · exact ⟨i + 1, h1, if_pos h1, Or.inl ⟨h1, rfl⟩⟩
    · exact ⟨0, by omega, if_neg h1, Or.inr ⟨by omega, rfl⟩⟩
  refine ⟨fun i hi => ?_, fun i k hi hk he => ?_⟩
  · obtain ⟨q, a, b, _⟩ := hv i hi
    rw [b]
    exact h.1 q a
  · obtain ⟨q, a, b, d⟩ := hv i hi
    obtain ⟨q', a', b', d'⟩ := hv k hk
    rw [b, b'] at he
    have := h.2 _ _ a a' he
    omega
theorem swf_div (f : Nat → Nat) (S q : Nat) : swf f S q / 2 = f q / 2 := by
  unfold swf
  split
  · have := Nat.xor_div_two (a := f q) (b := 1)
    rw [this]
    simp
  · simp
theorem swf_mod (f : Nat → Nat) (S q : Nat) : swf f S q % 2 = if S.testBit (f q / 2) then 1 - f q % 2 else f q % 2 := by
  unfold swf
  split
  · have h1 := Nat.testBit_xor (x := f q) (y := 1) (i := 0)
    simp only [Nat.testBit_zero] at h1
    have h2 : f q % 2 = 0 ∨ f q % 2 = 1 := by omega
    have h3 : (f q ^^^ 1) % 2 = 0 ∨ (f q ^^^ 1) % 2 = 1 := by omega
    rcases h2 with h2 | h2 <;> rcases h3 with h3 | h3 <;> simp [h2, h3] at h1 ⊢
  · simp
theorem WR_swf {r : Rp} {S : Nat} (h : WR r) : WR (r.1, r.2.1, swf r.2.2 S) := by
  obtain ⟨h8, hs, hV, hc⟩ := h
  refine ⟨h8, hs, ⟨fun i hi => ?_, fun i k hi hk he => ?_⟩, fun i hi => ?_⟩
  · have h1 := swf_div r.2.2 S i
    have h2 := hV.1 i hi
    dsimp only
    omega
  · dsimp only at he hi hk
    have h1 := swf_div r.2.2 S i
    have h2 := swf_div r.2.2 S k
    have h3 := swf_mod r.2.2 S i
    have h4 := swf_mod r.2.2 S k
    rw [he] at h1 h3
    have e1 : r.2.2 i / 2 = r.2.2 k / 2 := by omega
    rw [e1] at h3
    refine hV.2 i k hi hk ?_
    split at h3 <;> simp_all <;> omega
  · dsimp only at hi ⊢
    have h1 := hc i hi
    show 2 * cr (swf r.2.2 S) i + swf r.2.2 S i % 2 = swf r.2.2 S i
    rw [cr_part (g := r.2.2) (m := i + 1) (fun a b _ _ => by rw [swf_div, swf_div]) (by omega)]
    have h2 := swf_div r.2.2 S i
    have h3 : 2 * cr r.2.2 i + r.2.2 i % 2 = r.2.2 i := h1
    omega
/-- lists -/
theorem fn_lt {l : List Nat} {q : Nat} (h : q < l.length) : fn l q = l[q] := by
  unfold fn
  rw [List.getD_eq_getElem?_getD, List.getElem?_eq_getElem h]
  rfl
theorem RT_list {l : List Nat} (hn : l.Nodup) (hp : ∀ x ∈ l, ∃ y ∈ l, y / 2 = x / 2 ∧ y % 2 ≠ x % 2) : RT l.length (fn l) := by
  refine ⟨fun i k hi hk he => ?_, fun i hi => ?_⟩
  · rw [fn_lt hi, fn_lt hk] at he
    exact (List.getElem_inj hn).mp he
  · obtain ⟨y, hy, h1, h2⟩ := hp _ (List.getElem_mem hi)
    obtain ⟨k, hk, he⟩ := List.getElem_of_mem hy
    exact ⟨k, hk, by rw [fn_lt hi, fn_lt hk, he]; exact h1, by rw [fn_lt hi, fn_lt hk, he]; exact h2⟩
theorem kp_filter (f : Nat → Nat) (S : Nat) : ∀ n, kp f S n = ((List.range n).map f).filter (fun x => !S.testBit (x / 2))
  | 0 => rfl
  | n + 1 => by
    unfold kp
    rw [List.range_succ, List.map_append, List.filter_append, ← kp_filter f S n]
    by_cases h : S.testBit (f n / 2) <;> simp [h]
theorem nodup_map {f : Nat → Nat} {n : Nat} (h : inj2 f n) : ((List.range n).map f).Nodup := by
  rw [List.Nodup, List.pairwise_map]
  refine List.Pairwise.imp_of_mem ?_ (List.nodup_range (n := n))
  intro a b ha hb hne he
  exact hne (h a b (List.mem_range.mp ha) (List.mem_range.mp hb) he)
theorem RT_kp {f : Nat → Nat} {S n : Nat} (h : RT n f) : RT (kp f S n).length (fn (kp f S n)) := by
  rw [kp_filter]
  refine RT_list ((nodup_map h.1).filter _) (fun x hx => ?_)
  rw [List.mem_filter, List.mem_map] at hx
  obtain ⟨⟨i, hi, rfl⟩, hx⟩ := hx
  obtain ⟨k, hk, h1, h2⟩ := h.2 i (List.mem_range.mp hi)
  refine ⟨f k, ?_, h1, h2⟩
  rw [List.mem_filter, List.mem_map, h1]
  exact ⟨⟨k, List.mem_range.mpr hk, rfl⟩, hx⟩
/-! what is done to a rope -/
def r_take (r : Rp) (S : Nat) : Rp := ((kp r.2.2 S (2 * r.1)).length / 2, rsl (fn (kp r.2.2 S (2 * r.1))) r.2.1 (2 * ((kp r.2.2 S (2 * r.1)).length / 2)), rn (fn (kp r.2.2 S (2 * r.1))))
def r_curl (r : Rp) (a o : Nat) : Rp := (r.1 + 1, rsl (insf r.2.2 r.1 a o) r.2.1 (2 * (r.1 + 1)), rn (insf r.2.2 r.1 a o))
def r_sw (r : Rp) (S : Nat) : Rp := (r.1, r.2.1, swf r.2.2 S)
def r_rev (r : Rp) : Rp := (r.1, rsl (rvf r.2.2 (2 * r.1)) r.2.1 (2 * r.1), rn (rvf r.2.2 (2 * r.1)))
def r_roll (r : Rp) : Rp := (r.1, rsl (rlf r.2.2 (2 * r.1)) r.2.1 (2 * r.1), rn (rlf r.2.2 (2 * r.1)))
def r_app (r q : Rp) : Rp := (r.1 + q.1, r.2.1 ||| q.2.1 <<< r.1, apf r.2.2 q.2.2 r.1)
def r_plain : Rp := (0, 0, fun _ => 0)
theorem WR_take {r : Rp} {S : Nat} (h : WR r) : WR (r_take r S) := by
  have h1 := RT_kp (S := S) (VT_RT h.2.2.1)
  have h2 := RT_mny h1
  have h3 := kp_len r.2.2 S (2 * r.1)
  have h8 := h.1
  refine RT_WR ?_ (by omega)
  rw [show 2 * ((kp r.2.2 S (2 * r.1)).length / 2) = (kp r.2.2 S (2 * r.1)).length by omega]
  exact h1
theorem WR_curl {r : Rp} {a o : Nat} (h : WR r) (h8 : r.1 < 8) (ha : a ≤ 2 * r.1) (ho : o < 2) : WR (r_curl r a o) := RT_WR (VT_RT (VT_insf h.2.2.1 ha ho)) (by omega)
theorem WR_sw {r : Rp} {S : Nat} (h : WR r) : WR (r_sw r S) := WR_swf h
theorem WR_rev {r : Rp} (h : WR r) : WR (r_rev r) := RT_WR (VT_RT (VT_rvf h.2.2.1)) h.1
theorem WR_roll {r : Rp} (h : WR r) : WR (r_roll r) := RT_WR (VT_RT (VT_rlf h.2.2.1)) h.1
theorem WR_plain : WR r_plain := ⟨by decide, by decide, ⟨fun i hi => by simp [r_plain] at hi, fun i k hi => by simp [r_plain] at hi⟩, fun i hi => by simp [r_plain] at hi⟩
theorem cr_le_of {f : Nat → Nat} {n : Nat} (h : ∀ i, i < n → (∃ r, r < i ∧ f r / 2 = f i / 2) ∨ f i / 2 = mny f i) : ∀ i, i < n → cr f i = f i / 2 := by
  intro i
  induction i using Nat.strongRecOn with
  | ind i ih =>
    intro hi
    cases hc : num f (f i / 2) i with
    | none =>
      rw [cr_new hc]
      rcases h i hi with ⟨r, hr, he⟩ | he
      · rw [num_none] at hc
        exact absurd he (hc r hr)
      · exact he.symm
    | some v =>
      have : ∃ r, r < i ∧ f r / 2 = f i / 2 := by
        refine Classical.byContradiction (fun hno => ?_)
        have : num f (f i / 2) i = none := num_none.mpr (fun r hr he => hno ⟨r, hr, he⟩)
        rw [hc] at this
        cases this
      obtain ⟨r, hr, he⟩ := this
      rw [← cr_eq he, ih r hr (by omega), he]
theorem apf_lo {f f2 : Nat → Nat} {c q : Nat} (h : q < 2 * c) : apf f f2 c q = f q := if_pos h
theorem apf_hi {f f2 : Nat → Nat} {c q : Nat} : apf f f2 c (2 * c + q) = f2 q + 2 * c := by unfold apf; rw [if_neg (by omega), Nat.add_sub_cancel_left]
theorem WR_app {r q : Rp} (h : WR r) (h2 : WR q) (h8 : r.1 + q.1 ≤ 8) : WR (r_app r q) := by
  obtain ⟨a8, as, aV, ac⟩ := h
  obtain ⟨b8, bs, bV, bc⟩ := h2
  have hlo : ∀ i, i < 2 * r.1 → apf r.2.2 q.2.2 r.1 i = r.2.2 i := fun i hi => apf_lo hi
  have hsp : ∀ i, i < 2 * (r.1 + q.1) → i < 2 * r.1 ∨ ∃ z, z < 2 * q.1 ∧ i = 2 * r.1 + z := fun i hi => by
    by_cases h : i < 2 * r.1
    · exact Or.inl h
    · exact Or.inr ⟨i - 2 * r.1, by omega, by omega⟩
  refine ⟨h8, ?_, ⟨fun i hi => ?_, fun i k hi hk he => ?_⟩, ?_⟩
  · show r.2.1 ||| q.2.1 <<< r.1 < 2 ^ (r.1 + q.1)
    refine Nat.or_lt_two_pow (Nat.lt_of_lt_of_le as (Nat.pow_le_pow_right (by omega) (by omega))) ?_
    rw [Nat.shiftLeft_eq, Nat.add_comm, Nat.pow_add]
    exact Nat.mul_lt_mul_of_pos_right bs (Nat.pow_pos (by omega))
  · show apf r.2.2 q.2.2 r.1 i < 2 * (r.1 + q.1)
    rcases hsp i hi with h | ⟨z, hz, rfl⟩
    · rw [hlo i h]; have := aV.1 i h; omega
    · rw [apf_hi]; have := bV.1 z hz; omega
  · have he : apf r.2.2 q.2.2 r.1 i = apf r.2.2 q.2.2 r.1 k := he
    rcases hsp i hi with h | ⟨z, hz, rfl⟩ <;> rcases hsp k hk with h' | ⟨z', hz', rfl⟩
    · rw [hlo i h, hlo k h'] at he; exact aV.2 i k h h' he
    · rw [hlo i h, apf_hi] at he; have := aV.1 i h; omega
    · rw [hlo k h', apf_hi] at he; have := aV.1 k h'; omega
    · rw [apf_hi, apf_hi] at he; have := bV.2 z z' hz hz' (by omega); omega
  · have hml : ∀ i, i ≤ 2 * r.1 → mny (apf r.2.2 q.2.2 r.1) i = mny r.2.2 i := fun i hi => mny_cong (fun k hk => hlo k (by omega))
    have hm0 : mny r.2.2 (2 * r.1) = r.1 := by have := RT_mny (VT_RT aV); omega
    have hnw : ∀ z, z < 2 * q.1 → nw (apf r.2.2 q.2.2 r.1) (2 * r.1 + z) = nw q.2.2 z := fun z hz => by
      have : nw (apf r.2.2 q.2.2 r.1) (2 * r.1 + z) = true ↔ nw q.2.2 z = true := by
        rw [nw_iff, nw_iff]
        constructor
        · intro hh k hk he
          have := hh (2 * r.1 + k) (by omega)
          rw [apf_hi, apf_hi] at this
          omega
        · intro hh k hk
          rcases Nat.lt_or_ge k (2 * r.1) with h | h
          · rw [hlo k h, apf_hi]; have := aV.1 k h; omega
          · have h3 := hh (k - 2 * r.1) (by omega)
            rw [show k = 2 * r.1 + (k - 2 * r.1) by omega, apf_hi, apf_hi]
            omega
      cases h1 : nw (apf r.2.2 q.2.2 r.1) (2 * r.1 + z) <;> cases h2 : nw q.2.2 z <;> simp_all
    have hmh : ∀ z, z ≤ 2 * q.1 → mny (apf r.2.2 q.2.2 r.1) (2 * r.1 + z) = r.1 + mny q.2.2 z := by
      intro z
      induction z with
      | zero => intro _; rw [Nat.add_zero, hml _ (Nat.le_refl _), hm0]; rfl
      | succ z ih =>
        intro hz
        rw [← Nat.add_assoc]
        unfold mny
        rw [ih (by omega), hnw z (by omega)]
        omega
    have hcan : ∀ i, i < 2 * (r.1 + q.1) → cr (apf r.2.2 q.2.2 r.1) i = apf r.2.2 q.2.2 r.1 i / 2 := by
      refine cr_le_of (fun i hi => ?_)
      have hwas : ∀ (w : Rp), (∀ i, i < 2 * w.1 → rn w.2.2 i = w.2.2 i) → ∀ i, i < 2 * w.1 → (∃ r, r < i ∧ w.2.2 r / 2 = w.2.2 i / 2) ∨ w.2.2 i / 2 = mny w.2.2 i := fun w hw i hi => by
        have h1 := hw i hi
        have h2 := rn_div w.2.2 i
        rw [h1] at h2
        cases hc : num w.2.2 (w.2.2 i / 2) i with
        | none => exact Or.inr (by rw [h2, cr_new hc])
        | some v =>
          refine Or.inl (Classical.byContradiction (fun hno => ?_))
          have : num w.2.2 (w.2.2 i / 2) i = none := num_none.mpr (fun r hr he => hno ⟨r, hr, he⟩)
          rw [hc] at this
          cases this
      rcases hsp i hi with h | ⟨z, hz, rfl⟩
      · rw [hlo i h, hml i (by omega)]
        rcases hwas r ac i h with ⟨k, hk, he⟩ | he
        · exact Or.inl ⟨k, hk, by rw [hlo k (by omega)]; exact he⟩
        · exact Or.inr he
      · rw [apf_hi, hmh z (by omega)]
        rcases hwas q bc z hz with ⟨k, hk, he⟩ | he
        · exact Or.inl ⟨2 * r.1 + k, by omega, by rw [apf_hi]; omega⟩
        · exact Or.inr (by omega)
    intro i hi
    have hi : i < 2 * (r.1 + q.1) := hi
    show 2 * cr (apf r.2.2 q.2.2 r.1) i + apf r.2.2 q.2.2 r.1 i % 2 = apf r.2.2 q.2.2 r.1 i
    rw [hcan i hi]
    omega
