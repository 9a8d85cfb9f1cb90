/-! what the letters leave -/
def PK (p : PS) : Prop := p.1 ≤ 5 ∧ p.2.2.2.1 ≤ 99 ∧ p.2.2.2.2.1.1 ≤ 5 ∧ (∀ k, k < p.2.2.2.2.1.1 → RT (p.2.2.2.2.1.2 k).1 (p.2.2.2.2.1.2 k).2 ∧ mny (p.2.2.2.2.1.2 k).2 (p.2.2.2.2.1.2 k).1 ≤ 8 ∧ ∀ i, i < (p.2.2.2.2.1.2 k).1 → (p.2.2.2.2.1.2 k).2 i < 52) ∧ (p.1 = 5 → inj2 p.2.2.2.2.2.2 p.2.2.2.2.2.1 ∧ mny p.2.2.2.2.2.2 p.2.2.2.2.2.1 ≤ 8 ∧ (∀ i, i < p.2.2.2.2.2.1 → p.2.2.2.2.2.2 i < 52) ∧ p.2.2.2.2.1.1 < 5)
theorem un_same {F : Nat → Nat} {n v : Nat} : ∀ i, i < n → un F n v i = F i := fun i hi => un_ne F v (by omega)
theorem inj_un {F : Nat → Nat} {n v : Nat} (h : inj2 F n) (hv : isn F n v = false) : inj2 (un F n v) (n + 1) := by
  have hno : ∀ i, i < n → F i ≠ v := fun i hi he => by
    have := isn_iff.mpr ⟨i, hi, he⟩
    rw [hv] at this
    cases this
  intro i k hi hk he
  by_cases h1 : i = n
  · by_cases h2 : k = n
    · omega
    · rw [h1, un_eq, un_ne F v h2] at he
      exact absurd he.symm (hno k (by omega))
  · by_cases h2 : k = n
    · rw [h2, un_eq, un_ne F v h1] at he
      exact absurd he (hno i (by omega))
    · rw [un_ne F v h1, un_ne F v h2] at he
      exact h i k (by omega) (by omega) he
theorem mny_un_new {F : Nat → Nat} {n v : Nat} (h : num F (v / 2) n = none) : mny (un F n v) (n + 1) = mny F n + 1 := by
  rw [mny_new (by rw [un_eq, num_cong (v / 2) un_same]; exact h), mny_cong un_same]
theorem mny_un_old {F : Nat → Nat} {n v w : Nat} (h : num F (v / 2) n = some w) : mny (un F n v) (n + 1) = mny F n := by
  rw [mny_old (v := w) (by rw [un_eq, num_cong (v / 2) un_same]; exact h), mny_cong un_same]
theorem PK_pass {p p' : PS} {x o : Nat} (h : PK p) (h5 : p.1 = 5) (hx : x < 26) (ho : o ≤ 1) (hr : rpass p x o = .inl p') : PK p' := by
  obtain ⟨pl, fg, ff, gr, ⟨K, T⟩, n, F⟩ := p
  obtain ⟨k1, k2, k3, k4, k5⟩ := h
  obtain ⟨j1, j2, j3, j4⟩ := k5 h5
  dsimp only at k1 k2 k3 k4 j1 j2 j3 j4
  unfold rpass at hr
  dsimp only at hr
  split at hr
  · cases hr
  · rename_i hno
    split at hr
    · cases hr
    · rename_i hn8
      cases hr
      have hno' : isn F n (2 * x + o) = false := by revert hno; cases isn F n (2 * x + o) <;> simp
      refine ⟨k1, k2, k3, k4, fun _ => ⟨inj_un j1 hno', ?_, fun i hi => ?_, j4⟩⟩
      · dsimp only
        cases hm : num F ((2 * x + o) / 2) n with
        | none =>
          rw [mny_un_new hm]
          rw [show (2 * x + o) / 2 = x by omega] at hm
          have : ¬ 8 ≤ mny F n := fun z => hn8 ⟨hm, z⟩
          omega
        | some w =>
          rw [mny_un_old hm]
          exact j2
      · dsimp only at hi ⊢
        by_cases he : i = n
        · rw [he, un_eq]; omega
        · rw [un_ne F _ he]; exact j3 i (by omega)
theorem PK_end {p p' : PS} (h : PK p) (h5 : p.1 = 5) (hr : rend p = .inl p') : PK p' := by
  obtain ⟨pl, fg, ff, gr, ⟨K, T⟩, n, F⟩ := p
  obtain ⟨k1, k2, k3, k4, k5⟩ := h
  obtain ⟨j1, j2, j3, j4⟩ := k5 h5
  dsimp only at k1 k2 k3 k4 j1 j2 j3 j4
  unfold rend at hr
  dsimp only at hr
  split at hr
  · rename_i hc
    cases hr
    refine ⟨by show 4 ≤ 5; omega, k2, by show K + 1 ≤ 5; omega, fun k hk => ?_, fun z => by cases z⟩
    have hk : k < K + 1 := hk
    dsimp only
    by_cases he : k = K
    · rw [he, un_eq]
      exact ⟨⟨j1, prd_of j3 hc⟩, j2, j3⟩
    · rw [un_ne T _ he]
      exact k4 k (by omega)
  · cases hr
theorem PK_rs {p p' : PS} {l q : Nat} (h : PK p) (hr : rs p l q = .inl p') : PK p' := by
  have h0 := h
  obtain ⟨pl, fg, ff, gr, ⟨K, T⟩, n, F⟩ := p
  obtain ⟨k1, k2, k3, k4, k5⟩ := h
  dsimp only at k1 k2 k3 k4
  have mk : ∀ a fg ff gr, a ≤ 4 → gr ≤ 99 → PK (a, fg, ff, gr, (K, T), (n, F)) := fun a fg ff gr ha hg => ⟨by show a ≤ 5; omega, hg, k3, k4, fun z => by have z : a = 5 := z; omega⟩
  unfold rs at hr
  dsimp only at hr
  split at hr
  · split at hr
    · cases hr; exact mk 3 _ _ _ (by omega) k2
    · cases hr; exact h0
  · split at hr
    · split at hr
      · cases hr; exact mk 1 _ _ _ (by omega) k2
      · cases hr
    · split at hr
      · split at hr
        · rename_i hd
          have := isd_iff.mp hd
          cases hr; exact mk 2 _ _ _ (by omega) (by omega)
        · cases hr
      · split at hr
        · split at hr
          · split at hr
            · cases hr
            · rename_i hb
              cases hr; exact mk 2 _ _ _ (by omega) (by omega)
          · unfold rnum at hr
            split at hr
            · cases hr; exact mk 4 _ _ _ (by omega) k2
            · cases hr
        · split at hr
          · unfold rnum at hr
            split at hr
            · cases hr; exact mk 4 _ _ _ (by omega) k2
            · cases hr
          · split at hr
            · split at hr
              · cases hr
              · split at hr
                · cases hr
                · split at hr
                  · cases hr
                  · rename_i hK
                    cases hr
                    exact ⟨by show 5 ≤ 5; omega, k2, k3, k4, fun _ => ⟨fun i k hi => absurd hi (Nat.not_lt_zero i), Nat.zero_le _, fun i hi => absurd hi (Nat.not_lt_zero i), by show K < 5; omega⟩⟩
            · rename_i n0 n1 n2 n3 n4
              have h5 : pl = 5 := by omega
              split at hr
              · exact PK_pass h0 h5 (by omega) (by omega) hr
              · split at hr
                · exact PK_pass h0 h5 (by omega) (by omega) hr
                · split at hr
                  · exact PK_end h0 h5 hr
                  · cases hr
theorem rgo_PK {tx : Nat → Nat} : ∀ {q : Nat} {p : PS}, rgo tx q = .inl p → PK p
  | 0, p, h => by
    cases h
    exact ⟨by decide, by decide, by decide, fun k hk => absurd hk (Nat.not_lt_zero k), fun z => by cases z⟩
  | q + 1, p, h => by
    unfold rgo at h
    cases hq : rgo tx q with
    | inr e => rw [hq] at h; cases h
    | inl p0 =>
      rw [hq] at h
      dsimp only at h
      cases hr : rs p0 (tx q) q with
      | inr e => rw [hr] at h; cases h
      | inl p1 =>
        rw [hr] at h
        cases h
        exact PK_rs (rgo_PK hq) hr
/-! names -/
def nmv (F : Nat → Nat) (n x : Nat) : Nat := (if isn F n (2 * x) then 1 else 0) + (if isn F n (2 * x + 1) then 2 else 0)
theorem nmv_4 (F : Nat → Nat) (n x : Nat) : nmv F n x < 4 := by
  unfold nmv
  split <;> split <;> omega
theorem nmv_0 {F : Nat → Nat} {n x : Nat} : nmv F n x = 0 ↔ num F x n = none := by
  rw [num_none]
  unfold nmv
  constructor
  · intro h r hr he
    have h1 : isn F n (2 * x) = true ∨ isn F n (2 * x + 1) = true := by
      have : F r = 2 * x ∨ F r = 2 * x + 1 := by omega
      rcases this with e | e
      · exact Or.inl (isn_iff.mpr ⟨r, hr, e⟩)
      · exact Or.inr (isn_iff.mpr ⟨r, hr, e⟩)
    rcases h1 with e | e <;> rw [e] at h <;> simp at h
  · intro h
    have h1 : isn F n (2 * x) = false := by
      cases hh : isn F n (2 * x) with
      | false => rfl
      | true => obtain ⟨i, hi, he⟩ := isn_iff.mp hh; exact absurd (show F i / 2 = x by omega) (h i hi)
    have h2 : isn F n (2 * x + 1) = false := by
      cases hh : isn F n (2 * x + 1) with
      | false => rfl
      | true => obtain ⟨i, hi, he⟩ := isn_iff.mp hh; exact absurd (show F i / 2 = x by omega) (h i hi)
    rw [h1, h2]
    rfl
theorem nmv_and {F : Nat → Nat} {n x o : Nat} (ho : o ≤ 1) : nmv F n x &&& (o + 1) = 0 ↔ isn F n (2 * x + o) = false := by
  unfold nmv
  have : o = 0 ∨ o = 1 := by omega
  rcases this with rfl | rfl
  · rw [Nat.add_zero]
    cases isn F n (2 * x) <;> cases isn F n (2 * x + 1) <;> decide
  · cases isn F n (2 * x) <;> cases isn F n (2 * x + 1) <;> decide
theorem nmv_same {F : Nat → Nat} {n x y o : Nat} (ho : o ≤ 1) (h : y ≠ x) : nmv (un F n (2 * x + o)) (n + 1) y = nmv F n y := by
  unfold nmv
  rw [isn_un, isn_un, decide_eq_false (show ¬ 2 * y = 2 * x + o by omega), decide_eq_false (show ¬ 2 * y + 1 = 2 * x + o by omega), Bool.or_false, Bool.or_false]
theorem nmv_or {F : Nat → Nat} {n x o : Nat} (ho : o ≤ 1) : nmv (un F n (2 * x + o)) (n + 1) x = nmv F n x ||| (o + 1) := by
  unfold nmv
  rw [isn_un, isn_un]
  have : o = 0 ∨ o = 1 := by omega
  rcases this with rfl | rfl
  · rw [decide_eq_true (show 2 * x = 2 * x + 0 by omega), decide_eq_false (show ¬ 2 * x + 1 = 2 * x + 0 by omega)]
    cases isn F n (2 * x) <;> cases isn F n (2 * x + 1) <;> decide
  · rw [decide_eq_false (show ¬ 2 * x = 2 * x + 1 by omega), decide_eq_true (show 2 * x + 1 = 2 * x + 1 by omega)]
    cases isn F n (2 * x) <;> cases isn F n (2 * x + 1) <;> decide
def opg (F : Nat → Nat) (n x : Nat) : Nat := if isn F n (2 * x) = isn F n (2 * x + 1) then 0 else 1
def opn (F : Nat → Nat) (n : Nat) : Nat := sumT 26 (opg F n)
theorem sumT_eq0 {F : Nat → Nat} : ∀ {n : Nat}, sumT n F = 0 ↔ ∀ i, i < n → F i = 0
  | 0 => ⟨fun _ i hi => absurd hi (Nat.not_lt_zero i), fun _ => rfl⟩
  | n + 1 => by
    rw [sumT_s]
    constructor
    · intro h i hi
      by_cases he : i = n
      · rw [he]; omega
      · exact (sumT_eq0 (n := n)).mp (by omega) i (by omega)
    · intro h
      have := (sumT_eq0 (n := n)).mpr (fun i hi => h i (by omega))
      have := h n (by omega)
      omega
theorem sumT_upd {F G : Nat → Nat} {x : Nat} : ∀ {n : Nat}, x < n → (∀ i, i < n → i ≠ x → G i = F i) → sumT n G + F x = sumT n F + G x
  | 0, h, _ => absurd h (Nat.not_lt_zero x)
  | n + 1, h, he => by
    rw [sumT_s, sumT_s]
    by_cases hx : x = n
    · subst hx
      rw [sumT_cg (G := F) (fun i hi => he i (by omega) (by omega))]
      omega
    · have := sumT_upd (n := n) (by omega) (fun i hi => he i (by omega))
      rw [he n (by omega) (by omega)]
      omega
theorem opn_clos {F : Nat → Nat} {n : Nat} : opn F n = 0 ↔ clos F n = true := by
  unfold opn
  rw [sumT_eq0, clos_iff]
  refine forall_congr' fun x => forall_congr' fun _ => ?_
  unfold opg
  constructor
  · intro h
    split at h
    · rename_i e; exact e.symm
    · omega
  · intro h
    rw [if_pos h.symm]
theorem opn_le (F : Nat → Nat) (n : Nat) : opn F n ≤ 26 := by
  have : ∀ m, sumT m (opg F n) ≤ m := by
    intro m
    induction m with
    | zero => exact Nat.le_refl _
    | succ m ih =>
      rw [sumT_s]
      have : opg F n m ≤ 1 := by unfold opg; split <;> omega
      omega
  exact this 26
theorem opn_un {F : Nat → Nat} {n x o : Nat} (hx : x < 26) (ho : o ≤ 1) (hno : isn F n (2 * x + o) = false) : (nmv F n x = 0 → opn (un F n (2 * x + o)) (n + 1) = opn F n + 1) ∧ (nmv F n x ≠ 0 → opn (un F n (2 * x + o)) (n + 1) + 1 = opn F n) := by
  have hu : opn (un F n (2 * x + o)) (n + 1) + opg F n x = opn F n + opg (un F n (2 * x + o)) (n + 1) x := sumT_upd hx (fun i _ hne => by
    unfold opg
    rw [isn_un, isn_un, decide_eq_false (show ¬ 2 * i = 2 * x + o by omega), decide_eq_false (show ¬ 2 * i + 1 = 2 * x + o by omega), Bool.or_false, Bool.or_false])
  have h2 : opg (un F n (2 * x + o)) (n + 1) x = if isn F n (2 * x) = false ∧ isn F n (2 * x + 1) = false then 1 else 0 := by
    unfold opg
    rw [isn_un, isn_un]
    have : o = 0 ∨ o = 1 := by omega
    rcases this with rfl | rfl
    · rw [Nat.add_zero] at hno
      rw [decide_eq_true (show 2 * x = 2 * x + 0 by omega), decide_eq_false (show ¬ 2 * x + 1 = 2 * x + 0 by omega), hno]
      cases isn F n (2 * x + 1) <;> simp
    · rw [decide_eq_false (show ¬ 2 * x = 2 * x + 1 by omega), decide_eq_true (show 2 * x + 1 = 2 * x + 1 by omega), hno]
      cases isn F n (2 * x) <;> simp
  have h3 : opg F n x = if isn F n (2 * x) = isn F n (2 * x + 1) then 0 else 1 := rfl
  have h4 : nmv F n x = (if isn F n (2 * x) then 1 else 0) + (if isn F n (2 * x + 1) then 2 else 0) := rfl
  rw [h2, h3] at hu
  rw [h4]
  have : o = 0 ∨ o = 1 := by omega
  rcases this with rfl | rfl
  · rw [Nat.add_zero] at hno
    rw [hno] at hu ⊢
    cases hb : isn F n (2 * x + 1)
    · rw [hb] at hu
      simp at hu
      exact ⟨fun _ => by omega, fun z => absurd rfl z⟩
    · rw [hb] at hu
      simp at hu
      exact ⟨fun z => by simp at z, fun _ => by omega⟩
  · rw [hno] at hu ⊢
    cases hb : isn F n (2 * x)
    · rw [hb] at hu
      simp at hu
      exact ⟨fun _ => by omega, fun z => absurd rfl z⟩
    · rw [hb] at hu
      simp at hu
      exact ⟨fun z => by simp at z, fun _ => by omega⟩
