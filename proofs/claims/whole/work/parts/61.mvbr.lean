/-! moves of the class are moves of the reference -/
theorem swf0 (G : Nat → Nat) (p : Nat) : swf G 0 p = G p := by unfold swf; simp
theorem tr_rk {G : Nat → Nat} {S : Nat} : ∀ {m p : Nat}, p < m → S.testBit (G p / 2) = true → (tr_ G S 0 p).length < (tr_ G S 0 m).length ∧ fn (tr_ G S 0 m) (tr_ G S 0 p).length = G p
  | 0, p, h, _ => absurd h (Nat.not_lt_zero p)
  | m + 1, p, h, hb => by
    by_cases he : p = m
    · subst he
      have ek : tr_ G S 0 (p + 1) = tr_ G S 0 p ++ [swf G 0 p] := if_pos hb
      rw [ek, List.length_append, List.length_singleton, fn_app2, swf0]
      exact ⟨by omega, rfl⟩
    · obtain ⟨h1, h2⟩ := tr_rk (m := m) (p := p) (by omega) hb
      by_cases hm : S.testBit (G m / 2) = true
      · rw [show tr_ G S 0 (m + 1) = tr_ G S 0 m ++ [swf G 0 m] from if_pos hm, List.length_append, List.length_singleton, fn_app1 h1]
        exact ⟨by omega, h2⟩
      · rw [show tr_ G S 0 (m + 1) = tr_ G S 0 m from if_neg hm]
        exact ⟨h1, h2⟩
theorem tr_inv {G : Nat → Nat} {S : Nat} : ∀ {m i : Nat}, i < (tr_ G S 0 m).length → ∃ p, p < m ∧ S.testBit (G p / 2) = true ∧ (tr_ G S 0 p).length = i
  | 0, i, h => by simp [tr_] at h
  | m + 1, i, h => by
    by_cases hb : S.testBit (G m / 2) = true
    · have ek : tr_ G S 0 (m + 1) = tr_ G S 0 m ++ [swf G 0 m] := if_pos hb
      rw [ek, List.length_append, List.length_singleton] at h
      by_cases he : i = (tr_ G S 0 m).length
      · exact ⟨m, by omega, hb, he.symm⟩
      · obtain ⟨p, h1, h2, h3⟩ := tr_inv (G := G) (S := S) (m := m) (i := i) (by omega)
        exact ⟨p, by omega, h2, h3⟩
    · have ek : tr_ G S 0 (m + 1) = tr_ G S 0 m := if_neg hb
      rw [ek] at h
      obtain ⟨p, h1, h2, h3⟩ := tr_inv (m := m) (i := i) h
      exact ⟨p, by omega, h2, h3⟩
theorem tr_inj {G : Nat → Nat} {S n i j : Nat} (hG : inj2 G n) (hi : i < (tr_ G S 0 n).length) (hj : j < (tr_ G S 0 n).length) (he : fn (tr_ G S 0 n) i = fn (tr_ G S 0 n) j) : i = j := by
  obtain ⟨p, h1, h2, h3⟩ := tr_inv hi
  obtain ⟨q, k1, k2, k3⟩ := tr_inv hj
  have e1 := (tr_rk h1 h2).2
  have e2 := (tr_rk k1 k2).2
  rw [h3] at e1
  rw [k3] at e2
  have := hG p q h1 k1 (by rw [← e1, ← e2]; exact he)
  subst this
  rw [← h3, ← k3]
theorem nk_tb (L : List Nat) (x : Nat) : ∀ i, (nk L i).testBit x = true ↔ ∃ j, j < i ∧ pa L j / 2 = x ∧ pb L j / 2 = x
  | 0 => by unfold nk; simp
  | i + 1 => by
    unfold nk
    have ih := nk_tb L x i
    by_cases h : pa L i / 2 = pb L i / 2
    · rw [if_pos h, Nat.testBit_or, Bool.or_eq_true, ih, Nat.testBit_two_pow]
      constructor
      · rintro (⟨j, h1, h2, h3⟩ | h1)
        · exact ⟨j, by omega, h2, h3⟩
        · have h1 : pa L i / 2 = x := by simpa using h1
          exact ⟨i, by omega, h1, by omega⟩
      · rintro ⟨j, h1, h2, h3⟩
        by_cases he : j = i
        · subst he; exact Or.inr (by simpa using h2)
        · exact Or.inl ⟨j, by omega, h2, h3⟩
    · rw [if_neg h, ih]
      constructor
      · rintro ⟨j, h1, h2, h3⟩
        exact ⟨j, by omega, h2, h3⟩
      · rintro ⟨j, h1, h2, h3⟩
        refine ⟨j, ?_, h2, h3⟩
        have : j ≠ i := fun e => by subst e; clear ih; omega
        omega
theorem nq_tb (r : Nat) (L : List Nat) (x y : Nat) : ∀ i, (nq r L i x).testBit y = true ↔ ∃ j, j < i ∧ pa L j / 2 ≠ pb L j / 2 ∧ pa L j % 2 = r ∧ pb L j % 2 = r ∧ ((x = pa L j / 2 ∧ y = pb L j / 2) ∨ (x = pb L j / 2 ∧ y = pa L j / 2))
  | 0 => by unfold nq; simp
  | i + 1 => by
    unfold nq
    have ih := nq_tb r L x y i
    by_cases h : ¬ pa L i / 2 = pb L i / 2 ∧ pa L i % 2 = r ∧ pb L i % 2 = r
    · rw [if_pos h]
      by_cases h1 : x = pa L i / 2
      · rw [if_pos h1, Nat.testBit_or, Bool.or_eq_true, ih, Nat.testBit_two_pow]
        constructor
        · rintro (⟨j, hj, hh⟩ | hh)
          · exact ⟨j, by omega, hh⟩
          · have hh : pb L i / 2 = y := by simpa using hh
            exact ⟨i, by omega, h.1, h.2.1, h.2.2, Or.inl ⟨h1, hh.symm⟩⟩
        · rintro ⟨j, hj, h2, h3, h4, h5⟩
          by_cases he : j = i
          · subst he
            refine Or.inr ?_
            have : pb L j / 2 = y := by clear ih; omega
            simpa using this
          · exact Or.inl ⟨j, by omega, h2, h3, h4, h5⟩
      · rw [if_neg h1]
        by_cases h2 : x = pb L i / 2
        · rw [if_pos h2, Nat.testBit_or, Bool.or_eq_true, ih, Nat.testBit_two_pow]
          constructor
          · rintro (⟨j, hj, hh⟩ | hh)
            · exact ⟨j, by omega, hh⟩
            · have hh : pa L i / 2 = y := by simpa using hh
              exact ⟨i, by omega, h.1, h.2.1, h.2.2, Or.inr ⟨h2, hh.symm⟩⟩
          · rintro ⟨j, hj, h2, h3, h4, h5⟩
            by_cases he : j = i
            · subst he
              refine Or.inr ?_
              have : pa L j / 2 = y := by clear ih; omega
              simpa using this
            · exact Or.inl ⟨j, by omega, h2, h3, h4, h5⟩
        · rw [if_neg h2, ih]
          constructor
          · rintro ⟨j, hj, hh⟩
            exact ⟨j, by omega, hh⟩
          · rintro ⟨j, hj, h3, h4, h5, h6⟩
            refine ⟨j, ?_, h3, h4, h5, h6⟩
            have : j ≠ i := fun e => by subst e; clear ih; omega
            omega
    · rw [if_neg h, ih]
      constructor
      · rintro ⟨j, hj, hh⟩
        exact ⟨j, by omega, hh⟩
      · rintro ⟨j, hj, h3, h4, h5, h6⟩
        refine ⟨j, ?_, h3, h4, h5, h6⟩
        have : j ≠ i := fun e => by subst e; exact h ⟨h3, h4, h5⟩
        omega
/-- beside one another, as numbers and as a row -/
theorem bes_row {G : Nat → Nat} {S n p q : Nat} (hG : inj2 G n) (hp : p < n) (hq : q < n) (hne : p ≠ q) (hbp : S.testBit (G p / 2) = true) (hbq : S.testBit (G q / 2) = true) :
    bes (tr_ G S 0 n).length (tr_ G S 0 p).length (tr_ G S 0 q).length = true ↔ ∃ t, t < (tr_ G S 0 n).length ∧ ((pa (tr_ G S 0 n) t = G p ∧ pb (tr_ G S 0 n) t = G q) ∨ (pa (tr_ G S 0 n) t = G q ∧ pb (tr_ G S 0 n) t = G p)) := by
  obtain ⟨i1, i2⟩ := tr_rk hp hbp
  obtain ⟨j1, j2⟩ := tr_rk hq hbq
  have hij : (tr_ G S 0 p).length ≠ (tr_ G S 0 q).length := fun e => by
    rw [e, j2] at i2
    exact hne (hG p q hp hq i2.symm)
  have hin : ∀ a b, a < (tr_ G S 0 n).length → b < (tr_ G S 0 n).length → fn (tr_ G S 0 n) a = fn (tr_ G S 0 n) b → a = b := fun a b ha hb he => tr_inj hG ha hb he
  rw [← i2, ← j2]
  generalize tr_ G S 0 n = L at *
  generalize (tr_ G S 0 p).length = i at *
  generalize (tr_ G S 0 q).length = j at *
  unfold bes pa pb
  rw [decide_eq_true_iff]
  constructor
  · intro hh
    unfold ofd at hh
    by_cases hlt : i < j
    · rw [if_pos hlt] at hh
      by_cases h1 : j - i = 1
      · exact ⟨i, i1, Or.inl ⟨rfl, by rw [if_pos (by omega), show i + 1 = j by omega]⟩⟩
      · exact ⟨j, j1, Or.inr ⟨rfl, by rw [if_neg (by omega), show i = 0 by omega]⟩⟩
    · rw [if_neg hlt] at hh
      by_cases h1 : i - j = 1
      · exact ⟨j, j1, Or.inr ⟨rfl, by rw [if_pos (by omega), show j + 1 = i by omega]⟩⟩
      · exact ⟨i, i1, Or.inl ⟨rfl, by rw [if_neg (by omega), show j = 0 by omega]⟩⟩
  · rintro ⟨t, ht, hh⟩
    have hx : (if t + 1 < L.length then t + 1 else 0) < L.length := by split <;> omega
    unfold ofd
    rcases hh with ⟨h1, h2⟩ | ⟨h1, h2⟩
    · have e1 := hin _ _ ht i1 h1
      have e2 := hin _ _ hx j1 h2
      subst e1
      split at e2 <;> split <;> omega
    · have e1 := hin _ _ ht j1 h1
      have e2 := hin _ _ hx i1 h2
      subst e1
      split at e2 <;> split <;> omega
theorem mvp_rmv {c S H a d : Nat} {G : Nat → Nat} (hV : VT c G) (hS : S < 2 ^ c) : mvp (cls G c S 0) (nq 1 (Lr G c S 0) (Lr G c S 0).length) (nq 0 (Lr G c S 0) (Lr G c S 0).length) (ndiff S H) a d = rmv G c S H a d := by
  have e1 : mvp (cls G c S 0) (nq 1 (Lr G c S 0) (Lr G c S 0).length) (nq 0 (Lr G c S 0) (Lr G c S 0).length) (ndiff S H) a d = ((S.testBit a && S.testBit d && !H.testBit a && !H.testBit d) && ((cls G c S 0).testBit d && decide (a = d) || (nq 1 (Lr G c S 0) (Lr G c S 0).length a).testBit d && (nq 0 (Lr G c S 0) (Lr G c S 0).length a).testBit d)) := by
    unfold mvp
    rw [Nat.testBit_and, Nat.testBit_or, Nat.testBit_and, Nat.testBit_and, ndiff_bit, ndiff_bit, Nat.testBit_two_pow]
    cases S.testBit a <;> cases S.testBit d <;> cases H.testBit a <;> cases H.testBit d <;> simp
  rw [e1]
  unfold rmv imv
  by_cases hcan : (S.testBit a && S.testBit d && !H.testBit a && !H.testBit d) = true
  · rw [hcan, Bool.true_and, Bool.true_and]
    have hsa : S.testBit a = true := by revert hcan; cases S.testBit a <;> simp
    have hsd : S.testBit d = true := by revert hcan; cases S.testBit d <;> simp
    have hac := lt_tb hS hsa
    have hdc := lt_tb hS hsd
    have pk : ∀ v, v < 2 * c → pos G v (2 * c) < 2 * c ∧ G (pos G v (2 * c)) = v := fun v hv => pos_ok (VT_sur hV hv)
    have key : ∀ v w, v < 2 * c → w < 2 * c → v ≠ w → S.testBit (v / 2) = true → S.testBit (w / 2) = true → (bes (tr_ G S 0 (2 * c)).length (tr_ G S 0 (pos G v (2 * c))).length (tr_ G S 0 (pos G w (2 * c))).length = true ↔ ∃ t, t < (tr_ G S 0 (2 * c)).length ∧ ((pa (tr_ G S 0 (2 * c)) t = v ∧ pb (tr_ G S 0 (2 * c)) t = w) ∨ (pa (tr_ G S 0 (2 * c)) t = w ∧ pb (tr_ G S 0 (2 * c)) t = v))) := by
      intro v w hv hw hne hbv hbw
      obtain ⟨a1, a2⟩ := pk v hv
      obtain ⟨b1, b2⟩ := pk w hw
      have := bes_row (S := S) hV.2 a1 b1 (fun e => hne (by rw [← a2, ← b2, e])) (by rw [a2]; exact hbv) (by rw [b2]; exact hbw)
      rw [a2, b2] at this
      exact this
    have dv : ∀ x, (2 * x + 1) / 2 = x ∧ 2 * x / 2 = x := fun x => by omega
    unfold oG uG
    by_cases had : a = d
    · subst had
      rw [if_pos rfl, decide_eq_true rfl, Bool.and_true]
      have k0 : (nq 1 (Lr G c S 0) (Lr G c S 0).length a).testBit a = false := by
        cases hh : (nq 1 (Lr G c S 0) (Lr G c S 0).length a).testBit a with
        | false => rfl
        | true =>
          obtain ⟨j, h1, h2, h3, h4, h5⟩ := (nq_tb 1 _ a a _).mp hh
          omega
      rw [k0, Bool.false_and, Bool.or_false]
      refine Bool.eq_iff_iff.mpr ?_
      rw [key (2 * a + 1) (2 * a) (by omega) (by omega) (by omega) (by rw [(dv a).1]; exact hsa) (by rw [(dv a).2]; exact hsa)]
      show (nk (Lr G c S 0) (Lr G c S 0).length).testBit a = true ↔ _
      rw [nk_tb]
      show (∃ j, j < (tr_ G S 0 (2 * c)).length ∧ pa (tr_ G S 0 (2 * c)) j / 2 = a ∧ pb (tr_ G S 0 (2 * c)) j / 2 = a) ↔ _
      constructor
      · rintro ⟨t, h1, h2, h3⟩
        refine ⟨t, h1, ?_⟩
        have hne : pa (tr_ G S 0 (2 * c)) t ≠ pb (tr_ G S 0 (2 * c)) t := fun e => by
          obtain ⟨a1, a2⟩ := pk (2 * a + 1) (by omega)
          obtain ⟨b1, b2⟩ := pk (2 * a) (by omega)
          have r1 := tr_rk (G := G) (S := S) a1 (by rw [a2, (dv a).1]; exact hsa)
          have r2 := tr_rk (G := G) (S := S) b1 (by rw [b2, (dv a).2]; exact hsa)
          have hx : (if t + 1 < (tr_ G S 0 (2 * c)).length then t + 1 else 0) < (tr_ G S 0 (2 * c)).length := by split <;> omega
          have e2 := tr_inj hV.2 h1 hx e
          have e3 : (tr_ G S 0 (pos G (2 * a + 1) (2 * c))).length = (tr_ G S 0 (pos G (2 * a) (2 * c))).length := by split at e2 <;> omega
          rw [e3, r2.2, a2, b2] at r1
          omega
        omega
      · rintro ⟨t, h1, h2⟩
        exact ⟨t, h1, by omega, by omega⟩
    · rw [if_neg had, decide_eq_false had, Bool.and_false, Bool.false_or]
      have kk : ∀ r, r < 2 → ((nq r (Lr G c S 0) (Lr G c S 0).length a).testBit d = true ↔ bes (tr_ G S 0 (2 * c)).length (tr_ G S 0 (pos G (2 * a + r) (2 * c))).length (tr_ G S 0 (pos G (2 * d + r) (2 * c))).length = true) := by
        intro r hr
        rw [key (2 * a + r) (2 * d + r) (by omega) (by omega) (by omega) (by rw [show (2 * a + r) / 2 = a by omega]; exact hsa) (by rw [show (2 * d + r) / 2 = d by omega]; exact hsd), nq_tb]
        show (∃ j, j < (tr_ G S 0 (2 * c)).length ∧ _) ↔ _
        constructor
        · rintro ⟨t, h1, h2, h3, h4, h5⟩
          have h2 : pa (tr_ G S 0 (2 * c)) t / 2 ≠ pb (tr_ G S 0 (2 * c)) t / 2 := h2
          have h3 : pa (tr_ G S 0 (2 * c)) t % 2 = r := h3
          have h4 : pb (tr_ G S 0 (2 * c)) t % 2 = r := h4
          have h5 : (a = pa (tr_ G S 0 (2 * c)) t / 2 ∧ d = pb (tr_ G S 0 (2 * c)) t / 2) ∨ (a = pb (tr_ G S 0 (2 * c)) t / 2 ∧ d = pa (tr_ G S 0 (2 * c)) t / 2) := h5
          exact ⟨t, h1, by omega⟩
        · rintro ⟨t, h1, h2⟩
          refine ⟨t, h1, ?_⟩
          show pa (tr_ G S 0 (2 * c)) t / 2 ≠ pb (tr_ G S 0 (2 * c)) t / 2 ∧ pa (tr_ G S 0 (2 * c)) t % 2 = r ∧ pb (tr_ G S 0 (2 * c)) t % 2 = r ∧ ((a = pa (tr_ G S 0 (2 * c)) t / 2 ∧ d = pb (tr_ G S 0 (2 * c)) t / 2) ∨ (a = pb (tr_ G S 0 (2 * c)) t / 2 ∧ d = pa (tr_ G S 0 (2 * c)) t / 2))
          omega
      have k1 := kk 1 (by omega)
      have k0 := kk 0 (by omega)
      rw [Nat.add_zero, Nat.add_zero] at k0
      rw [Bool.eq_iff_iff.mpr k1, Bool.eq_iff_iff.mpr k0]
  · have hcan : (S.testBit a && S.testBit d && !H.testBit a && !H.testBit d) = false := by revert hcan; cases (S.testBit a && S.testBit d && !H.testBit a && !H.testBit d) <;> simp
    rw [hcan, Bool.false_and, Bool.false_and]
theorem mls_mm {c S H : Nat} {G : Nat → Nat} (hV : VT c G) (hS : S < 2 ^ c) : mls G c S 0 H = mm (rmv G c S H) 64 := by
  rw [show (64 : Nat) = 8 * 8 from rfl, mm_pre]
  exact mpre_cong (fun a d _ _ _ => mvp_rmv hV hS)
