theorem x_lay (j n : Nat) (R : Nat → Nat) (h : HH) (hn : n ≤ 8) (hR : ∀ i, i < 2 * n → h 9 0 i = (R i : Int)) : Sp mX6_lay [vr 5 j, vr 9 0, vi n] h (fun r g => r = none ∧ g 5 j 2 = (n : Int) ∧ g 5 j 3 = 0 ∧ (∀ i, i < 2 * n → g 6 j i = (R i : Int)) ∧ Fr [(5, j), (6, j)] [] h g) := by
  refine Sp.of rfl kX6_lay (Nat.le_of_ble_eq_true rfl) ?_
  have L : ∀ (m q : Nat) (g : HH), q + m = 2 * n → g 5 j 3 = 0 → (∀ i, i < q → g 6 j i = (R i : Int)) → Fr [(5, j), (6, j)] [] h g → AW mX6_lay (fun r g => r = none ∧ g 5 j 2 = (n : Int) ∧ g 5 j 3 = 0 ∧ (∀ i, i < 2 * n → g 6 j i = (R i : Int)) ∧ Fr [(5, j), (6, j)] [] h g) 6 [(0, vr 5 j), (1, vr 9 0), (2, vi n), (3, vi q)] [] g := by
    intro m
    induction m with
    | zero =>
      intro q g hq h3 hp hF
      have hq : q = 2 * n := by omega
      subst hq
      refine u_iloadn (k := 4) rfl rfl ?_
      refine a_iconst (k := 5) rfl ?_
      refine u_iloadn (k := 6) rfl rfl ?_
      refine u_imul (k := 7) rfl (by omega) ?_
      refine a_icmp_ge (k := 8) rfl (fun c_10 => ?_) (fun c_10 => ?_)
      · refine u_aloadn (k := 25) rfl rfl ?_
        refine u_iloadn (k := 26) rfl rfl ?_
        refine a_bipush (k := 27) rfl ?_
        refine i_stat2 (M' := mJ9_min_7cf53) (k := 28) rfl lRX6_39 oJ9_min_7cf53 vJ9_min_7cf53 ⟨Nat.le_of_ble_eq_true rfl, Nat.le_of_ble_eq_true rfl⟩ rfl (Nat.le_of_ble_eq_true rfl) (x_min n 8 g) ?_
        refine a_puti (k := 29) rfl pRX6_19 rfl rfl ?_
        refine a_return (k := 30) rfl rfl ?_
        exact ⟨rfl, by rw [put_eq, if_pos (by omega)], by simp only [put_apply, Nat.reduceEqDiff, reduceIte, false_and, and_false, true_and, and_true, and_self, if_false, if_true, not_false_eq_true, not_true_eq_false, ne_eq]; exact h3, fun i hi => by simp only [put_apply, Nat.reduceEqDiff, reduceIte, false_and, and_false, true_and, and_true, and_self, if_false, if_true, not_false_eq_true, not_true_eq_false, ne_eq]; exact hp i hi, hF.p1 (by simp)⟩
      · omega
    | succ m ih =>
      intro q g hq h3 hp hF
      have h9 : g 9 0 q = (R q : Int) := by rw [hF 9 0 q (by simp) (by simp)]; exact hR q (by omega)
      refine u_iloadn (k := 4) rfl rfl ?_
      refine a_iconst (k := 5) rfl ?_
      refine u_iloadn (k := 6) rfl rfl ?_
      refine u_imul (k := 7) rfl (by omega) ?_
      refine a_icmp_ge (k := 8) rfl (fun c_10 => ?_) (fun c_10 => ?_)
      · omega
      · refine u_iloadn (k := 9) rfl rfl ?_
        refine a_bipush (k := 10) rfl ?_
        refine a_icmp_ge (k := 11) rfl (fun c_16 => ?_) (fun c_16 => ?_)
        · omega
        · refine u_iloadn (k := 12) rfl rfl ?_
          refine u_aloadn (k := 13) rfl rfl ?_
          refine a_alen (k := 14) rfl rfl rfl (by decide) (by decide) ?_
          refine a_icmp_ge (k := 15) rfl (fun c_22 => ?_) (fun c_22 => ?_)
          · omega
          · refine u_aloadn (k := 16) rfl rfl ?_
            refine a_getr (k := 17) rfl fRX6_15 rfl rfl rfl ?_
            refine u_iloadn (k := 18) rfl rfl ?_
            refine u_aloadn (k := 19) rfl rfl ?_
            refine u_iloadn (k := 20) rfl rfl ?_
            refine u_iald (k := 21) rfl rfl rfl (by omega) ?_
            rw [h9]
            refine u_iast (k := 22) rfl rfl rfl (by omega) ?_
            refine u_iinc (k := 23) (lv' := [(3, _), (0, _), (1, _), (2, _)]) rfl rfl (Nat.le_of_ble_eq_true rfl) (by omega) rfl ?_
            refine a_goto (k := 24) rfl ?_
            refine a_sub [1, 2, 3, 0] rfl ?_
            exact ih (q + 1) _ (by omega) (by simp only [put_apply, Nat.reduceEqDiff, reduceIte, false_and, and_false, true_and, and_true, and_self, if_false, if_true, not_false_eq_true, not_true_eq_false, ne_eq]; exact h3) (fun i hi => by by_cases he : i = q; (subst he; rw [put_eq]); (rw [put_ne (by simp [he])]; exact hp i (by omega))) (hF.p1 (by simp))
  refine u_aloadn (k := 0) rfl rfl ?_
  refine v_virt0 (M' := mX6_makePlain) (k := 1) rfl lRX6_36 oX6_makePlain vX6_makePlain ⟨Nat.le_of_ble_eq_true rfl, Nat.le_of_ble_eq_true rfl⟩ rfl rfl (Nat.le_of_ble_eq_true rfl) (x_makePlain j h) ?_
  refine a_iconst (k := 2) rfl ?_
  refine a_istoren (k := 3) (lv' := [(3, _), (0, _), (1, _), (2, _)]) rfl (Nat.le_of_ble_eq_true rfl) rfl ?_
  refine a_sub [1, 2, 3, 0] rfl ?_
  exact L (2 * n) 0 _ (by omega) (by rw [put_eq]) (fun i hi => absurd hi (Nat.not_lt_zero i)) ((Fr.rf.p1 (by simp)).p1 (by simp))
/-! the text: a machine over its letters -/
/-- place, figures, first figure, grains, (pretzels, threads), (passes, thread) -/
abbrev PS : Type := Nat × Nat × Nat × Nat × (Nat × (Nat → Nat × (Nat → Nat))) × (Nat × (Nat → Nat))
def un {α : Type} (F : Nat → α) (k : Nat) (v : α) : Nat → α := fun j => if j = k then v else F j
/-- is v among the first n of f -/
def isn (f : Nat → Nat) (n v : Nat) : Bool := (List.range n).any fun i => f i == v
theorem isn_iff {f : Nat → Nat} {n v : Nat} : isn f n v = true ↔ ∃ i, i < n ∧ f i = v := by
  unfold isn
  rw [List.any_eq_true]
  constructor
  · rintro ⟨i, hi, he⟩
    exact ⟨i, List.mem_range.mp hi, by simpa using he⟩
  · rintro ⟨i, hi, he⟩
    exact ⟨i, List.mem_range.mpr hi, by simpa using he⟩
def isd (l : Nat) : Bool := decide (48 ≤ l) && decide (l ≤ 57)
def rpass (p : PS) (x o : Nat) : PS ⊕ Nat :=
  if isn p.2.2.2.2.2.2 p.2.2.2.2.2.1 (2 * x + o) then .inr 4
  else if num p.2.2.2.2.2.2 x p.2.2.2.2.2.1 = none ∧ 8 ≤ mny p.2.2.2.2.2.2 p.2.2.2.2.2.1 then .inr 3
  else .inl (p.1, p.2.1, p.2.2.1, p.2.2.2.1, p.2.2.2.2.1, (p.2.2.2.2.2.1 + 1, un p.2.2.2.2.2.2 p.2.2.2.2.2.1 (2 * x + o)))
/-- as many over as under: the same names -/
def clos (f : Nat → Nat) (n : Nat) : Bool := (List.range 26).all fun x => isn f n (2 * x + 1) == isn f n (2 * x)
def rend (p : PS) : PS ⊕ Nat := if clos p.2.2.2.2.2.2 p.2.2.2.2.2.1 then .inl (4, p.2.1, p.2.2.1, p.2.2.2.1, (p.2.2.2.2.1.1 + 1, un p.2.2.2.2.1.2 p.2.2.2.2.1.1 p.2.2.2.2.2), p.2.2.2.2.2) else .inr 5
def rnum (p : PS) (l : Nat) : PS ⊕ Nat := if l = 59 then .inl (4, p.2) else .inr 1
def rs (p : PS) (l q : Nat) : PS ⊕ Nat :=
  if l = 32 then .inl (if p.1 = 2 then (3, p.2) else p)
  else if p.1 = 0 then (if l = 117 then .inl (1, p.2) else .inr 1)
  else if p.1 = 1 then (if isd l then .inl (2, 1, q, l - 48, p.2.2.2.2) else .inr 1)
  else if p.1 = 2 then (if isd l then (if 3 < p.2.1 + 1 ∨ 99 < 10 * p.2.2.2.1 + (l - 48) then .inr 2 else .inl (2, p.2.1 + 1, p.2.2.1, 10 * p.2.2.2.1 + (l - 48), p.2.2.2.2)) else rnum p l)
  else if p.1 = 3 then rnum p l
  else if p.1 = 4 then (if l = 117 then .inr 3 else if ¬ l = 107 then .inr 1 else if 5 ≤ p.2.2.2.2.1.1 then .inr 3 else .inl (5, p.2.1, p.2.2.1, p.2.2.2.1, p.2.2.2.2.1, (0, p.2.2.2.2.2.2)))
  else if 65 ≤ l ∧ l ≤ 90 then rpass p (l - 65) 1
  else if 97 ≤ l ∧ l ≤ 122 then rpass p (l - 97) 0
  else if l = 59 then rend p else .inr 1
/-- the class's reader holds p -/
def XR (p : PS) (g : HH) : Prop := p.1 ≤ 5 ∧ g 7 0 5 = (p.1 : Int) ∧ g 7 0 6 = (p.2.1 : Int) ∧ p.2.1 ≤ 3 ∧ g 7 0 7 = (p.2.2.1 : Int) ∧ g 3 0 2 = (p.2.2.2.1 : Int) ∧ p.2.2.2.1 ≤ 99 ∧ g 3 0 1 = (p.2.2.2.2.1.1 : Int) ∧ p.2.2.2.2.1.1 ≤ 5 ∧ (∀ k, k < p.2.2.2.2.1.1 → g 5 k 2 = (((p.2.2.2.2.1.2 k).1 / 2 : Nat) : Int) ∧ g 5 k 3 = 0 ∧ ∀ i, i < (p.2.2.2.2.1.2 k).1 → g 6 k i = (rn (p.2.2.2.2.1.2 k).2 i : Int)) ∧
  (p.1 = 5 → NM 1 p.2.2.2.2.2.2 p.2.2.2.2.2.1 g ∧ inj2 p.2.2.2.2.2.2 p.2.2.2.2.2.1 ∧ mny p.2.2.2.2.2.2 p.2.2.2.2.2.1 ≤ 8 ∧ (∀ i, i < p.2.2.2.2.2.1 → p.2.2.2.2.2.2 i < 52) ∧ (∀ i, i < p.2.2.2.2.2.1 → g 9 0 i = (rn p.2.2.2.2.2.2 i : Int)) ∧ p.2.2.2.2.1.1 < 5 ∧
    ∃ U V : Nat, g 7 0 8 = (U : Int) ∧ g 7 0 9 = (V : Int) ∧ U < 2 ^ 26 ∧ V < 2 ^ 26 ∧ (∀ x, U.testBit x = isn p.2.2.2.2.2.2 p.2.2.2.2.2.1 (2 * x + 1)) ∧ (∀ x, V.testBit x = isn p.2.2.2.2.2.2 p.2.2.2.2.2.1 (2 * x)) ∧ pc_ U + pc_ V = p.2.2.2.2.2.1)
def trd : List (Nat × Nat) := [(3, 0), (5, 0), (5, 1), (5, 2), (5, 3), (5, 4), (6, 0), (6, 1), (6, 2), (6, 3), (6, 4), (1, 1), (2, 1), (9, 0)]
def krd : List (Nat × Nat × Nat) := [(7, 0, 5), (7, 0, 6), (7, 0, 7), (7, 0, 8), (7, 0, 9)]
/-- how a letter ends -/
def RE (h : HH) (w : PS ⊕ Nat) (f0 : Int) (r : Option AV) (g : HH) : Prop := match w with
  | .inl p => r = some (vi 0) ∧ XR p g ∧ Fr trd krd h g
  | .inr e => r = some (vi (e : Int)) ∧ (e = 2 → g 7 0 7 = f0) ∧ 0 < e ∧ e ≤ 5 ∧ Fr trd krd h g
theorem x_isFigure (l : Nat) (h : HH) : SpI mX5_isFigure [vi l] h (b01 (isd l)) h := by
  refine Sp.of rfl kX5_isFigure (Nat.le_of_ble_eq_true rfl) ?_
  have e : b01 (isd l) = if 48 ≤ l ∧ l ≤ 57 then 1 else 0 := by
    unfold b01 isd
    by_cases h1 : 48 ≤ l <;> by_cases h2 : l ≤ 57 <;> simp [h1, h2]
  refine u_iloadn (k := 0) rfl rfl ?_
  refine a_bipush (k := 1) rfl ?_
  refine a_icmp_lt (k := 2) rfl (fun c_3 => ?_) (fun c_3 => ?_)
  · refine a_iconst (k := 8) rfl ?_
    refine a_zreturn (k := 9) rfl rfl (by omega) ?_
    exact ⟨by rw [e]; congr 2; split <;> omega, rfl⟩
  · refine u_iloadn (k := 3) rfl rfl ?_
    refine a_bipush (k := 4) rfl ?_
    refine a_icmp_gt (k := 5) rfl (fun c_9 => ?_) (fun c_9 => ?_)
    · refine a_iconst (k := 8) rfl ?_
      refine a_zreturn (k := 9) rfl rfl (by omega) ?_
      exact ⟨by rw [e]; congr 2; split <;> omega, rfl⟩
    · refine a_iconst (k := 6) rfl ?_
      refine a_goto (k := 7) rfl ?_
      refine a_zreturn (k := 9) rfl rfl (by omega) ?_
      exact ⟨by rw [e]; congr 2; split <;> omega, rfl⟩
theorem b01_t {b : Bool} (h : ¬ b01 b = 0) : b = true := by cases b <;> simp_all [b01]
theorem b01_f {b : Bool} (h : b01 b = 0) : b = false := by cases b <;> simp_all [b01]
theorem XR.other {p : PS} {g : HH} (h : XR p g) {a : Nat} (ha : a ≤ 4) : XR (a, p.2) (put g 7 0 5 (a : Int)) := by
  obtain ⟨h1, h2, h3, h4, h5, h6, h7, h8, h9, h10, h11⟩ := h
  exact ⟨by dsimp only; omega, by rw [put_eq], by simp only [put_apply, Nat.reduceEqDiff, reduceIte, false_and, and_false, true_and, and_true, and_self, if_false, if_true, not_false_eq_true, not_true_eq_false, ne_eq]; exact h3, h4, by simp only [put_apply, Nat.reduceEqDiff, reduceIte, false_and, and_false, true_and, and_true, and_self, if_false, if_true, not_false_eq_true, not_true_eq_false, ne_eq]; exact h5, by simp only [put_apply, Nat.reduceEqDiff, reduceIte, false_and, and_false, true_and, and_true, and_self, if_false, if_true, not_false_eq_true, not_true_eq_false, ne_eq]; exact h6, h7, by simp only [put_apply, Nat.reduceEqDiff, reduceIte, false_and, and_false, true_and, and_true, and_self, if_false, if_true, not_false_eq_true, not_true_eq_false, ne_eq]; exact h8, h9, fun k hk => ⟨by simp only [put_apply, Nat.reduceEqDiff, reduceIte, false_and, and_false, true_and, and_true, and_self, if_false, if_true, not_false_eq_true, not_true_eq_false, ne_eq]; exact (h10 k hk).1, by simp only [put_apply, Nat.reduceEqDiff, reduceIte, false_and, and_false, true_and, and_true, and_self, if_false, if_true, not_false_eq_true, not_true_eq_false, ne_eq]; exact (h10 k hk).2.1, fun i hi => by simp only [put_apply, Nat.reduceEqDiff, reduceIte, false_and, and_false, true_and, and_true, and_self, if_false, if_true, not_false_eq_true, not_true_eq_false, ne_eq]; exact (h10 k hk).2.2 i hi⟩, fun z => by dsimp only at z; omega⟩
theorem x_numEnd (l : Nat) (p : PS) (h : HH) (hX : XR p h) : Sp mX5_readNumbersEnd [vr 7 0, vi l] h (RE h (rnum p l) (p.2.2.1 : Int)) := by
  refine Sp.of rfl kX5_readNumbersEnd (Nat.le_of_ble_eq_true rfl) ?_
  refine u_iloadn (k := 0) rfl rfl ?_
  refine a_bipush (k := 1) rfl ?_
  refine a_icmp_eq (k := 2) rfl (fun c_3 => ?_) (fun c_3 => ?_)
  · refine u_aloadn (k := 5) rfl rfl ?_
    refine a_iconst (k := 6) rfl ?_
    refine a_puti (k := 7) rfl pRX5_44 rfl rfl ?_
    refine a_iconst (k := 8) rfl ?_
    refine a_ireturn (k := 9) rfl rfl ?_
    unfold rnum; rw [if_pos (by omega)]; exact ⟨rfl, hX.other (by omega), Fr.rf.p2 (by simp [krd])⟩
  · refine a_iconst (k := 3) rfl ?_
    refine a_ireturn (k := 4) rfl rfl ?_
    unfold rnum; rw [if_neg (by omega)]; exact ⟨rfl, fun z => by omega, by omega, by omega, Fr.rf⟩
theorem x_start (l q : Nat) (p : PS) (h : HH) (hX : XR p h) (hp : p.1 = 0) (hl : l ≠ 32) : Sp mX5_readStart [vr 7 0, vi l] h (RE h (rs p l q) (p.2.2.1 : Int)) := by
  have e : rs p l q = if l = 117 then .inl (1, p.2) else .inr 1 := by simp [rs, hl, hp]
  rw [e]
  refine Sp.of rfl kX5_readStart (Nat.le_of_ble_eq_true rfl) ?_
  refine u_iloadn (k := 0) rfl rfl ?_
  refine a_bipush (k := 1) rfl ?_
  refine a_icmp_eq (k := 2) rfl (fun c_3 => ?_) (fun c_3 => ?_)
  · refine u_aloadn (k := 5) rfl rfl ?_
    refine a_iconst (k := 6) rfl ?_
    refine a_puti (k := 7) rfl pRX5_44 rfl rfl ?_
    refine a_iconst (k := 8) rfl ?_
    refine a_ireturn (k := 9) rfl rfl ?_
    rw [if_pos (by omega)]; exact ⟨rfl, hX.other (by omega), Fr.rf.p2 (by simp [krd])⟩
  · refine a_iconst (k := 3) rfl ?_
    refine a_ireturn (k := 4) rfl rfl ?_
    rw [if_neg (by omega)]; exact ⟨rfl, fun z => by omega, by omega, by omega, Fr.rf⟩
theorem x_blank (q : Nat) (p : PS) (h : HH) (hX : XR p h) : Sp mX5_readBlank [vr 7 0] h (RE h (rs p 32 q) (p.2.2.1 : Int)) := by
  have e : rs p 32 q = .inl (if p.1 = 2 then (3, p.2) else p) := by simp [rs]
  rw [e]
  have h2 := hX.2.1
  refine Sp.of rfl kX5_readBlank (Nat.le_of_ble_eq_true rfl) ?_
  refine u_aloadn (k := 0) rfl rfl ?_
  refine a_geti (k := 1) rfl fRX5_44 rfl rfl ?_
  refine a_iconst (k := 2) rfl ?_
  rw [h2]
  refine a_icmp_ne (k := 3) rfl (fun c_5 => ?_) (fun c_5 => ?_)
  · refine a_iconst (k := 7) rfl ?_
    refine a_ireturn (k := 8) rfl rfl ?_
    first | (rw [if_pos (by omega)]; exact ⟨rfl, hX.other (by omega), Fr.rf.p2 (by simp [krd])⟩) | (rw [if_neg (by omega)]; exact ⟨rfl, hX, Fr.rf⟩)
  · refine u_aloadn (k := 4) rfl rfl ?_
    refine a_iconst (k := 5) rfl ?_
    refine a_puti (k := 6) rfl pRX5_44 rfl rfl ?_
    refine a_iconst (k := 7) rfl ?_
    refine a_ireturn (k := 8) rfl rfl ?_
    first | (rw [if_pos (by omega)]; exact ⟨rfl, hX.other (by omega), Fr.rf.p2 (by simp [krd])⟩) | (rw [if_neg (by omega)]; exact ⟨rfl, hX, Fr.rf⟩)
theorem x_first (l q : Nat) (p : PS) (h : HH) (hX : XR p h) (hp : p.1 = 1) (hl : l ≠ 32) (hl2 : l < 256) (hq : q < 240) : Sp mX5_readFirstFigure [vr 7 0, vi l, vi q] h (RE h (rs p l q) (p.2.2.1 : Int)) := by
  have e : rs p l q = if isd l then .inl (2, 1, q, l - 48, p.2.2.2.2) else .inr 1 := by simp [rs, hl, hp]
  rw [e]
  obtain ⟨h1, h2, h3, h4, h5, h6, h7, h8, h9, h10, h11⟩ := hX
  refine Sp.of rfl kX5_readFirstFigure (Nat.le_of_ble_eq_true rfl) ?_
  refine u_iloadn (k := 0) rfl rfl ?_
  refine i_stat1 (M' := mX5_isFigure) (k := 1) rfl lRX5_81 oX5_isFigure vX5_isFigure ⟨Nat.le_of_ble_eq_true rfl, Nat.le_of_ble_eq_true rfl⟩ rfl (Nat.le_of_ble_eq_true rfl) (x_isFigure l h) ?_
  refine a_if_ne (k := 2) rfl (fun c_4 => ?_) (fun c_4 => ?_)
  · have hd := b01_t c_4
    have hd2 : 48 ≤ l ∧ l ≤ 57 := by simpa [isd] using hd
    refine u_aloadn (k := 5) rfl rfl ?_
    refine a_iconst (k := 6) rfl ?_
    refine a_puti (k := 7) rfl pRX5_44 rfl rfl ?_
    refine u_aloadn (k := 8) rfl rfl ?_
    refine u_iloadn (k := 9) rfl rfl ?_
    refine a_puti (k := 10) rfl pRX5_55 rfl rfl ?_
    refine u_aloadn (k := 11) rfl rfl ?_
    refine a_iconst (k := 12) rfl ?_
    refine a_puti (k := 13) rfl pRX5_85 rfl rfl ?_
    refine u_aloadn (k := 14) rfl rfl ?_
    refine a_getr (k := 15) rfl fRX5_15 rfl rfl rfl ?_
    refine u_iloadn (k := 16) rfl rfl ?_
    refine a_bipush (k := 17) rfl ?_
    refine u_isub (k := 18) rfl (by omega) ?_
    refine a_puti (k := 19) rfl pRX5_41 rfl rfl ?_
    refine a_iconst (k := 20) rfl ?_
    refine a_ireturn (k := 21) rfl rfl ?_
    rw [if_pos hd]
    refine ⟨rfl, ⟨by dsimp only; omega, by simp only [put_apply, Nat.reduceEqDiff, reduceIte, false_and, and_false, true_and, and_true, and_self, if_false, if_true, not_false_eq_true, not_true_eq_false, ne_eq]; rfl, by simp only [put_apply, Nat.reduceEqDiff, reduceIte, false_and, and_false, true_and, and_true, and_self, if_false, if_true, not_false_eq_true, not_true_eq_false, ne_eq]; rfl, by dsimp only; omega, by simp only [put_apply, Nat.reduceEqDiff, reduceIte, false_and, and_false, true_and, and_true, and_self, if_false, if_true, not_false_eq_true, not_true_eq_false, ne_eq], by rw [put_eq]; dsimp only; omega, by dsimp only; omega, by simp only [put_apply, Nat.reduceEqDiff, reduceIte, false_and, and_false, true_and, and_true, and_self, if_false, if_true, not_false_eq_true, not_true_eq_false, ne_eq]; exact h8, h9, fun k hk => ⟨by simp only [put_apply, Nat.reduceEqDiff, reduceIte, false_and, and_false, true_and, and_true, and_self, if_false, if_true, not_false_eq_true, not_true_eq_false, ne_eq]; exact (h10 k hk).1, by simp only [put_apply, Nat.reduceEqDiff, reduceIte, false_and, and_false, true_and, and_true, and_self, if_false, if_true, not_false_eq_true, not_true_eq_false, ne_eq]; exact (h10 k hk).2.1, fun i hi => by simp only [put_apply, Nat.reduceEqDiff, reduceIte, false_and, and_false, true_and, and_true, and_self, if_false, if_true, not_false_eq_true, not_true_eq_false, ne_eq]; exact (h10 k hk).2.2 i hi⟩, fun z => by dsimp only at z; omega⟩, (((Fr.rf.p2 (by simp [krd])).p2 (by simp [krd])).p2 (by simp [krd])).p1 (by simp [trd])⟩
  · have hd := b01_f c_4
    refine a_iconst (k := 3) rfl ?_
    refine a_ireturn (k := 4) rfl rfl ?_
    rw [if_neg (by rw [hd]; decide)]; exact ⟨rfl, fun z => by omega, by omega, by omega, Fr.rf⟩
theorem x_number (l q : Nat) (p : PS) (h : HH) (hX : XR p h) (hp : p.1 = 2) (hl : l ≠ 32) (hl2 : l < 256) : Sp mX5_readNumber [vr 7 0, vi l] h (RE h (rs p l q) (p.2.2.1 : Int)) := by
  have e : rs p l q = if isd l then (if 3 < p.2.1 + 1 ∨ 99 < 10 * p.2.2.2.1 + (l - 48) then .inr 2 else .inl (2, p.2.1 + 1, p.2.2.1, 10 * p.2.2.2.1 + (l - 48), p.2.2.2.2)) else rnum p l := by simp [rs, hl, hp]
  rw [e]
  have hX' := hX
  obtain ⟨h1, h2, h3, h4, h5, h6, h7, h8, h9, h10, h11⟩ := hX
  refine Sp.of rfl kX5_readNumber (Nat.le_of_ble_eq_true rfl) ?_
  refine u_iloadn (k := 0) rfl rfl ?_
  refine i_stat1 (M' := mX5_isFigure) (k := 1) rfl lRX5_81 oX5_isFigure vX5_isFigure ⟨Nat.le_of_ble_eq_true rfl, Nat.le_of_ble_eq_true rfl⟩ rfl (Nat.le_of_ble_eq_true rfl) (x_isFigure l h) ?_
  refine a_if_ne (k := 2) rfl (fun c_4 => ?_) (fun c_4 => ?_)
  · have hd := b01_t c_4
    have hd2 : 48 ≤ l ∧ l ≤ 57 := by simpa [isd] using hd
    rw [if_pos hd]
    refine u_aloadn (k := 7) rfl rfl ?_
    refine a_dup (k := 8) rfl rfl ?_
    refine a_geti (k := 9) rfl fRX5_85 rfl rfl ?_
    rw [h3]
    refine a_iconst (k := 10) rfl ?_
    refine u_iadd (k := 11) rfl (by omega) ?_
    refine a_puti (k := 12) rfl pRX5_85 rfl rfl ?_
    refine u_aloadn (k := 13) rfl rfl ?_
    refine a_getr (k := 14) rfl fRX5_15 rfl rfl rfl ?_
    refine a_bipush (k := 15) rfl ?_
    refine u_aloadn (k := 16) rfl rfl ?_
    refine a_getr (k := 17) rfl fRX5_15 rfl rfl rfl ?_
    refine a_geti (k := 18) rfl fRX5_41 rfl rfl ?_
    rw [put_ne (by simp), h6]
    refine u_imul (k := 19) rfl (by omega) ?_
    refine u_iloadn (k := 20) rfl rfl ?_
    refine u_iadd (k := 21) rfl (by omega) ?_
    refine a_bipush (k := 22) rfl ?_
    refine u_isub (k := 23) rfl (by omega) ?_
    refine a_puti (k := 24) rfl pRX5_41 rfl rfl ?_
    refine u_aloadn (k := 25) rfl rfl ?_
    refine a_geti (k := 26) rfl fRX5_85 rfl rfl ?_
    rw [put_ne (by simp), put_eq]
    refine a_iconst (k := 27) rfl ?_
    refine a_icmp_gt (k := 28) rfl (fun c_50 => ?_) (fun c_50 => ?_)
    · refine a_iconst (k := 34) rfl ?_
      refine a_goto (k := 35) rfl ?_
      refine a_ireturn (k := 37) rfl rfl ?_
      sorry
    · refine u_aloadn (k := 29) rfl rfl ?_
      refine a_getr (k := 30) rfl fRX5_15 rfl rfl rfl ?_
      refine a_geti (k := 31) rfl fRX5_41 rfl rfl ?_
      rw [put_eq]
      refine a_bipush (k := 32) rfl ?_
      refine a_icmp_le (k := 33) rfl (fun c_62 => ?_) (fun c_62 => ?_)
      · refine a_iconst (k := 36) rfl ?_
        refine a_ireturn (k := 37) rfl rfl ?_
        sorry
      · refine a_iconst (k := 34) rfl ?_
        refine a_goto (k := 35) rfl ?_
        refine a_ireturn (k := 37) rfl rfl ?_
        sorry
  · have hd := b01_f c_4
    rw [if_neg (by rw [hd]; decide)]
    refine u_aloadn (k := 3) rfl rfl ?_
    refine u_iloadn (k := 4) rfl rfl ?_
    refine ui_virt1 (M' := mX5_readNumbersEnd) (k := 5) rfl lRX5_72 oX5_readNumbersEnd vX5_readNumbersEnd ⟨Nat.le_of_ble_eq_true rfl, Nat.le_of_ble_eq_true rfl⟩ rfl rfl (Nat.le_of_ble_eq_true rfl) ((x_numEnd l p h hX').weak (P' := fun r g => (∃ a, r = some (vi a)) ∧ RE h (rnum p l) (p.2.2.1 : Int) r g) (fun r g hr => ⟨by unfold RE at hr; split at hr <;> exact ⟨_, hr.1⟩, hr⟩)) (by intro r g hp; exact ⟨_, hp.1⟩) (fun r g1 hg1 => ?_)
    sorry
    refine a_ireturn (k := 6) rfl rfl ?_
    sorry
