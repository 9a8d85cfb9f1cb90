theorem x_lay (j n : Nat) (R : Nat → Nat) (h : HH) (hn : n ≤ 8) (hR : ∀ i, i < 2 * n → h 9 0 i = (R i : Int)) : Sp mX6_lay [vr 5 j, vr 9 0, vi n] h (fun r g => r = none ∧ g 5 j 2 = (n : Int) ∧ g 5 j 3 = 0 ∧ (∀ i, i < 2 * n → g 6 j i = (R i : Int)) ∧ Fr [(5, j), (6, j)] [] h g) := by
  refine Sp.of rfl kX6_lay (Nat.le_of_ble_eq_true rfl) ?_
  have L : ∀ (m q : Nat) (g : HH), q + m = 2 * n → g 5 j 3 = 0 → (∀ i, i < q → g 6 j i = (R i : Int)) → Fr [(5, j), (6, j)] [] h g → AW mX6_lay (fun r g => r = none ∧ g 5 j 2 = (n : Int) ∧ g 5 j 3 = 0 ∧ (∀ i, i < 2 * n → g 6 j i = (R i : Int)) ∧ Fr [(5, j), (6, j)] [] h g) 6 [(0, vr 5 j), (1, vr 9 0), (2, vi n), (3, vi q)] [] g := by
    intro m
    induction m with
    | zero =>
      intro q g hq h3 hp hF
      have hq : q = 2 * n := by omega
      subst hq
      refine u_iloadn (k := 4) rfl rfl ?_
      refine a_iconst (k := 5) rfl ?_
      refine u_iloadn (k := 6) rfl rfl ?_
      refine u_imul (k := 7) rfl (by omega) ?_
      refine a_icmp_ge (k := 8) rfl (fun c_10 => ?_) (fun c_10 => ?_)
      · refine u_aloadn (k := 25) rfl rfl ?_
        refine u_iloadn (k := 26) rfl rfl ?_
        refine a_bipush (k := 27) rfl ?_
        refine i_stat2 (M' := mJ9_min_7cf53) (k := 28) rfl lRX6_39 oJ9_min_7cf53 vJ9_min_7cf53 ⟨Nat.le_of_ble_eq_true rfl, Nat.le_of_ble_eq_true rfl⟩ rfl (Nat.le_of_ble_eq_true rfl) (x_min n 8 g) ?_
        refine a_puti (k := 29) rfl pRX6_19 rfl rfl ?_
        refine a_return (k := 30) rfl rfl ?_
        exact ⟨rfl, by rw [put_eq, if_pos (by omega)], by simp only [put_apply, Nat.reduceEqDiff, reduceIte, false_and, and_false, true_and, and_true, and_self, if_false, if_true, not_false_eq_true, not_true_eq_false, ne_eq]; exact h3, fun i hi => by simp only [put_apply, Nat.reduceEqDiff, reduceIte, false_and, and_false, true_and, and_true, and_self, if_false, if_true, not_false_eq_true, not_true_eq_false, ne_eq]; exact hp i hi, hF.p1 (by simp)⟩
      · omega
    | succ m ih =>
      intro q g hq h3 hp hF
      have h9 : g 9 0 q = (R q : Int) := by rw [hF 9 0 q (by simp) (by simp)]; exact hR q (by omega)
      refine u_iloadn (k := 4) rfl rfl ?_
      refine a_iconst (k := 5) rfl ?_
      refine u_iloadn (k := 6) rfl rfl ?_
      refine u_imul (k := 7) rfl (by omega) ?_
      refine a_icmp_ge (k := 8) rfl (fun c_10 => ?_) (fun c_10 => ?_)
      · omega
      · refine u_iloadn (k := 9) rfl rfl ?_
        refine a_bipush (k := 10) rfl ?_
        refine a_icmp_ge (k := 11) rfl (fun c_16 => ?_) (fun c_16 => ?_)
        · omega
        · refine u_iloadn (k := 12) rfl rfl ?_
          refine u_aloadn (k := 13) rfl rfl ?_
          refine a_alen (k := 14) rfl rfl rfl (by decide) (by decide) ?_
          refine a_icmp_ge (k := 15) rfl (fun c_22 => ?_) (fun c_22 => ?_)
          · omega
          · refine u_aloadn (k := 16) rfl rfl ?_
            refine a_getr (k := 17) rfl fRX6_15 rfl rfl rfl ?_
            refine u_iloadn (k := 18) rfl rfl ?_
            refine u_aloadn (k := 19) rfl rfl ?_
            refine u_iloadn (k := 20) rfl rfl ?_
            refine u_iald (k := 21) rfl rfl rfl (by omega) ?_
            rw [h9]
            refine u_iast (k := 22) rfl rfl rfl (by omega) ?_
            refine u_iinc (k := 23) (lv' := [(3, _), (0, _), (1, _), (2, _)]) rfl rfl (Nat.le_of_ble_eq_true rfl) (by omega) rfl ?_
            refine a_goto (k := 24) rfl ?_
            refine a_sub [1, 2, 3, 0] rfl ?_
            exact ih (q + 1) _ (by omega) (by simp only [put_apply, Nat.reduceEqDiff, reduceIte, false_and, and_false, true_and, and_true, and_self, if_false, if_true, not_false_eq_true, not_true_eq_false, ne_eq]; exact h3) (fun i hi => by by_cases he : i = q; (subst he; rw [put_eq]); (rw [put_ne (by simp [he])]; exact hp i (by omega))) (hF.p1 (by simp))
  refine u_aloadn (k := 0) rfl rfl ?_
  refine v_virt0 (M' := mX6_makePlain) (k := 1) rfl lRX6_36 oX6_makePlain vX6_makePlain ⟨Nat.le_of_ble_eq_true rfl, Nat.le_of_ble_eq_true rfl⟩ rfl rfl (Nat.le_of_ble_eq_true rfl) (x_makePlain j h) ?_
  refine a_iconst (k := 2) rfl ?_
  refine a_istoren (k := 3) (lv' := [(3, _), (0, _), (1, _), (2, _)]) rfl (Nat.le_of_ble_eq_true rfl) rfl ?_
  refine a_sub [1, 2, 3, 0] rfl ?_
  exact L (2 * n) 0 _ (by omega) (by rw [put_eq]) (fun i hi => absurd hi (Nat.not_lt_zero i)) ((Fr.rf.p1 (by simp)).p1 (by simp))
/-! the text: a machine over its letters -/
/-- place, figures, first figure, grains, (pretzels, threads), (passes, thread) -/
abbrev PS : Type := Nat × Nat × Nat × Nat × (Nat × (Nat → Nat × (Nat → Nat))) × (Nat × (Nat → Nat))
def un {α : Type} (F : Nat → α) (k : Nat) (v : α) : Nat → α := fun j => if j = k then v else F j
/-- is v among the first n of f -/
def isn (f : Nat → Nat) (n v : Nat) : Bool := (List.range n).any fun i => f i == v
theorem isn_iff {f : Nat → Nat} {n v : Nat} : isn f n v = true ↔ ∃ i, i < n ∧ f i = v := by
  unfold isn
  rw [List.any_eq_true]
  constructor
  · rintro ⟨i, hi, he⟩
    exact ⟨i, List.mem_range.mp hi, by simpa using he⟩
  · rintro ⟨i, hi, he⟩
    exact ⟨i, List.mem_range.mpr hi, by simpa using he⟩
def isd (l : Nat) : Bool := decide (48 ≤ l) && decide (l ≤ 57)
def rpass (p : PS) (x o : Nat) : PS ⊕ Nat :=
  if isn p.2.2.2.2.2.2 p.2.2.2.2.2.1 (2 * x + o) then .inr 4
  else if num p.2.2.2.2.2.2 x p.2.2.2.2.2.1 = none ∧ 8 ≤ mny p.2.2.2.2.2.2 p.2.2.2.2.2.1 then .inr 3
  else .inl (p.1, p.2.1, p.2.2.1, p.2.2.2.1, p.2.2.2.2.1, (p.2.2.2.2.2.1 + 1, un p.2.2.2.2.2.2 p.2.2.2.2.2.1 (2 * x + o)))
/-- as many over as under: the same names -/
def clos (f : Nat → Nat) (n : Nat) : Bool := (List.range 26).all fun x => isn f n (2 * x + 1) == isn f n (2 * x)
def rend (p : PS) : PS ⊕ Nat := if clos p.2.2.2.2.2.2 p.2.2.2.2.2.1 then .inl (4, p.2.1, p.2.2.1, p.2.2.2.1, (p.2.2.2.2.1.1 + 1, un p.2.2.2.2.1.2 p.2.2.2.2.1.1 p.2.2.2.2.2), p.2.2.2.2.2) else .inr 5
def rnum (p : PS) (l : Nat) : PS ⊕ Nat := if l = 59 then .inl (4, p.2) else .inr 1
def rs (p : PS) (l q : Nat) : PS ⊕ Nat :=
  if l = 32 then .inl (if p.1 = 2 then (3, p.2) else p)
  else if p.1 = 0 then (if l = 117 then .inl (1, p.2) else .inr 1)
  else if p.1 = 1 then (if isd l then .inl (2, 1, q, l - 48, p.2.2.2.2) else .inr 1)
  else if p.1 = 2 then (if isd l then (if 3 < p.2.1 + 1 ∨ 99 < 10 * p.2.2.2.1 + (l - 48) then .inr 2 else .inl (2, p.2.1 + 1, p.2.2.1, 10 * p.2.2.2.1 + (l - 48), p.2.2.2.2)) else rnum p l)
  else if p.1 = 3 then rnum p l
  else if p.1 = 4 then (if l = 117 then .inr 3 else if ¬ l = 107 then .inr 1 else if 5 ≤ p.2.2.2.2.1.1 then .inr 3 else .inl (5, p.2.1, p.2.2.1, p.2.2.2.1, p.2.2.2.2.1, (0, p.2.2.2.2.2.2)))
  else if 65 ≤ l ∧ l ≤ 90 then rpass p (l - 65) 1
  else if 97 ≤ l ∧ l ≤ 122 then rpass p (l - 97) 0
  else if l = 59 then rend p else .inr 1
/-- the class's reader holds p -/
def XR (p : PS) (g : HH) : Prop := p.1 ≤ 5 ∧ g 7 0 5 = (p.1 : Int) ∧ (p.1 = 2 → g 7 0 6 = (p.2.1 : Int)) ∧ (p.1 = 2 → p.2.1 ≤ 3) ∧ (p.1 = 2 → g 7 0 7 = (p.2.2.1 : Int)) ∧ g 3 0 2 = (p.2.2.2.1 : Int) ∧ p.2.2.2.1 ≤ 99 ∧ g 3 0 1 = (p.2.2.2.2.1.1 : Int) ∧ p.2.2.2.2.1.1 ≤ 5 ∧ (∀ k, k < p.2.2.2.2.1.1 → g 5 k 2 = (((p.2.2.2.2.1.2 k).1 / 2 : Nat) : Int) ∧ g 5 k 3 = 0 ∧ (∀ i, i < (p.2.2.2.2.1.2 k).1 → g 6 k i = (rn (p.2.2.2.2.1.2 k).2 i : Int)) ∧ RT (p.2.2.2.2.1.2 k).1 (p.2.2.2.2.1.2 k).2 ∧ mny (p.2.2.2.2.1.2 k).2 (p.2.2.2.2.1.2 k).1 ≤ 8 ∧ ∀ i, i < (p.2.2.2.2.1.2 k).1 → (p.2.2.2.2.1.2 k).2 i < 52) ∧
  (p.1 = 5 → NM 1 p.2.2.2.2.2.2 p.2.2.2.2.2.1 g ∧ inj2 p.2.2.2.2.2.2 p.2.2.2.2.2.1 ∧ mny p.2.2.2.2.2.2 p.2.2.2.2.2.1 ≤ 8 ∧ (∀ i, i < p.2.2.2.2.2.1 → p.2.2.2.2.2.2 i < 52) ∧ (∀ i, i < p.2.2.2.2.2.1 → g 9 0 i = (rn p.2.2.2.2.2.2 i : Int)) ∧ p.2.2.2.2.1.1 < 5 ∧
    ∃ U V : Nat, g 7 0 8 = (U : Int) ∧ g 7 0 9 = (V : Int) ∧ U < 2 ^ 26 ∧ V < 2 ^ 26 ∧ (∀ x, U.testBit x = isn p.2.2.2.2.2.2 p.2.2.2.2.2.1 (2 * x + 1)) ∧ (∀ x, V.testBit x = isn p.2.2.2.2.2.2 p.2.2.2.2.2.1 (2 * x)) ∧ pc_ U + pc_ V = p.2.2.2.2.2.1)
def trd : List (Nat × Nat) := [(3, 0), (5, 0), (5, 1), (5, 2), (5, 3), (5, 4), (6, 0), (6, 1), (6, 2), (6, 3), (6, 4), (1, 1), (2, 1), (9, 0)]
def krd : List (Nat × Nat × Nat) := [(7, 0, 5), (7, 0, 6), (7, 0, 7), (7, 0, 8), (7, 0, 9)]
/-- how a letter ends -/
def rv : PS ⊕ Nat → Int
  | .inl _ => 0
  | .inr e => e
def RE (h : HH) (w : PS ⊕ Nat) (f0 : Int) (r : Option AV) (g : HH) : Prop := r = some (vi (rv w)) ∧ Fr trd krd h g ∧ match w with
  | .inl p => XR p g
  | .inr e => (e = 2 → g 7 0 7 = f0) ∧ 0 < e ∧ e ≤ 5
theorem x_isFigure (l : Nat) (h : HH) : SpI mX5_isFigure [vi l] h (b01 (isd l)) h := by
  refine Sp.of rfl kX5_isFigure (Nat.le_of_ble_eq_true rfl) ?_
  have e : b01 (isd l) = if 48 ≤ l ∧ l ≤ 57 then 1 else 0 := by
    unfold b01 isd
    by_cases h1 : 48 ≤ l <;> by_cases h2 : l ≤ 57 <;> simp [h1, h2]
  refine u_iloadn (k := 0) rfl rfl ?_
  refine a_bipush (k := 1) rfl ?_
  refine a_icmp_lt (k := 2) rfl (fun c_3 => ?_) (fun c_3 => ?_)
  · refine a_iconst (k := 8) rfl ?_
    refine a_zreturn (k := 9) rfl rfl (by omega) ?_
    exact ⟨by rw [e]; congr 2; split <;> omega, rfl⟩
  · refine u_iloadn (k := 3) rfl rfl ?_
    refine a_bipush (k := 4) rfl ?_
    refine a_icmp_gt (k := 5) rfl (fun c_9 => ?_) (fun c_9 => ?_)
    · refine a_iconst (k := 8) rfl ?_
      refine a_zreturn (k := 9) rfl rfl (by omega) ?_
      exact ⟨by rw [e]; congr 2; split <;> omega, rfl⟩
    · refine a_iconst (k := 6) rfl ?_
      refine a_goto (k := 7) rfl ?_
      refine a_zreturn (k := 9) rfl rfl (by omega) ?_
      exact ⟨by rw [e]; congr 2; split <;> omega, rfl⟩
theorem b01_t {b : Bool} (h : ¬ b01 b = 0) : b = true := by cases b <;> simp_all [b01]
theorem b01_f {b : Bool} (h : b01 b = 0) : b = false := by cases b <;> simp_all [b01]
theorem XR.other {p : PS} {g : HH} (h : XR p g) {a : Nat} (ha : a ≤ 4 ∧ a ≠ 2) : XR (a, p.2) (put g 7 0 5 (a : Int)) := by
  obtain ⟨h1, h2, h3, h4, h5, h6, h7, h8, h9, h10, h11⟩ := h
  exact ⟨by dsimp only; omega, by rw [put_eq], fun z => absurd z ha.2, fun z => absurd z ha.2, fun z => absurd z ha.2, by simp only [put_apply, Nat.reduceEqDiff, reduceIte, false_and, and_false, true_and, and_true, and_self, if_false, if_true, not_false_eq_true, not_true_eq_false, ne_eq]; exact h6, h7, by simp only [put_apply, Nat.reduceEqDiff, reduceIte, false_and, and_false, true_and, and_true, and_self, if_false, if_true, not_false_eq_true, not_true_eq_false, ne_eq]; exact h8, h9, fun k hk => ⟨by simp only [put_apply, Nat.reduceEqDiff, reduceIte, false_and, and_false, true_and, and_true, and_self, if_false, if_true, not_false_eq_true, not_true_eq_false, ne_eq]; exact (h10 k hk).1, by simp only [put_apply, Nat.reduceEqDiff, reduceIte, false_and, and_false, true_and, and_true, and_self, if_false, if_true, not_false_eq_true, not_true_eq_false, ne_eq]; exact (h10 k hk).2.1, fun i hi => by simp only [put_apply, Nat.reduceEqDiff, reduceIte, false_and, and_false, true_and, and_true, and_self, if_false, if_true, not_false_eq_true, not_true_eq_false, ne_eq]; exact (h10 k hk).2.2.1 i hi, (h10 k hk).2.2.2⟩, fun z => by dsimp only at z; omega⟩
theorem x_numEnd (l : Nat) (p : PS) (h : HH) (hX : XR p h) : Sp mX5_readNumbersEnd [vr 7 0, vi l] h (RE h (rnum p l) (p.2.2.1 : Int)) := by
  refine Sp.of rfl kX5_readNumbersEnd (Nat.le_of_ble_eq_true rfl) ?_
  refine u_iloadn (k := 0) rfl rfl ?_
  refine a_bipush (k := 1) rfl ?_
  refine a_icmp_eq (k := 2) rfl (fun c_3 => ?_) (fun c_3 => ?_)
  · refine u_aloadn (k := 5) rfl rfl ?_
    refine a_iconst (k := 6) rfl ?_
    refine a_puti (k := 7) rfl pRX5_44 rfl rfl ?_
    refine a_iconst (k := 8) rfl ?_
    refine a_ireturn (k := 9) rfl rfl ?_
    unfold rnum; rw [if_pos (by omega)]; exact ⟨rfl, Fr.rf.p2 (by simp [krd]), hX.other (by omega)⟩
  · refine a_iconst (k := 3) rfl ?_
    refine a_ireturn (k := 4) rfl rfl ?_
    unfold rnum; rw [if_neg (by omega)]; exact ⟨rfl, Fr.rf, fun z => by omega, by omega, by omega⟩
theorem x_start (l q : Nat) (p : PS) (h : HH) (hX : XR p h) (hp : p.1 = 0) (hl : l ≠ 32) : Sp mX5_readStart [vr 7 0, vi l] h (RE h (rs p l q) (p.2.2.1 : Int)) := by
  have e : rs p l q = if l = 117 then .inl (1, p.2) else .inr 1 := by simp [rs, hl, hp]
  rw [e]
  refine Sp.of rfl kX5_readStart (Nat.le_of_ble_eq_true rfl) ?_
  refine u_iloadn (k := 0) rfl rfl ?_
  refine a_bipush (k := 1) rfl ?_
  refine a_icmp_eq (k := 2) rfl (fun c_3 => ?_) (fun c_3 => ?_)
  · refine u_aloadn (k := 5) rfl rfl ?_
    refine a_iconst (k := 6) rfl ?_
    refine a_puti (k := 7) rfl pRX5_44 rfl rfl ?_
    refine a_iconst (k := 8) rfl ?_
    refine a_ireturn (k := 9) rfl rfl ?_
    rw [if_pos (by omega)]; exact ⟨rfl, Fr.rf.p2 (by simp [krd]), hX.other (by omega)⟩
  · refine a_iconst (k := 3) rfl ?_
    refine a_ireturn (k := 4) rfl rfl ?_
    rw [if_neg (by omega)]; exact ⟨rfl, Fr.rf, fun z => by omega, by omega, by omega⟩
theorem x_blank (q : Nat) (p : PS) (h : HH) (hX : XR p h) : Sp mX5_readBlank [vr 7 0] h (RE h (rs p 32 q) (p.2.2.1 : Int)) := by
  have e : rs p 32 q = .inl (if p.1 = 2 then (3, p.2) else p) := by simp [rs]
  rw [e]
  have h2 := hX.2.1
  refine Sp.of rfl kX5_readBlank (Nat.le_of_ble_eq_true rfl) ?_
  refine u_aloadn (k := 0) rfl rfl ?_
  refine a_geti (k := 1) rfl fRX5_44 rfl rfl ?_
  refine a_iconst (k := 2) rfl ?_
  rw [h2]
  refine a_icmp_ne (k := 3) rfl (fun c_5 => ?_) (fun c_5 => ?_)
  · refine a_iconst (k := 7) rfl ?_
    refine a_ireturn (k := 8) rfl rfl ?_
    first | (rw [if_pos (by omega)]; exact ⟨rfl, Fr.rf.p2 (by simp [krd]), hX.other (by omega)⟩) | (rw [if_neg (by omega)]; exact ⟨rfl, Fr.rf, hX⟩)
  · refine u_aloadn (k := 4) rfl rfl ?_
    refine a_iconst (k := 5) rfl ?_
    refine a_puti (k := 6) rfl pRX5_44 rfl rfl ?_
    refine a_iconst (k := 7) rfl ?_
    refine a_ireturn (k := 8) rfl rfl ?_
    first | (rw [if_pos (by omega)]; exact ⟨rfl, Fr.rf.p2 (by simp [krd]), hX.other (by omega)⟩) | (rw [if_neg (by omega)]; exact ⟨rfl, Fr.rf, hX⟩)
theorem x_first (l q : Nat) (p : PS) (h : HH) (hX : XR p h) (hp : p.1 = 1) (hl : l ≠ 32) (hl2 : l < 256) (hq : q < 240) : Sp mX5_readFirstFigure [vr 7 0, vi l, vi q] h (RE h (rs p l q) (p.2.2.1 : Int)) := by
  have e : rs p l q = if isd l then .inl (2, 1, q, l - 48, p.2.2.2.2) else .inr 1 := by simp [rs, hl, hp]
  rw [e]
  obtain ⟨h1, h2, h3, h4, h5, h6, h7, h8, h9, h10, h11⟩ := hX
  refine Sp.of rfl kX5_readFirstFigure (Nat.le_of_ble_eq_true rfl) ?_
  refine u_iloadn (k := 0) rfl rfl ?_
  refine i_stat1 (M' := mX5_isFigure) (k := 1) rfl lRX5_81 oX5_isFigure vX5_isFigure ⟨Nat.le_of_ble_eq_true rfl, Nat.le_of_ble_eq_true rfl⟩ rfl (Nat.le_of_ble_eq_true rfl) (x_isFigure l h) ?_
  refine a_if_ne (k := 2) rfl (fun c_4 => ?_) (fun c_4 => ?_)
  · have hd := b01_t c_4
    have hd2 : 48 ≤ l ∧ l ≤ 57 := by simpa [isd] using hd
    refine u_aloadn (k := 5) rfl rfl ?_
    refine a_iconst (k := 6) rfl ?_
    refine a_puti (k := 7) rfl pRX5_44 rfl rfl ?_
    refine u_aloadn (k := 8) rfl rfl ?_
    refine u_iloadn (k := 9) rfl rfl ?_
    refine a_puti (k := 10) rfl pRX5_55 rfl rfl ?_
    refine u_aloadn (k := 11) rfl rfl ?_
    refine a_iconst (k := 12) rfl ?_
    refine a_puti (k := 13) rfl pRX5_85 rfl rfl ?_
    refine u_aloadn (k := 14) rfl rfl ?_
    refine a_getr (k := 15) rfl fRX5_15 rfl rfl rfl ?_
    refine u_iloadn (k := 16) rfl rfl ?_
    refine a_bipush (k := 17) rfl ?_
    refine u_isub (k := 18) rfl (by omega) ?_
    refine a_puti (k := 19) rfl pRX5_41 rfl rfl ?_
    refine a_iconst (k := 20) rfl ?_
    refine a_ireturn (k := 21) rfl rfl ?_
    rw [if_pos hd]
    refine ⟨rfl, (((Fr.rf.p2 (by simp [krd])).p2 (by simp [krd])).p2 (by simp [krd])).p1 (by simp [trd]), ⟨by dsimp only; omega, by simp only [put_apply, Nat.reduceEqDiff, reduceIte, false_and, and_false, true_and, and_true, and_self, if_false, if_true, not_false_eq_true, not_true_eq_false, ne_eq]; rfl, fun _ => by simp only [put_apply, Nat.reduceEqDiff, reduceIte, false_and, and_false, true_and, and_true, and_self, if_false, if_true, not_false_eq_true, not_true_eq_false, ne_eq]; rfl, fun _ => by dsimp only; omega, fun _ => by simp only [put_apply, Nat.reduceEqDiff, reduceIte, false_and, and_false, true_and, and_true, and_self, if_false, if_true, not_false_eq_true, not_true_eq_false, ne_eq], by rw [put_eq]; dsimp only; omega, by dsimp only; omega, by simp only [put_apply, Nat.reduceEqDiff, reduceIte, false_and, and_false, true_and, and_true, and_self, if_false, if_true, not_false_eq_true, not_true_eq_false, ne_eq]; exact h8, h9, fun k hk => ⟨by simp only [put_apply, Nat.reduceEqDiff, reduceIte, false_and, and_false, true_and, and_true, and_self, if_false, if_true, not_false_eq_true, not_true_eq_false, ne_eq]; exact (h10 k hk).1, by simp only [put_apply, Nat.reduceEqDiff, reduceIte, false_and, and_false, true_and, and_true, and_self, if_false, if_true, not_false_eq_true, not_true_eq_false, ne_eq]; exact (h10 k hk).2.1, fun i hi => by simp only [put_apply, Nat.reduceEqDiff, reduceIte, false_and, and_false, true_and, and_true, and_self, if_false, if_true, not_false_eq_true, not_true_eq_false, ne_eq]; exact (h10 k hk).2.2.1 i hi, (h10 k hk).2.2.2⟩, fun z => by dsimp only at z; omega⟩⟩
  · have hd := b01_f c_4
    refine a_iconst (k := 3) rfl ?_
    refine a_ireturn (k := 4) rfl rfl ?_
    rw [if_neg (by rw [hd]; decide)]; exact ⟨rfl, Fr.rf, fun z => by omega, by omega, by omega⟩
theorem x_number (l q : Nat) (p : PS) (h : HH) (hX : XR p h) (hp : p.1 = 2) (hl : l ≠ 32) (hl2 : l < 256) : Sp mX5_readNumber [vr 7 0, vi l] h (RE h (rs p l q) (p.2.2.1 : Int)) := by
  have e : rs p l q = if isd l then (if 3 < p.2.1 + 1 ∨ 99 < 10 * p.2.2.2.1 + (l - 48) then .inr 2 else .inl (2, p.2.1 + 1, p.2.2.1, 10 * p.2.2.2.1 + (l - 48), p.2.2.2.2)) else rnum p l := by simp [rs, hl, hp]
  rw [e]
  have hX' := hX
  obtain ⟨h1, h2, h3, h4, h5, h6, h7, h8, h9, h10, h11⟩ := hX
  have h3 := h3 hp
  have h4 := h4 hp
  have h5 := h5 hp
  refine Sp.of rfl kX5_readNumber (Nat.le_of_ble_eq_true rfl) ?_
  refine u_iloadn (k := 0) rfl rfl ?_
  refine i_stat1 (M' := mX5_isFigure) (k := 1) rfl lRX5_81 oX5_isFigure vX5_isFigure ⟨Nat.le_of_ble_eq_true rfl, Nat.le_of_ble_eq_true rfl⟩ rfl (Nat.le_of_ble_eq_true rfl) (x_isFigure l h) ?_
  refine a_if_ne (k := 2) rfl (fun c_4 => ?_) (fun c_4 => ?_)
  · have hd := b01_t c_4
    have hd2 : 48 ≤ l ∧ l ≤ 57 := by simpa [isd] using hd
    rw [if_pos hd]
    refine u_aloadn (k := 7) rfl rfl ?_
    refine a_dup (k := 8) rfl rfl ?_
    refine a_geti (k := 9) rfl fRX5_85 rfl rfl ?_
    rw [h3]
    refine a_iconst (k := 10) rfl ?_
    refine u_iadd (k := 11) rfl (by omega) ?_
    refine a_puti (k := 12) rfl pRX5_85 rfl rfl ?_
    refine u_aloadn (k := 13) rfl rfl ?_
    refine a_getr (k := 14) rfl fRX5_15 rfl rfl rfl ?_
    refine a_bipush (k := 15) rfl ?_
    refine u_aloadn (k := 16) rfl rfl ?_
    refine a_getr (k := 17) rfl fRX5_15 rfl rfl rfl ?_
    refine a_geti (k := 18) rfl fRX5_41 rfl rfl ?_
    rw [put_ne (by simp), h6]
    refine u_imul (k := 19) rfl (by omega) ?_
    refine u_iloadn (k := 20) rfl rfl ?_
    refine u_iadd (k := 21) rfl (by omega) ?_
    refine a_bipush (k := 22) rfl ?_
    refine u_isub (k := 23) rfl (by omega) ?_
    refine a_puti (k := 24) rfl pRX5_41 rfl rfl ?_
    refine u_aloadn (k := 25) rfl rfl ?_
    refine a_geti (k := 26) rfl fRX5_85 rfl rfl ?_
    rw [put_ne (by simp), put_eq]
    refine a_iconst (k := 27) rfl ?_
    refine a_icmp_gt (k := 28) rfl (fun c_50 => ?_) (fun c_50 => ?_)
    · refine a_iconst (k := 34) rfl ?_
      refine a_goto (k := 35) rfl ?_
      refine a_ireturn (k := 37) rfl rfl ?_
      first | (rw [if_pos (by omega)]; exact ⟨rfl, (Fr.rf.p2 (by simp [krd])).p1 (by simp [trd]), fun _ => by simp only [put_apply, Nat.reduceEqDiff, reduceIte, false_and, and_false, true_and, and_true, and_self, if_false, if_true, not_false_eq_true, not_true_eq_false, ne_eq]; exact h5, by omega, by omega⟩) | (rw [if_neg (by omega)]; exact ⟨rfl, (Fr.rf.p2 (by simp [krd])).p1 (by simp [trd]), ⟨by dsimp only; omega, by simp only [put_apply, Nat.reduceEqDiff, reduceIte, false_and, and_false, true_and, and_true, and_self, if_false, if_true, not_false_eq_true, not_true_eq_false, ne_eq]; rw [h2, hp], fun _ => by simp only [put_apply, Nat.reduceEqDiff, reduceIte, false_and, and_false, true_and, and_true, and_self, if_false, if_true, not_false_eq_true, not_true_eq_false, ne_eq]; omega, fun _ => by dsimp only; omega, fun _ => by simp only [put_apply, Nat.reduceEqDiff, reduceIte, false_and, and_false, true_and, and_true, and_self, if_false, if_true, not_false_eq_true, not_true_eq_false, ne_eq]; exact h5, by rw [put_eq]; dsimp only; omega, by dsimp only; omega, by simp only [put_apply, Nat.reduceEqDiff, reduceIte, false_and, and_false, true_and, and_true, and_self, if_false, if_true, not_false_eq_true, not_true_eq_false, ne_eq]; exact h8, h9, fun k hk => ⟨by simp only [put_apply, Nat.reduceEqDiff, reduceIte, false_and, and_false, true_and, and_true, and_self, if_false, if_true, not_false_eq_true, not_true_eq_false, ne_eq]; exact (h10 k hk).1, by simp only [put_apply, Nat.reduceEqDiff, reduceIte, false_and, and_false, true_and, and_true, and_self, if_false, if_true, not_false_eq_true, not_true_eq_false, ne_eq]; exact (h10 k hk).2.1, fun i hi => by simp only [put_apply, Nat.reduceEqDiff, reduceIte, false_and, and_false, true_and, and_true, and_self, if_false, if_true, not_false_eq_true, not_true_eq_false, ne_eq]; exact (h10 k hk).2.2.1 i hi, (h10 k hk).2.2.2⟩, fun z => by dsimp only at z; omega⟩⟩)
    · refine u_aloadn (k := 29) rfl rfl ?_
      refine a_getr (k := 30) rfl fRX5_15 rfl rfl rfl ?_
      refine a_geti (k := 31) rfl fRX5_41 rfl rfl ?_
      rw [put_eq]
      refine a_bipush (k := 32) rfl ?_
      refine a_icmp_le (k := 33) rfl (fun c_62 => ?_) (fun c_62 => ?_)
      · refine a_iconst (k := 36) rfl ?_
        refine a_ireturn (k := 37) rfl rfl ?_
        first | (rw [if_pos (by omega)]; exact ⟨rfl, (Fr.rf.p2 (by simp [krd])).p1 (by simp [trd]), fun _ => by simp only [put_apply, Nat.reduceEqDiff, reduceIte, false_and, and_false, true_and, and_true, and_self, if_false, if_true, not_false_eq_true, not_true_eq_false, ne_eq]; exact h5, by omega, by omega⟩) | (rw [if_neg (by omega)]; exact ⟨rfl, (Fr.rf.p2 (by simp [krd])).p1 (by simp [trd]), ⟨by dsimp only; omega, by simp only [put_apply, Nat.reduceEqDiff, reduceIte, false_and, and_false, true_and, and_true, and_self, if_false, if_true, not_false_eq_true, not_true_eq_false, ne_eq]; rw [h2, hp], fun _ => by simp only [put_apply, Nat.reduceEqDiff, reduceIte, false_and, and_false, true_and, and_true, and_self, if_false, if_true, not_false_eq_true, not_true_eq_false, ne_eq]; omega, fun _ => by dsimp only; omega, fun _ => by simp only [put_apply, Nat.reduceEqDiff, reduceIte, false_and, and_false, true_and, and_true, and_self, if_false, if_true, not_false_eq_true, not_true_eq_false, ne_eq]; exact h5, by rw [put_eq]; dsimp only; omega, by dsimp only; omega, by simp only [put_apply, Nat.reduceEqDiff, reduceIte, false_and, and_false, true_and, and_true, and_self, if_false, if_true, not_false_eq_true, not_true_eq_false, ne_eq]; exact h8, h9, fun k hk => ⟨by simp only [put_apply, Nat.reduceEqDiff, reduceIte, false_and, and_false, true_and, and_true, and_self, if_false, if_true, not_false_eq_true, not_true_eq_false, ne_eq]; exact (h10 k hk).1, by simp only [put_apply, Nat.reduceEqDiff, reduceIte, false_and, and_false, true_and, and_true, and_self, if_false, if_true, not_false_eq_true, not_true_eq_false, ne_eq]; exact (h10 k hk).2.1, fun i hi => by simp only [put_apply, Nat.reduceEqDiff, reduceIte, false_and, and_false, true_and, and_true, and_self, if_false, if_true, not_false_eq_true, not_true_eq_false, ne_eq]; exact (h10 k hk).2.2.1 i hi, (h10 k hk).2.2.2⟩, fun z => by dsimp only at z; omega⟩⟩)
      · refine a_iconst (k := 34) rfl ?_
        refine a_goto (k := 35) rfl ?_
        refine a_ireturn (k := 37) rfl rfl ?_
        first | (rw [if_pos (by omega)]; exact ⟨rfl, (Fr.rf.p2 (by simp [krd])).p1 (by simp [trd]), fun _ => by simp only [put_apply, Nat.reduceEqDiff, reduceIte, false_and, and_false, true_and, and_true, and_self, if_false, if_true, not_false_eq_true, not_true_eq_false, ne_eq]; exact h5, by omega, by omega⟩) | (rw [if_neg (by omega)]; exact ⟨rfl, (Fr.rf.p2 (by simp [krd])).p1 (by simp [trd]), ⟨by dsimp only; omega, by simp only [put_apply, Nat.reduceEqDiff, reduceIte, false_and, and_false, true_and, and_true, and_self, if_false, if_true, not_false_eq_true, not_true_eq_false, ne_eq]; rw [h2, hp], fun _ => by simp only [put_apply, Nat.reduceEqDiff, reduceIte, false_and, and_false, true_and, and_true, and_self, if_false, if_true, not_false_eq_true, not_true_eq_false, ne_eq]; omega, fun _ => by dsimp only; omega, fun _ => by simp only [put_apply, Nat.reduceEqDiff, reduceIte, false_and, and_false, true_and, and_true, and_self, if_false, if_true, not_false_eq_true, not_true_eq_false, ne_eq]; exact h5, by rw [put_eq]; dsimp only; omega, by dsimp only; omega, by simp only [put_apply, Nat.reduceEqDiff, reduceIte, false_and, and_false, true_and, and_true, and_self, if_false, if_true, not_false_eq_true, not_true_eq_false, ne_eq]; exact h8, h9, fun k hk => ⟨by simp only [put_apply, Nat.reduceEqDiff, reduceIte, false_and, and_false, true_and, and_true, and_self, if_false, if_true, not_false_eq_true, not_true_eq_false, ne_eq]; exact (h10 k hk).1, by simp only [put_apply, Nat.reduceEqDiff, reduceIte, false_and, and_false, true_and, and_true, and_self, if_false, if_true, not_false_eq_true, not_true_eq_false, ne_eq]; exact (h10 k hk).2.1, fun i hi => by simp only [put_apply, Nat.reduceEqDiff, reduceIte, false_and, and_false, true_and, and_true, and_self, if_false, if_true, not_false_eq_true, not_true_eq_false, ne_eq]; exact (h10 k hk).2.2.1 i hi, (h10 k hk).2.2.2⟩, fun z => by dsimp only at z; omega⟩⟩)
  · have hd := b01_f c_4
    rw [if_neg (by rw [hd]; decide)]
    refine u_aloadn (k := 3) rfl rfl ?_
    refine u_iloadn (k := 4) rfl rfl ?_
    refine ui_virt1 (M' := mX5_readNumbersEnd) (k := 5) rfl lRX5_72 oX5_readNumbersEnd vX5_readNumbersEnd ⟨Nat.le_of_ble_eq_true rfl, Nat.le_of_ble_eq_true rfl⟩ rfl rfl (Nat.le_of_ble_eq_true rfl) (x_numEnd l p h hX') (by intro r g hp; exact ⟨_, hp.1⟩) (fun r g1 hg1 => ?_)
    refine a_ireturn (k := 6) rfl rfl ?_
    exact hg1
theorem x_clause (l q : Nat) (p : PS) (h : HH) (hX : XR p h) (hp : p.1 = 4) (hl : l ≠ 32) : Sp mX5_readClause [vr 7 0, vi l] h (RE h (rs p l q) (p.2.2.1 : Int)) := by
  have e : rs p l q = (if l = 117 then .inr 3 else if ¬ l = 107 then .inr 1 else if 5 ≤ p.2.2.2.2.1.1 then .inr 3 else .inl (5, p.2.1, p.2.2.1, p.2.2.2.1, p.2.2.2.2.1, (0, p.2.2.2.2.2.2))) := by simp [rs, hl, hp]
  rw [e]
  obtain ⟨h1, h2, h3, h4, h5, h6, h7, h8, h9, h10, h11⟩ := hX
  refine Sp.of rfl kX5_readClause (Nat.le_of_ble_eq_true rfl) ?_
  refine u_iloadn (k := 0) rfl rfl ?_
  refine a_bipush (k := 1) rfl ?_
  refine a_icmp_ne (k := 2) rfl (fun c_3 => ?_) (fun c_3 => ?_)
  · refine u_iloadn (k := 5) rfl rfl ?_
    refine a_bipush (k := 6) rfl ?_
    refine a_icmp_eq (k := 7) rfl (fun c_11 => ?_) (fun c_11 => ?_)
    · refine u_aloadn (k := 10) rfl rfl ?_
      refine a_getr (k := 11) rfl fRX5_15 rfl rfl rfl ?_
      refine a_geti (k := 12) rfl fRX5_36 rfl rfl ?_
      rw [h8]
      refine a_iconst (k := 13) rfl ?_
      refine a_icmp_lt (k := 14) rfl (fun c_24 => ?_) (fun c_24 => ?_)
      · refine u_aloadn (k := 17) rfl rfl ?_
        refine a_iconst (k := 18) rfl ?_
        refine a_puti (k := 19) rfl pRX5_44 rfl rfl ?_
        refine u_aloadn (k := 20) rfl rfl ?_
        refine a_getr (k := 21) rfl fRX5_22 rfl rfl rfl ?_
        refine v_virt0 (M' := mX4_begin) (k := 22) rfl lRX5_88 oX4_begin vX4_begin ⟨Nat.le_of_ble_eq_true rfl, Nat.le_of_ble_eq_true rfl⟩ rfl rfl (Nat.le_of_ble_eq_true rfl) (x_begin 1 _) ?_
        refine u_aloadn (k := 23) rfl rfl ?_
        refine a_iconst (k := 24) rfl ?_
        refine a_puti (k := 25) rfl pRX5_91 rfl rfl ?_
        refine u_aloadn (k := 26) rfl rfl ?_
        refine a_iconst (k := 27) rfl ?_
        refine a_puti (k := 28) rfl pRX5_94 rfl rfl ?_
        refine a_iconst (k := 29) rfl ?_
        refine a_ireturn (k := 30) rfl rfl ?_
        rw [if_neg (by omega), if_neg (by omega), if_neg (by omega)]
        refine ⟨rfl, ((((Fr.rf.p2 (by simp [krd])).p1 (by simp [trd])).p1 (by simp [trd])).p2 (by simp [krd])).p2 (by simp [krd]), ⟨by dsimp only; omega, by simp only [put_apply, Nat.reduceEqDiff, reduceIte, false_and, and_false, true_and, and_true, and_self, if_false, if_true, not_false_eq_true, not_true_eq_false, ne_eq]; rfl, fun z => by simp at z, fun z => by simp at z, fun z => by simp at z, by simp only [put_apply, Nat.reduceEqDiff, reduceIte, false_and, and_false, true_and, and_true, and_self, if_false, if_true, not_false_eq_true, not_true_eq_false, ne_eq]; exact h6, h7, by simp only [put_apply, Nat.reduceEqDiff, reduceIte, false_and, and_false, true_and, and_true, and_self, if_false, if_true, not_false_eq_true, not_true_eq_false, ne_eq]; exact h8, h9, fun k hk => ⟨by simp only [put_apply, Nat.reduceEqDiff, reduceIte, false_and, and_false, true_and, and_true, and_self, if_false, if_true, not_false_eq_true, not_true_eq_false, ne_eq]; exact (h10 k hk).1, by simp only [put_apply, Nat.reduceEqDiff, reduceIte, false_and, and_false, true_and, and_true, and_self, if_false, if_true, not_false_eq_true, not_true_eq_false, ne_eq]; exact (h10 k hk).2.1, fun i hi => by simp only [put_apply, Nat.reduceEqDiff, reduceIte, false_and, and_false, true_and, and_true, and_self, if_false, if_true, not_false_eq_true, not_true_eq_false, ne_eq]; exact (h10 k hk).2.2.1 i hi, (h10 k hk).2.2.2⟩, fun _ => ⟨NM.zero (by simp only [put_apply, Nat.reduceEqDiff, reduceIte, false_and, and_false, true_and, and_true, and_self, if_false, if_true, not_false_eq_true, not_true_eq_false, ne_eq]) (by simp only [put_apply, Nat.reduceEqDiff, reduceIte, false_and, and_false, true_and, and_true, and_self, if_false, if_true, not_false_eq_true, not_true_eq_false, ne_eq]), fun i k hi => absurd hi (Nat.not_lt_zero i), by dsimp only [mny]; omega, fun i hi => absurd hi (Nat.not_lt_zero i), fun i hi => absurd hi (Nat.not_lt_zero i), by dsimp only; omega, 0, 0, by simp only [put_apply, Nat.reduceEqDiff, reduceIte, false_and, and_false, true_and, and_true, and_self, if_false, if_true, not_false_eq_true, not_true_eq_false, ne_eq]; rfl, by simp only [put_apply, Nat.reduceEqDiff, reduceIte, false_and, and_false, true_and, and_true, and_self, if_false, if_true, not_false_eq_true, not_true_eq_false, ne_eq]; rfl, by omega, by omega, fun x => by simp [isn], fun x => by simp [isn], by dsimp only; decide⟩⟩⟩
      · refine a_iconst (k := 15) rfl ?_
        refine a_ireturn (k := 16) rfl rfl ?_
        rw [if_neg (by omega), if_neg (by omega), if_pos (by omega)]; exact ⟨rfl, Fr.rf, fun z => by omega, by omega, by omega⟩
    · refine a_iconst (k := 8) rfl ?_
      refine a_ireturn (k := 9) rfl rfl ?_
      rw [if_neg (by omega), if_pos (by omega)]; exact ⟨rfl, Fr.rf, fun z => by omega, by omega, by omega⟩
  · refine a_iconst (k := 3) rfl ?_
    refine a_ireturn (k := 4) rfl rfl ?_
    rw [if_pos (by omega)]; exact ⟨rfl, Fr.rf, fun z => by omega, by omega, by omega⟩
/-! a pass more -/
theorem nw_cong {f f' : Nat → Nat} {n : Nat} (h : ∀ i, i < n + 1 → f i = f' i) : nw f n = nw f' n := by
  have : nw f n = true ↔ nw f' n = true := by
    rw [nw_iff, nw_iff, h n (by omega)]
    exact ⟨fun q r hr => by rw [← h r (by omega)]; exact q r hr, fun q r hr => by rw [h r (by omega)]; exact q r hr⟩
  cases h1 : nw f n <;> cases h2 : nw f' n <;> simp_all
theorem mny_cong {f f' : Nat → Nat} : ∀ {n : Nat}, (∀ i, i < n → f i = f' i) → mny f n = mny f' n
  | 0, _ => rfl
  | n + 1, h => by
    unfold mny
    rw [mny_cong (fun i hi => h i (by omega)), nw_cong h]
theorem num_cong {f f' : Nat → Nat} (x : Nat) : ∀ {n : Nat}, (∀ i, i < n → f i = f' i) → num f x n = num f' x n
  | 0, _ => rfl
  | n + 1, h => by
    unfold num
    rw [num_cong x (fun i hi => h i (by omega)), mny_cong (fun i hi => h i (by omega)), h n (by omega)]
theorem cr_cong {f f' : Nat → Nat} {n : Nat} (h : ∀ i, i < n + 1 → f i = f' i) : cr f n = cr f' n := by
  unfold cr
  rw [h n (by omega), num_cong _ h]
theorem rn_cong {f f' : Nat → Nat} {n : Nat} (h : ∀ i, i < n + 1 → f i = f' i) : rn f n = rn f' n := by
  unfold rn
  rw [cr_cong h, h n (by omega)]
theorem un_eq {α : Type} (F : Nat → α) (k : Nat) (v : α) : un F k v k = v := if_pos rfl
theorem un_ne {α : Type} (F : Nat → α) {k j : Nat} (v : α) (h : j ≠ k) : un F k v j = F j := if_neg h
theorem pct_or {a x : Nat} (h : a.testBit x = false) : ∀ k, pct (a ||| 2 ^ x) k = pct a k + (if x < k then 1 else 0)
  | 0 => rfl
  | k + 1 => by
    unfold pct
    rw [pct_or h k, Nat.testBit_or, Nat.testBit_two_pow]
    by_cases he : x = k
    · subst he
      rw [h]; simp
    · by_cases hk : x < k
      · simp [he, hk, show x < k + 1 by omega]; omega
      · simp [he, hk, show ¬ x < k + 1 by omega]
theorem isn_un (f : Nat → Nat) (n v w : Nat) : isn (un f n v) (n + 1) w = (isn f n w || decide (w = v)) := by
  have : isn (un f n v) (n + 1) w = true ↔ (isn f n w || decide (w = v)) = true := by
    rw [Bool.or_eq_true, isn_iff, isn_iff, decide_eq_true_iff]
    constructor
    · rintro ⟨i, hi, he⟩
      by_cases hn : i = n
      · subst hn; rw [un_eq] at he; exact Or.inr he.symm
      · rw [un_ne _ _ hn] at he; exact Or.inl ⟨i, by omega, he⟩
    · rintro (⟨i, hi, he⟩ | he)
      · exact ⟨i, by omega, by rw [un_ne _ _ (by omega)]; exact he⟩
      · exact ⟨n, by omega, by rw [un_eq]; exact he.symm⟩
  cases h1 : isn (un f n v) (n + 1) w <;> cases h2 : (isn f n w || decide (w = v)) <;> simp_all
theorem XR.more {pl fg ff gr K n : Nat} {T : Nat → Nat × (Nat → Nat)} {f f' : Nat → Nat} {h g : HH} (hX : XR (pl, fg, ff, gr, (K, T), (n, f)) h) (hp : pl = 5) (hF : Fr [(1, 1), (2, 1), (9, 0)] [(7, 0, 8), (7, 0, 9)] h g)
    (hN : NM 1 f' (n + 1) g) (hi : inj2 f' (n + 1)) (h8 : mny f' (n + 1) ≤ 8) (h52 : ∀ i, i < n + 1 → f' i < 52) (hr : ∀ i, i < n + 1 → g 9 0 i = (rn f' i : Int))
    (hUV : ∃ U V : Nat, g 7 0 8 = (U : Int) ∧ g 7 0 9 = (V : Int) ∧ U < 2 ^ 26 ∧ V < 2 ^ 26 ∧ (∀ x, U.testBit x = isn f' (n + 1) (2 * x + 1)) ∧ (∀ x, V.testBit x = isn f' (n + 1) (2 * x)) ∧ pc_ U + pc_ V = n + 1) : XR (pl, fg, ff, gr, (K, T), (n + 1, f')) g := by
  obtain ⟨h1, h2, h3, h4, h5, h6, h7, h8', h9, h10, h11⟩ := hX
  have k1 : ∀ k, k ≠ 8 → k ≠ 9 → g 7 0 k = h 7 0 k := fun k a b => hF 7 0 k (by simp) (by simp [a, b])
  refine ⟨h1, by rw [k1 5 (by omega) (by omega)]; exact h2, fun z => by simp [hp] at z, fun z => by simp [hp] at z, fun z => by simp [hp] at z, by rw [hF 3 0 2 (by simp) (by simp)]; exact h6, h7, by rw [hF 3 0 1 (by simp) (by simp)]; exact h8', h9, fun k hk => ⟨by rw [hF 5 k 2 (by simp) (by simp)]; exact (h10 k hk).1, by rw [hF 5 k 3 (by simp) (by simp)]; exact (h10 k hk).2.1, fun i hi => by rw [hF 6 k i (by simp) (by simp)]; exact (h10 k hk).2.2.1 i hi, (h10 k hk).2.2.2⟩, fun _ => ⟨hN, hi, h8, h52, hr, (h11 hp).2.2.2.2.2.1, hUV⟩⟩
theorem x_pass (x o q : Nat) (p : PS) (h : HH) (hX : XR p h) (hp : p.1 = 5) (hx : x < 26) (ho : o ≤ 1) : Sp mX5_readPass [vr 7 0, vi x, vi o] h (RE h (rpass p x o) (p.2.2.1 : Int)) := by
  obtain ⟨pl, fg, ff, gr, ⟨K, T⟩, ⟨n, f⟩⟩ := p
  have hX' := hX
  obtain ⟨h1, h2, h3, h4, h5, h6, h7, h8, h9, h10, h11⟩ := hX
  obtain ⟨hN, hinj, hm8, h52, hrow, hlt, U, V, hU, hV, hU2, hV2, hUb, hVb, hpc⟩ := h11 hp
  dsimp only at *
  have hpx : 2 ^ x < 2 ^ 26 := Nat.pow_lt_pow_right (by omega) hx
  have hff : ∀ i, i < n → f i = un f n (2 * x + o) i := fun i hi => (un_ne _ _ (by omega)).symm
  have hfn : un f n (2 * x + o) n / 2 = x := by rw [un_eq]; omega
  have hfm : un f n (2 * x + o) n % 2 = o := by rw [un_eq]; omega
  have hn16 : n ≤ 16 := by have := len_mny hinj; omega
  refine Sp.of rfl kX5_readPass (Nat.le_of_ble_eq_true rfl) ?_
  have T49 : isn f n (2 * x + o) = false → ¬ (num f x n = none ∧ 8 ≤ mny f n) → AW mX5_readPass (RE h (rpass (pl, fg, ff, gr, (K, T), (n, f)) x o) (ff : Int)) 49 [(0, vr 7 0), (1, vi x), (2, vi o)] [] h := by
    intro hni hnm
    have e : rpass (pl, fg, ff, gr, (K, T), (n, f)) x o = .inl (pl, fg, ff, gr, (K, T), (n + 1, un f n (2 * x + o))) := by
      unfold rpass
      dsimp only
      rw [hni, if_neg (by decide), if_neg hnm]
    rw [e]
    have hi' : inj2 (un f n (2 * x + o)) (n + 1) := by
      have hno : ∀ i, i < n → f i ≠ 2 * x + o := fun i hi he => by
        have := isn_iff.mpr ⟨i, hi, he⟩
        rw [hni] at this
        cases this
      intro i k hi hk he
      by_cases hin : i = n
      · by_cases hkn : k = n
        · omega
        · subst hin; rw [un_eq, un_ne _ _ hkn] at he; exact absurd he.symm (hno k (by omega))
      · by_cases hkn : k = n
        · subst hkn; rw [un_eq, un_ne _ _ hin] at he; exact absurd he (hno i (by omega))
        · rw [un_ne _ _ hin, un_ne _ _ hkn] at he; exact hinj i k (by omega) (by omega) he
    have hm' : mny (un f n (2 * x + o)) (n + 1) ≤ 8 := by
      have e1 := mny_cong hff
      have e2 := num_cong x hff
      cases hc : num (un f n (2 * x + o)) (un f n (2 * x + o) n / 2) n with
      | some v => rw [mny_old hc]; omega
      | none =>
        rw [mny_new hc, ← e1]
        rw [hfn] at hc
        have : ¬ 8 ≤ mny f n := fun z => hnm ⟨by rw [e2]; exact hc, z⟩
        omega
    have hn15 : n < 16 := by have := len_mny hi'; omega
    have hN' : NM 1 (un f n (2 * x + o)) n h := hN.cong (fun y => num_cong y hff) (mny_cong hff)
    have hno := x_numberOf 1 _ n h hN' (by rw [hfn]; exact hx) (by omega)
    rw [hfn] at hno
    have T97 : ∀ g, NM 1 (un f n (2 * x + o)) (n + 1) g → Fr [(1, 1), (2, 1), (9, 0)] [(7, 0, 8), (7, 0, 9)] h g → g 7 0 8 = (U : Int) → g 7 0 9 = (V : Int) → (∀ i, i < n + 1 → g 9 0 i = (rn (un f n (2 * x + o)) i : Int)) → AW mX5_readPass (RE h (.inl (pl, fg, ff, gr, (K, T), (n + 1, un f n (2 * x + o)))) (ff : Int)) 97 [(3, vi n), (0, vr 7 0), (1, vi x), (2, vi o)] [] g := by
      intro g hNg hF gU gV gr'
      have h52' : ∀ i, i < n + 1 → un f n (2 * x + o) i < 52 := fun i hi => by
        by_cases hin : i = n
        · subst hin; rw [un_eq]; omega
        · rw [un_ne _ _ hin]; exact h52 i (by omega)
      refine u_iloadn (k := 51) rfl rfl ?_
      refine a_if_eq (k := 52) rfl (fun c_98 => ?_) (fun c_98 => ?_)
      · have ho0 : o = 0 := by omega
        subst ho0
        refine u_aloadn (k := 62) rfl rfl ?_
        refine a_dup (k := 63) rfl rfl ?_
        refine a_geti (k := 64) rfl fRX5_94 rfl rfl ?_
        refine a_iconst (k := 65) rfl ?_
        refine u_iloadn (k := 66) rfl rfl ?_
        refine a_ishl (k := 67) rfl ?_
        rw [gV, shl1 (by omega)]
        refine a_ior (k := 68) rfl ?_
        rw [ior_nat (by omega) (by omega)]
        refine a_puti (k := 69) rfl pRX5_94 rfl rfl ?_
        refine a_iconst (k := 70) rfl ?_
        refine a_ireturn (k := 71) rfl rfl ?_
        first
          | (have hb : U.testBit x = false := by rw [hUb]; exact hni
             exact ⟨rfl, (hF.p2 (by simp)).mono (by simp [trd]) (by simp [krd]), hX'.more hp (hF.p2 (by simp)) (hNg.keep (fun k => by simp only [put_apply, Nat.reduceEqDiff, reduceIte, false_and, and_false, true_and, and_true, and_self, if_false, if_true, not_false_eq_true, not_true_eq_false, ne_eq]) (fun k => by simp only [put_apply, Nat.reduceEqDiff, reduceIte, false_and, and_false, true_and, and_true, and_self, if_false, if_true, not_false_eq_true, not_true_eq_false, ne_eq])) hi' hm' h52' (fun i hi => by simp only [put_apply, Nat.reduceEqDiff, reduceIte, false_and, and_false, true_and, and_true, and_self, if_false, if_true, not_false_eq_true, not_true_eq_false, ne_eq]; exact gr' i hi) ⟨U ||| 2 ^ x, V, by rw [put_eq], by simp only [put_apply, Nat.reduceEqDiff, reduceIte, false_and, and_false, true_and, and_true, and_self, if_false, if_true, not_false_eq_true, not_true_eq_false, ne_eq]; exact gV, Nat.or_lt_two_pow hU2 hpx, hV2, fun y => by rw [Nat.testBit_or, Nat.testBit_two_pow, hUb, isn_un]; congr 1; simp; omega, fun y => by rw [hVb, isn_un]; simp; omega, by unfold pc_ at *; rw [pct_or hb, if_pos (by omega)]; omega⟩⟩)
          | (have hb : V.testBit x = false := by rw [hVb]; exact hni
             exact ⟨rfl, (hF.p2 (by simp)).mono (by simp [trd]) (by simp [krd]), hX'.more hp (hF.p2 (by simp)) (hNg.keep (fun k => by simp only [put_apply, Nat.reduceEqDiff, reduceIte, false_and, and_false, true_and, and_true, and_self, if_false, if_true, not_false_eq_true, not_true_eq_false, ne_eq]) (fun k => by simp only [put_apply, Nat.reduceEqDiff, reduceIte, false_and, and_false, true_and, and_true, and_self, if_false, if_true, not_false_eq_true, not_true_eq_false, ne_eq])) hi' hm' h52' (fun i hi => by simp only [put_apply, Nat.reduceEqDiff, reduceIte, false_and, and_false, true_and, and_true, and_self, if_false, if_true, not_false_eq_true, not_true_eq_false, ne_eq]; exact gr' i hi) ⟨U, V ||| 2 ^ x, by simp only [put_apply, Nat.reduceEqDiff, reduceIte, false_and, and_false, true_and, and_true, and_self, if_false, if_true, not_false_eq_true, not_true_eq_false, ne_eq]; exact gU, by rw [put_eq], hU2, Nat.or_lt_two_pow hV2 hpx, fun y => by rw [hUb, isn_un]; simp; omega, fun y => by rw [Nat.testBit_or, Nat.testBit_two_pow, hVb, isn_un]; congr 1; simp; omega, by unfold pc_ at *; rw [pct_or hb, if_pos (by omega)]; omega⟩⟩)
      · have ho1 : o = 1 := by omega
        subst ho1
        refine u_aloadn (k := 53) rfl rfl ?_
        refine a_dup (k := 54) rfl rfl ?_
        refine a_geti (k := 55) rfl fRX5_91 rfl rfl ?_
        refine a_iconst (k := 56) rfl ?_
        refine u_iloadn (k := 57) rfl rfl ?_
        refine a_ishl (k := 58) rfl ?_
        rw [gU, shl1 (by omega)]
        refine a_ior (k := 59) rfl ?_
        rw [ior_nat (by omega) (by omega)]
        refine a_puti (k := 60) rfl pRX5_91 rfl rfl ?_
        refine a_goto (k := 61) rfl ?_
        refine a_iconst (k := 70) rfl ?_
        refine a_ireturn (k := 71) rfl rfl ?_
        first
          | (have hb : U.testBit x = false := by rw [hUb]; exact hni
             exact ⟨rfl, (hF.p2 (by simp)).mono (by simp [trd]) (by simp [krd]), hX'.more hp (hF.p2 (by simp)) (hNg.keep (fun k => by simp only [put_apply, Nat.reduceEqDiff, reduceIte, false_and, and_false, true_and, and_true, and_self, if_false, if_true, not_false_eq_true, not_true_eq_false, ne_eq]) (fun k => by simp only [put_apply, Nat.reduceEqDiff, reduceIte, false_and, and_false, true_and, and_true, and_self, if_false, if_true, not_false_eq_true, not_true_eq_false, ne_eq])) hi' hm' h52' (fun i hi => by simp only [put_apply, Nat.reduceEqDiff, reduceIte, false_and, and_false, true_and, and_true, and_self, if_false, if_true, not_false_eq_true, not_true_eq_false, ne_eq]; exact gr' i hi) ⟨U ||| 2 ^ x, V, by rw [put_eq], by simp only [put_apply, Nat.reduceEqDiff, reduceIte, false_and, and_false, true_and, and_true, and_self, if_false, if_true, not_false_eq_true, not_true_eq_false, ne_eq]; exact gV, Nat.or_lt_two_pow hU2 hpx, hV2, fun y => by rw [Nat.testBit_or, Nat.testBit_two_pow, hUb, isn_un]; congr 1; simp; omega, fun y => by rw [hVb, isn_un]; simp; omega, by unfold pc_ at *; rw [pct_or hb, if_pos (by omega)]; omega⟩⟩)
          | (have hb : V.testBit x = false := by rw [hVb]; exact hni
             exact ⟨rfl, (hF.p2 (by simp)).mono (by simp [trd]) (by simp [krd]), hX'.more hp (hF.p2 (by simp)) (hNg.keep (fun k => by simp only [put_apply, Nat.reduceEqDiff, reduceIte, false_and, and_false, true_and, and_true, and_self, if_false, if_true, not_false_eq_true, not_true_eq_false, ne_eq]) (fun k => by simp only [put_apply, Nat.reduceEqDiff, reduceIte, false_and, and_false, true_and, and_true, and_self, if_false, if_true, not_false_eq_true, not_true_eq_false, ne_eq])) hi' hm' h52' (fun i hi => by simp only [put_apply, Nat.reduceEqDiff, reduceIte, false_and, and_false, true_and, and_true, and_self, if_false, if_true, not_false_eq_true, not_true_eq_false, ne_eq]; exact gr' i hi) ⟨U, V ||| 2 ^ x, by simp only [put_apply, Nat.reduceEqDiff, reduceIte, false_and, and_false, true_and, and_true, and_self, if_false, if_true, not_false_eq_true, not_true_eq_false, ne_eq]; exact gU, by rw [put_eq], hU2, Nat.or_lt_two_pow hV2 hpx, fun y => by rw [hUb, isn_un]; simp; omega, fun y => by rw [Nat.testBit_or, Nat.testBit_two_pow, hVb, isn_un]; congr 1; simp; omega, by unfold pc_ at *; rw [pct_or hb, if_pos (by omega)]; omega⟩⟩)
    have hrn : ∀ i, i < n → rn (un f n (2 * x + o)) i = rn f i := fun i hi => (rn_cong (fun k hk => hff k (by omega))).symm
    have hrl : ((rn (un f n (2 * x + o)) n : Nat) : Int) = 2 * (cr (un f n (2 * x + o)) n : Int) + o := by
      unfold rn
      rw [hfm]
      omega
    have hcrl : cr (un f n (2 * x + o)) n < 17 := by have := cr_lt (f := un f n (2 * x + o)) n; omega
    refine u_aloadn (k := 24) rfl rfl ?_
    refine a_geti (k := 25) rfl fRX5_91 rfl rfl ?_
    rw [hU]
    refine i_stat1 (M' := mJ6_bitCount_0f7a4) (k := 26) rfl lRX5_114 oJ6_bitCount_0f7a4 vJ6_bitCount_0f7a4 ⟨Nat.le_of_ble_eq_true rfl, Nat.le_of_ble_eq_true rfl⟩ rfl (Nat.le_of_ble_eq_true rfl) (j_bitCount U h (by omega)) ?_
    refine u_aloadn (k := 27) rfl rfl ?_
    refine a_geti (k := 28) rfl fRX5_94 rfl rfl ?_
    rw [hV]
    refine i_stat1 (M' := mJ6_bitCount_0f7a4) (k := 29) rfl lRX5_114 oJ6_bitCount_0f7a4 vJ6_bitCount_0f7a4 ⟨Nat.le_of_ble_eq_true rfl, Nat.le_of_ble_eq_true rfl⟩ rfl (Nat.le_of_ble_eq_true rfl) (j_bitCount V h (by omega)) ?_
    refine u_iadd (k := 30) rfl (by omega) ?_
    refine a_istoren (k := 31) (lv' := [(3, _), (0, _), (1, _), (2, _)]) rfl (Nat.le_of_ble_eq_true rfl) rfl ?_
    rw [show ((pc_ U : Int) + (pc_ V : Int)) = (n : Int) by omega]
    refine u_iloadn (k := 32) rfl rfl ?_
    refine a_bipush (k := 33) rfl ?_
    refine a_icmp_ge (k := 34) rfl (fun c_68 => ?_) (fun c_68 => ?_)
    · omega
    · refine u_aloadn (k := 35) rfl rfl ?_
      refine a_getr (k := 36) rfl fRX5_26 rfl rfl rfl ?_
      refine u_iloadn (k := 37) rfl rfl ?_
      refine a_iconst (k := 38) rfl ?_
      refine u_aloadn (k := 39) rfl rfl ?_
      refine a_getr (k := 40) rfl fRX5_22 rfl rfl rfl ?_
      refine u_iloadn (k := 41) rfl rfl ?_
      refine ui_virt1 (M' := mX4_numberOf) (k := 42) rfl lRX5_119 oX4_numberOf vX4_numberOf ⟨Nat.le_of_ble_eq_true rfl, Nat.le_of_ble_eq_true rfl⟩ rfl rfl (Nat.le_of_ble_eq_true rfl) (hno) (by intro r g hp; exact ⟨_, hp.1⟩) (fun r g1 hg1 => ?_)
      obtain ⟨hr1, hN1, hF1⟩ := hg1; cases hr1
      refine u_imul (k := 43) rfl (by omega) ?_
      refine u_iloadn (k := 44) rfl rfl ?_
      refine a_if_eq (k := 45) rfl (fun c_87 => ?_) (fun c_87 => ?_)
      · refine a_iconst (k := 48) rfl ?_
        refine u_iadd (k := 49) rfl (by omega) ?_
        refine u_iast (k := 50) rfl rfl rfl (by omega) ?_
        refine T97 _ (hN1.keep (fun k => by simp only [put_apply, Nat.reduceEqDiff, reduceIte, false_and, and_false, true_and, and_true, and_self, if_false, if_true, not_false_eq_true, not_true_eq_false, ne_eq]) (fun k => by simp only [put_apply, Nat.reduceEqDiff, reduceIte, false_and, and_false, true_and, and_true, and_self, if_false, if_true, not_false_eq_true, not_true_eq_false, ne_eq])) ((hF1.mono (by simp) (by simp)).p1 (by simp)) (by simp only [put_apply, Nat.reduceEqDiff, reduceIte, false_and, and_false, true_and, and_true, and_self, if_false, if_true, not_false_eq_true, not_true_eq_false, ne_eq]; rw [hF1 7 0 8 (by simp) (by simp)]; exact hU) (by simp only [put_apply, Nat.reduceEqDiff, reduceIte, false_and, and_false, true_and, and_true, and_self, if_false, if_true, not_false_eq_true, not_true_eq_false, ne_eq]; rw [hF1 7 0 9 (by simp) (by simp)]; exact hV) (fun i hi => ?_)
        by_cases hin : i = n
        · subst hin; rw [put_eq]; omega
        · rw [put_ne (by simp [hin]), hF1 9 0 i (by simp) (by simp), hrow i (by omega), hrn i (by omega)]
      · refine a_iconst (k := 46) rfl ?_
        refine a_goto (k := 47) rfl ?_
        refine u_iadd (k := 49) rfl (by omega) ?_
        refine u_iast (k := 50) rfl rfl rfl (by omega) ?_
        refine T97 _ (hN1.keep (fun k => by simp only [put_apply, Nat.reduceEqDiff, reduceIte, false_and, and_false, true_and, and_true, and_self, if_false, if_true, not_false_eq_true, not_true_eq_false, ne_eq]) (fun k => by simp only [put_apply, Nat.reduceEqDiff, reduceIte, false_and, and_false, true_and, and_true, and_self, if_false, if_true, not_false_eq_true, not_true_eq_false, ne_eq])) ((hF1.mono (by simp) (by simp)).p1 (by simp)) (by simp only [put_apply, Nat.reduceEqDiff, reduceIte, false_and, and_false, true_and, and_true, and_self, if_false, if_true, not_false_eq_true, not_true_eq_false, ne_eq]; rw [hF1 7 0 8 (by simp) (by simp)]; exact hU) (by simp only [put_apply, Nat.reduceEqDiff, reduceIte, false_and, and_false, true_and, and_true, and_self, if_false, if_true, not_false_eq_true, not_true_eq_false, ne_eq]; rw [hF1 7 0 9 (by simp) (by simp)]; exact hV) (fun i hi => ?_)
        by_cases hin : i = n
        · subst hin; rw [put_eq]; omega
        · rw [put_ne (by simp [hin]), hF1 9 0 i (by simp) (by simp), hrow i (by omega), hrn i (by omega)]
  obtain ⟨Kn, hK, hK2, hKb, hKg, hKn⟩ := hN
  have T24 : isn f n (2 * x + o) = false → AW mX5_readPass (RE h (rpass (pl, fg, ff, gr, (K, T), (n, f)) x o) (ff : Int)) 24 [(0, vr 7 0), (1, vi x), (2, vi o)] [] h := by
    intro hni
    refine u_aloadn (k := 12) rfl rfl ?_
    refine a_getr (k := 13) rfl fRX5_22 rfl rfl rfl ?_
    refine u_iloadn (k := 14) rfl rfl ?_
    refine i_virt1 (M' := mX4_knows) (k := 15) rfl lRX5_108 oX4_knows vX4_knows ⟨Nat.le_of_ble_eq_true rfl, Nat.le_of_ble_eq_true rfl⟩ rfl rfl (Nat.le_of_ble_eq_true rfl) (x_knows 1 Kn x h hK (by omega) (by omega)) ?_
    refine a_if_ne (k := 16) rfl (fun c_32 => ?_) (fun c_32 => ?_)
    · refine T49 hni (fun z => ?_)
      have h3 := hKb x
      rw [z.1] at h3
      exact c_32 (by unfold tbi; rw [h3]; rfl)
    · refine u_aloadn (k := 17) rfl rfl ?_
      refine a_getr (k := 18) rfl fRX5_22 rfl rfl rfl ?_
      refine a_geti (k := 19) rfl fRX5_111 rfl rfl ?_
      rw [hKg]
      refine a_bipush (k := 20) rfl ?_
      refine a_icmp_lt (k := 21) rfl (fun c_44 => ?_) (fun c_44 => ?_)
      · exact T49 hni (fun z => by omega)
      · refine a_iconst (k := 22) rfl ?_
        refine a_ireturn (k := 23) rfl rfl ?_
        unfold rpass; dsimp only; rw [hni, if_neg (by decide), if_pos ⟨by
            have h3 := hKb x
            cases hcn : num f x n with
            | none => rfl
            | some v => rw [hcn] at h3; unfold tbi at c_32; rw [h3] at c_32; simp at c_32, by omega⟩]
        exact ⟨rfl, Fr.rf, fun z => by omega, by omega, by omega⟩
  refine u_iloadn (k := 0) rfl rfl ?_
  refine a_if_eq (k := 1) rfl (fun c_1 => ?_) (fun c_1 => ?_)
  · have ho0 : o = 0 := by omega
    subst ho0
    refine u_aloadn (k := 5) rfl rfl ?_
    refine a_geti (k := 6) rfl fRX5_94 rfl rfl ?_
    refine u_iloadn (k := 7) rfl rfl ?_
    first | rw [hU] | rw [hV]
    refine i_statN2 (M' := mX10_isIn) (k := 8) rfl lRX5_104 oX10_isIn vX10_isIn ⟨Nat.le_of_ble_eq_true rfl, Nat.le_of_ble_eq_true rfl⟩ rfl (Nat.le_of_ble_eq_true rfl) (x_isIn _ x h (by omega) (by omega)) ?_
    refine a_if_eq (k := 9) rfl (fun c_19 => ?_) (fun c_19 => ?_)
    · refine T24 ?_
      first | (rw [← hUb]; unfold tbi at c_19; split at c_19 <;> simp_all) | (rw [Nat.add_zero, ← hVb]; unfold tbi at c_19; split at c_19 <;> simp_all)
    · refine a_iconst (k := 10) rfl ?_
      refine a_ireturn (k := 11) rfl rfl ?_
      unfold rpass; dsimp only; rw [if_pos (by first | (rw [← hUb]; unfold tbi at c_19; split at c_19 <;> simp_all) | (rw [Nat.add_zero, ← hVb]; unfold tbi at c_19; split at c_19 <;> simp_all))]; exact ⟨rfl, Fr.rf, fun z => by omega, by omega, by omega⟩
  · have ho1 : o = 1 := by omega
    subst ho1
    refine u_aloadn (k := 2) rfl rfl ?_
    refine a_geti (k := 3) rfl fRX5_91 rfl rfl ?_
    refine a_goto (k := 4) rfl ?_
    refine u_iloadn (k := 7) rfl rfl ?_
    first | rw [hU] | rw [hV]
    refine i_statN2 (M' := mX10_isIn) (k := 8) rfl lRX5_104 oX10_isIn vX10_isIn ⟨Nat.le_of_ble_eq_true rfl, Nat.le_of_ble_eq_true rfl⟩ rfl (Nat.le_of_ble_eq_true rfl) (x_isIn _ x h (by omega) (by omega)) ?_
    refine a_if_eq (k := 9) rfl (fun c_19 => ?_) (fun c_19 => ?_)
    · refine T24 ?_
      first | (rw [← hUb]; unfold tbi at c_19; split at c_19 <;> simp_all) | (rw [Nat.add_zero, ← hVb]; unfold tbi at c_19; split at c_19 <;> simp_all)
    · refine a_iconst (k := 10) rfl ?_
      refine a_ireturn (k := 11) rfl rfl ?_
      unfold rpass; dsimp only; rw [if_pos (by first | (rw [← hUb]; unfold tbi at c_19; split at c_19 <;> simp_all) | (rw [Nat.add_zero, ← hVb]; unfold tbi at c_19; split at c_19 <;> simp_all))]; exact ⟨rfl, Fr.rf, fun z => by omega, by omega, by omega⟩
theorem clos_iff {f : Nat → Nat} {n : Nat} : clos f n = true ↔ ∀ x, x < 26 → isn f n (2 * x + 1) = isn f n (2 * x) := by
  unfold clos
  rw [List.all_eq_true]
  constructor
  · intro h x hx
    simpa using h x (List.mem_range.mpr hx)
  · intro h x hx
    simpa using h x (List.mem_range.mp hx)
theorem prd_of {f : Nat → Nat} {n : Nat} (h52 : ∀ i, i < n → f i < 52) (h : clos f n = true) : prd f n := by
  rw [clos_iff] at h
  intro i hi
  have hl := h52 i hi
  have h1 := h (f i / 2) (by omega)
  by_cases hm : f i % 2 = 0
  · have h2 : isn f n (2 * (f i / 2)) = true := isn_iff.mpr ⟨i, hi, by omega⟩
    rw [h2] at h1
    obtain ⟨k, hk, he⟩ := isn_iff.mp h1
    exact ⟨k, hk, by omega, by omega⟩
  · have h2 : isn f n (2 * (f i / 2) + 1) = true := isn_iff.mpr ⟨i, hi, by omega⟩
    rw [h2] at h1
    obtain ⟨k, hk, he⟩ := isn_iff.mp h1.symm
    exact ⟨k, hk, by omega, by omega⟩
theorem x_thEnd (p : PS) (h : HH) (hX : XR p h) (hp : p.1 = 5) : Sp mX5_readThreadsEnd [vr 7 0] h (RE h (rend p) (p.2.2.1 : Int)) := by
  obtain ⟨pl, fg, ff, gr, ⟨K, T⟩, ⟨n, f⟩⟩ := p
  obtain ⟨h1, h2, h3, h4, h5, h6, h7, h8, h9, h10, h11⟩ := hX
  obtain ⟨hN, hinj, hm8, h52, hrow, hlt, U, V, hU, hV, hU2, hV2, hUb, hVb, hpc⟩ := h11 hp
  dsimp only at *
  have hUV : clos f n = true ↔ U = V := by
    rw [clos_iff]
    constructor
    · intro q
      refine Nat.eq_of_testBit_eq (fun i => ?_)
      by_cases hi : i < 26
      · rw [hUb, hVb]; exact q i hi
      · rw [Nat.testBit_lt_two_pow (Nat.lt_of_lt_of_le hU2 (Nat.pow_le_pow_right (by omega) (by omega))), Nat.testBit_lt_two_pow (Nat.lt_of_lt_of_le hV2 (Nat.pow_le_pow_right (by omega) (by omega)))]
    · intro q x hx
      rw [← hUb, ← hVb, q]
  obtain ⟨Kn, hK, hK2, hKb, hKg, hKn⟩ := hN
  refine Sp.of rfl kX5_readThreadsEnd (Nat.le_of_ble_eq_true rfl) ?_
  refine u_aloadn (k := 0) rfl rfl ?_
  refine a_geti (k := 1) rfl fRX5_91 rfl rfl ?_
  refine u_aloadn (k := 2) rfl rfl ?_
  refine a_geti (k := 3) rfl fRX5_94 rfl rfl ?_
  rw [hU, hV]
  refine a_icmp_eq (k := 4) rfl (fun c_8 => ?_) (fun c_8 => ?_)
  · have hcl : clos f n = true := hUV.mpr (by omega)
    have hnm := RT_mny ⟨hinj, prd_of h52 hcl⟩
    refine u_aloadn (k := 7) rfl rfl ?_
    refine a_getr (k := 8) rfl fRX5_15 rfl rfl rfl ?_
    refine a_dup (k := 9) rfl rfl ?_
    refine a_geti (k := 10) rfl fRX5_36 rfl rfl ?_
    rw [h8]
    refine a_iconst (k := 11) rfl ?_
    refine u_iadd (k := 12) rfl (by omega) ?_
    refine a_puti (k := 13) rfl pRX5_36 rfl rfl ?_
    refine u_aloadn (k := 14) rfl rfl ?_
    refine a_getr (k := 15) rfl fRX5_15 rfl rfl rfl ?_
    refine u_aloadn (k := 16) rfl rfl ?_
    refine a_getr (k := 17) rfl fRX5_15 rfl rfl rfl ?_
    refine a_geti (k := 18) rfl fRX5_36 rfl rfl ?_
    rw [put_eq]
    refine a_iconst (k := 19) rfl ?_
    refine u_isub (k := 20) rfl (by omega) ?_
    rw [show ((K : Int) + 1 - 1) = (K : Int) by omega]
    refine r_virt1 (M' := mX9_ropeOf) (k := 21) rfl lRX5_122 oX9_ropeOf vX9_ropeOf ⟨Nat.le_of_ble_eq_true rfl, Nat.le_of_ble_eq_true rfl⟩ rfl rfl (Nat.le_of_ble_eq_true rfl) (x_ropeOf 0 K _ (by rw [put_eq]; omega) hlt) ?_
    refine a_astoren (k := 22) (lv' := [(1, _), (0, _)]) rfl (Nat.le_of_ble_eq_true rfl) rfl ?_
    refine u_aloadn (k := 23) rfl rfl ?_
    refine a_nullR (k := 24) rfl ?_
    refine u_aloadn (k := 25) rfl rfl ?_
    refine u_aloadn (k := 26) rfl rfl ?_
    refine a_getr (k := 27) rfl fRX5_26 rfl rfl rfl ?_
    refine u_aloadn (k := 28) rfl rfl ?_
    refine a_getr (k := 29) rfl fRX5_22 rfl rfl rfl ?_
    refine a_geti (k := 30) rfl fRX5_111 rfl rfl ?_
    rw [put_ne (by simp), hKg, show 5 * 0 + K = K by omega]
    refine uv_virt2 (M' := mX6_lay) (k := 31) rfl lRX5_126 oX6_lay vX6_lay ⟨Nat.le_of_ble_eq_true rfl, Nat.le_of_ble_eq_true rfl⟩ rfl rfl (Nat.le_of_ble_eq_true rfl) (x_lay K (mny f n) (rn f) _ hm8 (fun i hi => by simp only [put_apply, Nat.reduceEqDiff, reduceIte, false_and, and_false, true_and, and_true, and_self, if_false, if_true, not_false_eq_true, not_true_eq_false, ne_eq]; exact hrow i (by omega))) (by intro r g hp; exact hp.1) (fun g hg => ?_)
    obtain ⟨-, hg2, hg3, hgp, hgF⟩ := hg
    refine u_aloadn (k := 32) rfl rfl ?_
    refine a_iconst (k := 33) rfl ?_
    refine a_puti (k := 34) rfl pRX5_44 rfl rfl ?_
    refine a_iconst (k := 35) rfl ?_
    refine a_ireturn (k := 36) rfl rfl ?_
    unfold rend; dsimp only; rw [if_pos hcl]
    refine ⟨rfl, (((Fr.rf.p1 (by simp [trd])).tr hgF (fun q hq => ?_) (by simp)).p2 (by simp [krd])), ⟨by dsimp only; omega, by rw [put_eq]; rfl, fun z => by simp at z, fun z => by simp at z, fun z => by simp at z, by simp only [put_apply, Nat.reduceEqDiff, reduceIte, false_and, and_false, true_and, and_true, and_self, if_false, if_true, not_false_eq_true, not_true_eq_false, ne_eq]; rw [hgF 3 0 2 (by simp) (by simp)]; simp only [put_apply, Nat.reduceEqDiff, reduceIte, false_and, and_false, true_and, and_true, and_self, if_false, if_true, not_false_eq_true, not_true_eq_false, ne_eq]; exact h6, h7, by simp only [put_apply, Nat.reduceEqDiff, reduceIte, false_and, and_false, true_and, and_true, and_self, if_false, if_true, not_false_eq_true, not_true_eq_false, ne_eq]; rw [hgF 3 0 1 (by simp) (by simp), put_eq]; omega, by dsimp only; omega, fun k hk => ?_, fun z => by simp at z⟩⟩
    · have : K = 0 ∨ K = 1 ∨ K = 2 ∨ K = 3 ∨ K = 4 := by omega
      rcases this with e | e | e | e | e <;> subst e <;> simp [trd] at hq ⊢ <;> rcases hq with rfl | rfl <;> simp
    · dsimp only at hk ⊢
      by_cases he : k = K
      · subst he
        rw [un_eq]
        dsimp only
        refine ⟨by simp only [put_apply, Nat.reduceEqDiff, reduceIte, false_and, and_false, true_and, and_true, and_self, if_false, if_true, not_false_eq_true, not_true_eq_false, ne_eq]; rw [hg2]; omega, by simp only [put_apply, Nat.reduceEqDiff, reduceIte, false_and, and_false, true_and, and_true, and_self, if_false, if_true, not_false_eq_true, not_true_eq_false, ne_eq]; exact hg3, fun i hi => by simp only [put_apply, Nat.reduceEqDiff, reduceIte, false_and, and_false, true_and, and_true, and_self, if_false, if_true, not_false_eq_true, not_true_eq_false, ne_eq]; exact hgp i (by omega), ⟨hinj, prd_of h52 hcl⟩, hm8, h52⟩
      · rw [un_ne _ _ he]
        refine ⟨by simp only [put_apply, Nat.reduceEqDiff, reduceIte, false_and, and_false, true_and, and_true, and_self, if_false, if_true, not_false_eq_true, not_true_eq_false, ne_eq]; rw [hgF 5 k 2 (by simp [he]) (by simp)]; simp only [put_apply, Nat.reduceEqDiff, reduceIte, false_and, and_false, true_and, and_true, and_self, if_false, if_true, not_false_eq_true, not_true_eq_false, ne_eq]; exact (h10 k (by omega)).1, by simp only [put_apply, Nat.reduceEqDiff, reduceIte, false_and, and_false, true_and, and_true, and_self, if_false, if_true, not_false_eq_true, not_true_eq_false, ne_eq]; rw [hgF 5 k 3 (by simp [he]) (by simp)]; simp only [put_apply, Nat.reduceEqDiff, reduceIte, false_and, and_false, true_and, and_true, and_self, if_false, if_true, not_false_eq_true, not_true_eq_false, ne_eq]; exact (h10 k (by omega)).2.1, fun i hi => by simp only [put_apply, Nat.reduceEqDiff, reduceIte, false_and, and_false, true_and, and_true, and_self, if_false, if_true, not_false_eq_true, not_true_eq_false, ne_eq]; rw [hgF 6 k i (by simp [he]) (by simp)]; simp only [put_apply, Nat.reduceEqDiff, reduceIte, false_and, and_false, true_and, and_true, and_self, if_false, if_true, not_false_eq_true, not_true_eq_false, ne_eq]; exact (h10 k (by omega)).2.2.1 i hi, (h10 k (by omega)).2.2.2⟩
  · refine a_iconst (k := 5) rfl ?_
    refine a_ireturn (k := 6) rfl rfl ?_
    unfold rend; dsimp only; rw [if_neg (fun z => by have := hUV.mp z; omega)]; exact ⟨rfl, Fr.rf, fun z => by omega, by omega, by omega⟩
theorem x_thread (l q : Nat) (p : PS) (h : HH) (hX : XR p h) (hp : p.1 = 5) (hl : l ≠ 32) : Sp mX5_readThread [vr 7 0, vi l] h (RE h (rs p l q) (p.2.2.1 : Int)) := by
  have e : rs p l q = (if 65 ≤ l ∧ l ≤ 90 then rpass p (l - 65) 1 else if 97 ≤ l ∧ l ≤ 122 then rpass p (l - 97) 0 else if l = 59 then rend p else .inr 1) := by simp [rs, hl, hp]
  rw [e]
  refine Sp.of rfl kX5_readThread (Nat.le_of_ble_eq_true rfl) ?_
  refine u_iloadn (k := 0) rfl rfl ?_
  refine a_bipush (k := 1) rfl ?_
  refine a_icmp_lt (k := 2) rfl (fun c_3 => ?_) (fun c_3 => ?_)
  · refine u_iloadn (k := 13) rfl rfl ?_
    refine a_bipush (k := 14) rfl ?_
    refine a_icmp_lt (k := 15) rfl (fun c_25 => ?_) (fun c_25 => ?_)
    · refine u_iloadn (k := 26) rfl rfl ?_
      refine a_bipush (k := 27) rfl ?_
      refine a_icmp_ne (k := 28) rfl (fun c_47 => ?_) (fun c_47 => ?_)
      · refine a_iconst (k := 32) rfl ?_
        refine a_ireturn (k := 33) rfl rfl ?_
        first | exact hg1 | (rw [if_neg (by omega), if_neg (by omega), if_neg (by omega)]; exact ⟨rfl, Fr.rf, fun z => by omega, by omega, by omega⟩)
      · refine u_aloadn (k := 29) rfl rfl ?_
        rw [if_neg (by omega), if_neg (by omega), if_pos (by omega)]
        refine ui_virt0 (M' := mX5_readThreadsEnd) (k := 30) rfl lRX5_101 oX5_readThreadsEnd vX5_readThreadsEnd ⟨Nat.le_of_ble_eq_true rfl, Nat.le_of_ble_eq_true rfl⟩ rfl rfl (Nat.le_of_ble_eq_true rfl) (x_thEnd p h hX hp) (by intro r g hp; exact ⟨_, hp.1⟩) (fun r g1 hg1 => ?_)
        refine a_goto (k := 31) rfl ?_
        refine a_ireturn (k := 33) rfl rfl ?_
        first | exact hg1 | (rw [if_neg (by omega), if_neg (by omega), if_neg (by omega)]; exact ⟨rfl, Fr.rf, fun z => by omega, by omega, by omega⟩)
    · refine u_iloadn (k := 16) rfl rfl ?_
      refine a_bipush (k := 17) rfl ?_
      refine a_icmp_gt (k := 18) rfl (fun c_31 => ?_) (fun c_31 => ?_)
      · refine u_iloadn (k := 26) rfl rfl ?_
        refine a_bipush (k := 27) rfl ?_
        refine a_icmp_ne (k := 28) rfl (fun c_47 => ?_) (fun c_47 => ?_)
        · refine a_iconst (k := 32) rfl ?_
          refine a_ireturn (k := 33) rfl rfl ?_
          first | exact hg1 | (rw [if_neg (by omega), if_neg (by omega), if_neg (by omega)]; exact ⟨rfl, Fr.rf, fun z => by omega, by omega, by omega⟩)
        · refine u_aloadn (k := 29) rfl rfl ?_
          rw [if_neg (by omega), if_neg (by omega), if_pos (by omega)]
          refine ui_virt0 (M' := mX5_readThreadsEnd) (k := 30) rfl lRX5_101 oX5_readThreadsEnd vX5_readThreadsEnd ⟨Nat.le_of_ble_eq_true rfl, Nat.le_of_ble_eq_true rfl⟩ rfl rfl (Nat.le_of_ble_eq_true rfl) (x_thEnd p h hX hp) (by intro r g hp; exact ⟨_, hp.1⟩) (fun r g1 hg1 => ?_)
          refine a_goto (k := 31) rfl ?_
          refine a_ireturn (k := 33) rfl rfl ?_
          first | exact hg1 | (rw [if_neg (by omega), if_neg (by omega), if_neg (by omega)]; exact ⟨rfl, Fr.rf, fun z => by omega, by omega, by omega⟩)
      · refine u_aloadn (k := 19) rfl rfl ?_
        refine u_iloadn (k := 20) rfl rfl ?_
        refine a_bipush (k := 21) rfl ?_
        refine u_isub (k := 22) rfl (by omega) ?_
        refine a_iconst (k := 23) rfl ?_
        rw [if_neg (by omega), if_pos (by omega), show ((l : Int) - 97) = ((l - 97 : Nat) : Int) by omega]
        refine ui_virt2 (M' := mX5_readPass) (k := 24) rfl lRX5_97 oX5_readPass vX5_readPass ⟨Nat.le_of_ble_eq_true rfl, Nat.le_of_ble_eq_true rfl⟩ rfl rfl (Nat.le_of_ble_eq_true rfl) (x_pass (l - 97) 0 q p h hX hp (by omega) (by omega)) (by intro r g hp; exact ⟨_, hp.1⟩) (fun r g1 hg1 => ?_)
        refine a_ireturn (k := 25) rfl rfl ?_
        exact hg1
  · refine u_iloadn (k := 3) rfl rfl ?_
    refine a_bipush (k := 4) rfl ?_
    refine a_icmp_gt (k := 5) rfl (fun c_9 => ?_) (fun c_9 => ?_)
    · refine u_iloadn (k := 13) rfl rfl ?_
      refine a_bipush (k := 14) rfl ?_
      refine a_icmp_lt (k := 15) rfl (fun c_25 => ?_) (fun c_25 => ?_)
      · refine u_iloadn (k := 26) rfl rfl ?_
        refine a_bipush (k := 27) rfl ?_
        refine a_icmp_ne (k := 28) rfl (fun c_47 => ?_) (fun c_47 => ?_)
        · refine a_iconst (k := 32) rfl ?_
          refine a_ireturn (k := 33) rfl rfl ?_
          first | exact hg1 | (rw [if_neg (by omega), if_neg (by omega), if_neg (by omega)]; exact ⟨rfl, Fr.rf, fun z => by omega, by omega, by omega⟩)
        · refine u_aloadn (k := 29) rfl rfl ?_
          rw [if_neg (by omega), if_neg (by omega), if_pos (by omega)]
          refine ui_virt0 (M' := mX5_readThreadsEnd) (k := 30) rfl lRX5_101 oX5_readThreadsEnd vX5_readThreadsEnd ⟨Nat.le_of_ble_eq_true rfl, Nat.le_of_ble_eq_true rfl⟩ rfl rfl (Nat.le_of_ble_eq_true rfl) (x_thEnd p h hX hp) (by intro r g hp; exact ⟨_, hp.1⟩) (fun r g1 hg1 => ?_)
          refine a_goto (k := 31) rfl ?_
          refine a_ireturn (k := 33) rfl rfl ?_
          first | exact hg1 | (rw [if_neg (by omega), if_neg (by omega), if_neg (by omega)]; exact ⟨rfl, Fr.rf, fun z => by omega, by omega, by omega⟩)
      · refine u_iloadn (k := 16) rfl rfl ?_
        refine a_bipush (k := 17) rfl ?_
        refine a_icmp_gt (k := 18) rfl (fun c_31 => ?_) (fun c_31 => ?_)
        · refine u_iloadn (k := 26) rfl rfl ?_
          refine a_bipush (k := 27) rfl ?_
          refine a_icmp_ne (k := 28) rfl (fun c_47 => ?_) (fun c_47 => ?_)
          · refine a_iconst (k := 32) rfl ?_
            refine a_ireturn (k := 33) rfl rfl ?_
            first | exact hg1 | (rw [if_neg (by omega), if_neg (by omega), if_neg (by omega)]; exact ⟨rfl, Fr.rf, fun z => by omega, by omega, by omega⟩)
          · refine u_aloadn (k := 29) rfl rfl ?_
            rw [if_neg (by omega), if_neg (by omega), if_pos (by omega)]
            refine ui_virt0 (M' := mX5_readThreadsEnd) (k := 30) rfl lRX5_101 oX5_readThreadsEnd vX5_readThreadsEnd ⟨Nat.le_of_ble_eq_true rfl, Nat.le_of_ble_eq_true rfl⟩ rfl rfl (Nat.le_of_ble_eq_true rfl) (x_thEnd p h hX hp) (by intro r g hp; exact ⟨_, hp.1⟩) (fun r g1 hg1 => ?_)
            refine a_goto (k := 31) rfl ?_
            refine a_ireturn (k := 33) rfl rfl ?_
            first | exact hg1 | (rw [if_neg (by omega), if_neg (by omega), if_neg (by omega)]; exact ⟨rfl, Fr.rf, fun z => by omega, by omega, by omega⟩)
        · refine u_aloadn (k := 19) rfl rfl ?_
          refine u_iloadn (k := 20) rfl rfl ?_
          refine a_bipush (k := 21) rfl ?_
          refine u_isub (k := 22) rfl (by omega) ?_
          refine a_iconst (k := 23) rfl ?_
          rw [if_neg (by omega), if_pos (by omega), show ((l : Int) - 97) = ((l - 97 : Nat) : Int) by omega]
          refine ui_virt2 (M' := mX5_readPass) (k := 24) rfl lRX5_97 oX5_readPass vX5_readPass ⟨Nat.le_of_ble_eq_true rfl, Nat.le_of_ble_eq_true rfl⟩ rfl rfl (Nat.le_of_ble_eq_true rfl) (x_pass (l - 97) 0 q p h hX hp (by omega) (by omega)) (by intro r g hp; exact ⟨_, hp.1⟩) (fun r g1 hg1 => ?_)
          refine a_ireturn (k := 25) rfl rfl ?_
          exact hg1
    · refine u_aloadn (k := 6) rfl rfl ?_
      refine u_iloadn (k := 7) rfl rfl ?_
      refine a_bipush (k := 8) rfl ?_
      refine u_isub (k := 9) rfl (by omega) ?_
      refine a_iconst (k := 10) rfl ?_
      rw [if_pos (by omega), show ((l : Int) - 65) = ((l - 65 : Nat) : Int) by omega]
      refine ui_virt2 (M' := mX5_readPass) (k := 11) rfl lRX5_97 oX5_readPass vX5_readPass ⟨Nat.le_of_ble_eq_true rfl, Nat.le_of_ble_eq_true rfl⟩ rfl rfl (Nat.le_of_ble_eq_true rfl) (x_pass (l - 65) 1 q p h hX hp (by omega) (by omega)) (by intro r g hp; exact ⟨_, hp.1⟩) (fun r g1 hg1 => ?_)
      refine a_ireturn (k := 12) rfl rfl ?_
      exact hg1
theorem x_letter (l q : Nat) (p : PS) (h : HH) (hX : XR p h) (hl : l ≠ 32) (hl2 : l < 256) (hq : q < 240) : Sp mX5_readLetter [vr 7 0, vi l, vi q] h (RE h (rs p l q) (p.2.2.1 : Int)) := by
  have h2 := hX.2.1
  have h1 := hX.1
  refine Sp.of rfl kX5_readLetter (Nat.le_of_ble_eq_true rfl) ?_
  refine u_aloadn (k := 0) rfl rfl ?_
  refine a_geti (k := 1) rfl fRX5_44 rfl rfl ?_
  rw [h2]
  rcases (show ((p.1 : Int) < 0 ∨ 4 < (p.1 : Int)) ∨ (p.1 : Int) = 0 ∨ (p.1 : Int) = 1 ∨ (p.1 : Int) = 2 ∨ (p.1 : Int) = 3 ∨ (p.1 : Int) = 4 by omega) with c_4 | c_4 | c_4 | c_4 | c_4 | c_4
  · refine a_tabOut (k := 2) (t := 71) rfl c_4 (by decide) ?_
    refine u_aloadn (k := 24) rfl rfl ?_
    refine u_iloadn (k := 25) rfl rfl ?_
    refine ui_virt1 (M' := mX5_readThread) (k := 26) rfl lRX5_78 oX5_readThread vX5_readThread ⟨Nat.le_of_ble_eq_true rfl, Nat.le_of_ble_eq_true rfl⟩ rfl rfl (Nat.le_of_ble_eq_true rfl) (x_thread l q p h hX (by omega) hl) (by intro r g hp; exact ⟨_, hp.1⟩) (fun r g1 hg1 => ?_)
    refine a_ireturn (k := 27) rfl rfl ?_
    exact hg1
  · refine a_tabIn (k := 2) (o := 36) (t := 40) rfl (by omega) (by omega) (by rw [c_4]; rfl) (by decide) ?_
    refine u_aloadn (k := 3) rfl rfl ?_
    refine u_iloadn (k := 4) rfl rfl ?_
    refine ui_virt1 (M' := mX5_readStart) (k := 5) rfl lRX5_62 oX5_readStart vX5_readStart ⟨Nat.le_of_ble_eq_true rfl, Nat.le_of_ble_eq_true rfl⟩ rfl rfl (Nat.le_of_ble_eq_true rfl) (x_start l q p h hX (by omega) hl) (by intro r g hp; exact ⟨_, hp.1⟩) (fun r g1 hg1 => ?_)
    refine a_ireturn (k := 6) rfl rfl ?_
    exact hg1
  · refine a_tabIn (k := 2) (o := 42) (t := 46) rfl (by omega) (by omega) (by rw [c_4]; rfl) (by decide) ?_
    refine u_aloadn (k := 7) rfl rfl ?_
    refine u_iloadn (k := 8) rfl rfl ?_
    refine u_iloadn (k := 9) rfl rfl ?_
    refine ui_virt2 (M' := mX5_readFirstFigure) (k := 10) rfl lRX5_66 oX5_readFirstFigure vX5_readFirstFigure ⟨Nat.le_of_ble_eq_true rfl, Nat.le_of_ble_eq_true rfl⟩ rfl rfl (Nat.le_of_ble_eq_true rfl) (x_first l q p h hX (by omega) hl hl2 hq) (by intro r g hp; exact ⟨_, hp.1⟩) (fun r g1 hg1 => ?_)
    refine a_ireturn (k := 11) rfl rfl ?_
    exact hg1
  · refine a_tabIn (k := 2) (o := 49) (t := 53) rfl (by omega) (by omega) (by rw [c_4]; rfl) (by decide) ?_
    refine u_aloadn (k := 12) rfl rfl ?_
    refine u_iloadn (k := 13) rfl rfl ?_
    refine ui_virt1 (M' := mX5_readNumber) (k := 14) rfl lRX5_69 oX5_readNumber vX5_readNumber ⟨Nat.le_of_ble_eq_true rfl, Nat.le_of_ble_eq_true rfl⟩ rfl rfl (Nat.le_of_ble_eq_true rfl) (x_number l q p h hX (by omega) hl hl2) (by intro r g hp; exact ⟨_, hp.1⟩) (fun r g1 hg1 => ?_)
    refine a_ireturn (k := 15) rfl rfl ?_
    exact hg1
  · refine a_tabIn (k := 2) (o := 55) (t := 59) rfl (by omega) (by omega) (by rw [c_4]; rfl) (by decide) ?_
    refine u_aloadn (k := 16) rfl rfl ?_
    refine u_iloadn (k := 17) rfl rfl ?_
    rw [show rs p l q = rnum p l by simp [rs, hl, show p.1 = 3 by omega]]
    refine ui_virt1 (M' := mX5_readNumbersEnd) (k := 18) rfl lRX5_72 oX5_readNumbersEnd vX5_readNumbersEnd ⟨Nat.le_of_ble_eq_true rfl, Nat.le_of_ble_eq_true rfl⟩ rfl rfl (Nat.le_of_ble_eq_true rfl) (x_numEnd l p h hX) (by intro r g hp; exact ⟨_, hp.1⟩) (fun r g1 hg1 => ?_)
    refine a_ireturn (k := 19) rfl rfl ?_
    exact hg1
  · refine a_tabIn (k := 2) (o := 61) (t := 65) rfl (by omega) (by omega) (by rw [c_4]; rfl) (by decide) ?_
    refine u_aloadn (k := 20) rfl rfl ?_
    refine u_iloadn (k := 21) rfl rfl ?_
    refine ui_virt1 (M' := mX5_readClause) (k := 22) rfl lRX5_75 oX5_readClause vX5_readClause ⟨Nat.le_of_ble_eq_true rfl, Nat.le_of_ble_eq_true rfl⟩ rfl rfl (Nat.le_of_ble_eq_true rfl) (x_clause l q p h hX (by omega) hl) (by intro r g hp; exact ⟨_, hp.1⟩) (fun r g1 hg1 => ?_)
    refine a_ireturn (k := 23) rfl rfl ?_
    exact hg1
/-- a letter more; no room -/
theorem x_addLetter (l : Int) (L : Nat) (h : HH) (hL : h 7 0 4 = (L : Int)) (h2 : L < 240) : SpI mX5_addLetter [vr 7 0, vi l] h 1 (put (put h 8 0 L l) 7 0 4 ((L + 1 : Nat) : Int)) := by
  refine Sp.of rfl kX5_addLetter (Nat.le_of_ble_eq_true rfl) ?_
  refine u_aloadn (k := 0) rfl rfl ?_
  refine a_geti (k := 1) rfl fRX5_33 rfl rfl ?_
  rw [hL]
  refine a_if_lt (k := 2) rfl (fun c_4 => ?_) (fun c_4 => ?_)
  · omega
  · refine u_aloadn (k := 3) rfl rfl ?_
    refine a_geti (k := 4) rfl fRX5_33 rfl rfl ?_
    refine a_sipush (k := 5) rfl ?_
    rw [hL]
    refine a_icmp_lt (k := 6) rfl (fun c_14 => ?_) (fun c_14 => ?_)
    · refine u_aloadn (k := 9) rfl rfl ?_
      refine a_getr (k := 10) rfl fRX5_9 rfl rfl rfl ?_
      refine u_aloadn (k := 11) rfl rfl ?_
      refine a_geti (k := 12) rfl fRX5_33 rfl rfl ?_
      rw [hL]
      refine u_iloadn (k := 13) rfl rfl ?_
      refine u_iast (k := 14) rfl rfl rfl (by omega) ?_
      refine u_aloadn (k := 15) rfl rfl ?_
      refine a_dup (k := 16) rfl rfl ?_
      refine a_geti (k := 17) rfl fRX5_33 rfl rfl ?_
      rw [put_ne (by simp), hL]
      refine a_iconst (k := 18) rfl ?_
      refine u_iadd (k := 19) rfl (by omega) ?_
      refine a_puti (k := 20) rfl pRX5_33 rfl rfl ?_
      refine a_iconst (k := 21) rfl ?_
      refine a_zreturn (k := 22) rfl rfl (by omega) ?_
      exact ⟨rfl, by congr 1⟩
    · omega
theorem x_addLetterNo (l : Int) (L : Nat) (h : HH) (hL : h 7 0 4 = (L : Int)) (h2 : ¬ L < 240) : SpI mX5_addLetter [vr 7 0, vi l] h 0 h := by
  refine Sp.of rfl kX5_addLetter (Nat.le_of_ble_eq_true rfl) ?_
  refine u_aloadn (k := 0) rfl rfl ?_
  refine a_geti (k := 1) rfl fRX5_33 rfl rfl ?_
  rw [hL]
  refine a_if_lt (k := 2) rfl (fun c_4 => ?_) (fun c_4 => ?_)
  · omega
  · refine u_aloadn (k := 3) rfl rfl ?_
    refine a_geti (k := 4) rfl fRX5_33 rfl rfl ?_
    refine a_sipush (k := 5) rfl ?_
    rw [hL]
    refine a_icmp_lt (k := 6) rfl (fun c_14 => ?_) (fun c_14 => ?_)
    · omega
    · refine a_iconst (k := 7) rfl ?_
      refine a_zreturn (k := 8) rfl rfl (by omega) ?_
      exact ⟨rfl, rfl⟩
/-! the whole text -/
def PS0 : PS := (0, 0, 0, 0, (0, fun _ => (0, fun _ => 0)), (0, fun _ => 0))
/-- the state q letters along; the fault and where -/
def rgo (tx : Nat → Nat) : Nat → PS ⊕ (Nat × Nat)
  | 0 => .inl PS0
  | q + 1 => match rgo tx q with
    | .inr e => .inr e
    | .inl p => match rs p (tx q) q with
      | .inl p' => .inl p'
      | .inr e => .inr (e, if e = 2 then p.2.2.1 else q)
theorem rgo_f {tx : Nat → Nat} {q : Nat} {e : Nat × Nat} (h : rgo tx q = .inr e) : ∀ m, rgo tx (q + m) = .inr e
  | 0 => h
  | m + 1 => by
    rw [← Nat.add_assoc]
    unfold rgo
    rw [rgo_f h m]
def ed (p : PS) : Bool := decide (p.1 = 0) || decide (p.1 = 4)
/-- what the reader answers: 0 and the state, or the fault and where -/
def RT_ (L : Nat) (tx : Nat → Nat) (h : HH) (r : Option AV) (g : HH) : Prop := match rgo tx L with
  | .inr (e, a) => r = some (vi e) ∧ g 7 0 10 = (a : Int) ∧ 0 < e ∧ e ≤ 5 ∧ g 7 0 11 = h 7 0 11
  | .inl p => XR p g ∧ if ed p then r = some (vi 0) ∧ g 7 0 10 = -1 ∧ g 7 0 11 = (if p.1 = 4 then 1 else 0) else r = some (vi 1) ∧ g 7 0 10 = (L : Int) ∧ g 7 0 11 = h 7 0 11
def krt : List (Nat × Nat × Nat) := [(7, 0, 5), (7, 0, 6), (7, 0, 7), (7, 0, 8), (7, 0, 9), (7, 0, 10), (7, 0, 11)]
theorem krd_krt : ∀ q ∈ krd, q ∈ krt := by decide
theorem XR.pt {p : PS} {g : HH} {k : Nat} {v : Int} (h : XR p g) (hk : k = 10 ∨ k = 11) : XR p (put g 7 0 k v) := by
  have hk5 : ∀ j, j < 10 → put g 7 0 k v 7 0 j = g 7 0 j := fun j hj => put_ne (by omega)
  obtain ⟨h1, h2, h3, h4, h5, h6, h7, h8, h9, h10, h11⟩ := h
  refine ⟨h1, by rw [hk5 5 (by omega)]; exact h2, fun z => by rw [hk5 6 (by omega)]; exact h3 z, h4, fun z => by rw [hk5 7 (by omega)]; exact h5 z, by simp only [put_apply, Nat.reduceEqDiff, reduceIte, false_and, and_false, true_and, and_true, and_self, if_false, if_true, not_false_eq_true, not_true_eq_false, ne_eq]; exact h6, h7, by simp only [put_apply, Nat.reduceEqDiff, reduceIte, false_and, and_false, true_and, and_true, and_self, if_false, if_true, not_false_eq_true, not_true_eq_false, ne_eq]; exact h8, h9, fun k' hk => ⟨by simp only [put_apply, Nat.reduceEqDiff, reduceIte, false_and, and_false, true_and, and_true, and_self, if_false, if_true, not_false_eq_true, not_true_eq_false, ne_eq]; exact (h10 k' hk).1, by simp only [put_apply, Nat.reduceEqDiff, reduceIte, false_and, and_false, true_and, and_true, and_self, if_false, if_true, not_false_eq_true, not_true_eq_false, ne_eq]; exact (h10 k' hk).2.1, fun i hi => by simp only [put_apply, Nat.reduceEqDiff, reduceIte, false_and, and_false, true_and, and_true, and_self, if_false, if_true, not_false_eq_true, not_true_eq_false, ne_eq]; exact (h10 k' hk).2.2.1 i hi, (h10 k' hk).2.2.2⟩, fun z => ?_⟩
  obtain ⟨hN, hinj, hm8, h52, hrow, hlt, U, V, hU, hV, r⟩ := h11 z
  exact ⟨hN.keep (fun k => by simp only [put_apply, Nat.reduceEqDiff, reduceIte, false_and, and_false, true_and, and_true, and_self, if_false, if_true, not_false_eq_true, not_true_eq_false, ne_eq]) (fun k => by simp only [put_apply, Nat.reduceEqDiff, reduceIte, false_and, and_false, true_and, and_true, and_self, if_false, if_true, not_false_eq_true, not_true_eq_false, ne_eq]), hinj, hm8, h52, fun i hi => by simp only [put_apply, Nat.reduceEqDiff, reduceIte, false_and, and_false, true_and, and_true, and_self, if_false, if_true, not_false_eq_true, not_true_eq_false, ne_eq]; exact hrow i hi, hlt, U, V, by rw [hk5 8 (by omega)]; exact hU, by rw [hk5 9 (by omega)]; exact hV, r⟩
theorem x_readText (L : Nat) (tx : Nat → Nat) (h : HH) (hL : h 7 0 4 = (L : Int)) (hL2 : L ≤ 240) (ht : ∀ i, i < L → h 8 0 i = (tx i : Int)) (ht2 : ∀ i, i < L → tx i < 256) (h01 : h 7 0 11 = 0 ∨ h 7 0 11 = 1) : Sp mX5_readText [vr 7 0] h (fun r g => (∃ a, r = some (vi a)) ∧ RT_ L tx h r g ∧ Fr trd krt h g) := by
  refine Sp.of rfl kX5_readText (Nat.le_of_ble_eq_true rfl) ?_
  have Lp : ∀ (m q : Nat) (p : PS) (g : HH), q + m = L → rgo tx q = .inl p → XR p g → Fr trd krd h g → AW mX5_readText (fun r g => (∃ a, r = some (vi a)) ∧ RT_ L tx h r g ∧ Fr trd krt h g) 23 [(0, vr 7 0), (1, vi q)] [] g := by
    intro m
    induction m with
    | zero =>
      intro q p g hq hs hX hF
      have hq : q = L := by omega
      subst hq
      have hL' : g 7 0 4 = (q : Int) := by rw [hF 7 0 4 (by simp [trd]) (by simp [krd])]; exact hL
      have h2 := hX.2.1
      have h1 := hX.1
      have h01' : g 7 0 11 = 0 ∨ g 7 0 11 = 1 := by rw [hF 7 0 11 (by simp [trd]) (by simp [krd])]; exact h01
      have he : g 7 0 11 = h 7 0 11 := hF 7 0 11 (by simp [trd]) (by simp [krd])
      have Tend : ∀ b : Nat, (b = 1 ↔ ed p = true) → b ≤ 1 → AW mX5_readText (fun r g => (∃ a, r = some (vi a)) ∧ RT_ q tx h r g ∧ Fr trd krt h g) 118 [(1, vi b), (0, vr 7 0)] [] g := by
        intro b hb hb1
        have hF' : Fr trd krt h g := hF.mono (fun _ q => q) (fun q hq => Or.inl (krd_krt q hq))
        refine u_aloadn (k := 63) rfl rfl ?_
        refine u_iloadn (k := 64) rfl rfl ?_
        refine a_if_eq (k := 65) rfl (fun c_120 => ?_) (fun c_120 => ?_)
        · refine u_aloadn (k := 74) rfl rfl ?_
          refine a_geti (k := 75) rfl fRX5_58 rfl rfl ?_
          refine a_putz (k := 76) rfl pRX5_58 rfl rfl (by omega) ?_
          refine u_aloadn (k := 77) rfl rfl ?_
          refine u_iloadn (k := 78) rfl rfl ?_
          refine a_if_eq (k := 79) rfl (fun c_148 => ?_) (fun c_148 => ?_)
          · refine u_aloadn (k := 82) rfl rfl ?_
            refine a_geti (k := 83) rfl fRX5_33 rfl rfl ?_
            first | rw [put_ne (by simp), hL'] | skip
            refine a_puti (k := 84) rfl pRX5_29 rfl rfl ?_
            refine u_iloadn (k := 85) rfl rfl ?_
            refine a_if_eq (k := 86) rfl (fun c_163 => ?_) (fun c_163 => ?_)
            · refine a_iconst (k := 89) rfl ?_
              refine a_ireturn (k := 90) rfl rfl ?_
              refine ⟨⟨_, rfl⟩, ?_, (hF'.p2 (by simp [krt])).p2 (by simp [krt])⟩
              unfold RT_
              rw [hs]
              dsimp only
              refine ⟨(hX.pt (Or.inr rfl)).pt (Or.inl rfl), ?_⟩
              by_cases hE : ed p = true
              · have hb' := hb.mpr hE
                first | omega | (rw [if_pos hE]; refine ⟨rfl, by rw [put_eq], ?_⟩; simp only [put_apply, Nat.reduceEqDiff, reduceIte, false_and, and_false, true_and, and_true, and_self, if_false, if_true, not_false_eq_true, not_true_eq_false, ne_eq]; first | rw [if_pos (by omega)] | rw [if_neg (by omega)])
              · have hb' : b ≠ 1 := fun z => hE (hb.mp z)
                first | omega | (rw [if_neg hE]; exact ⟨rfl, by rw [put_eq], by simp only [put_apply, Nat.reduceEqDiff, reduceIte, false_and, and_false, true_and, and_true, and_self, if_false, if_true, not_false_eq_true, not_true_eq_false, ne_eq]; exact he⟩)
            · refine a_iconst (k := 87) rfl ?_
              refine a_goto (k := 88) rfl ?_
              refine a_ireturn (k := 90) rfl rfl ?_
              refine ⟨⟨_, rfl⟩, ?_, (hF'.p2 (by simp [krt])).p2 (by simp [krt])⟩
              unfold RT_
              rw [hs]
              dsimp only
              refine ⟨(hX.pt (Or.inr rfl)).pt (Or.inl rfl), ?_⟩
              by_cases hE : ed p = true
              · have hb' := hb.mpr hE
                first | omega | (rw [if_pos hE]; refine ⟨rfl, by rw [put_eq], ?_⟩; simp only [put_apply, Nat.reduceEqDiff, reduceIte, false_and, and_false, true_and, and_true, and_self, if_false, if_true, not_false_eq_true, not_true_eq_false, ne_eq]; first | rw [if_pos (by omega)] | rw [if_neg (by omega)])
              · have hb' : b ≠ 1 := fun z => hE (hb.mp z)
                first | omega | (rw [if_neg hE]; exact ⟨rfl, by rw [put_eq], by simp only [put_apply, Nat.reduceEqDiff, reduceIte, false_and, and_false, true_and, and_true, and_self, if_false, if_true, not_false_eq_true, not_true_eq_false, ne_eq]; exact he⟩)
          · refine a_iconst (k := 80) rfl ?_
            refine a_goto (k := 81) rfl ?_
            first | rw [put_ne (by simp), hL'] | skip
            refine a_puti (k := 84) rfl pRX5_29 rfl rfl ?_
            refine u_iloadn (k := 85) rfl rfl ?_
            refine a_if_eq (k := 86) rfl (fun c_163 => ?_) (fun c_163 => ?_)
            · refine a_iconst (k := 89) rfl ?_
              refine a_ireturn (k := 90) rfl rfl ?_
              refine ⟨⟨_, rfl⟩, ?_, (hF'.p2 (by simp [krt])).p2 (by simp [krt])⟩
              unfold RT_
              rw [hs]
              dsimp only
              refine ⟨(hX.pt (Or.inr rfl)).pt (Or.inl rfl), ?_⟩
              by_cases hE : ed p = true
              · have hb' := hb.mpr hE
                first | omega | (rw [if_pos hE]; refine ⟨rfl, by rw [put_eq], ?_⟩; simp only [put_apply, Nat.reduceEqDiff, reduceIte, false_and, and_false, true_and, and_true, and_self, if_false, if_true, not_false_eq_true, not_true_eq_false, ne_eq]; first | rw [if_pos (by omega)] | rw [if_neg (by omega)])
              · have hb' : b ≠ 1 := fun z => hE (hb.mp z)
                first | omega | (rw [if_neg hE]; exact ⟨rfl, by rw [put_eq], by simp only [put_apply, Nat.reduceEqDiff, reduceIte, false_and, and_false, true_and, and_true, and_self, if_false, if_true, not_false_eq_true, not_true_eq_false, ne_eq]; exact he⟩)
            · refine a_iconst (k := 87) rfl ?_
              refine a_goto (k := 88) rfl ?_
              refine a_ireturn (k := 90) rfl rfl ?_
              refine ⟨⟨_, rfl⟩, ?_, (hF'.p2 (by simp [krt])).p2 (by simp [krt])⟩
              unfold RT_
              rw [hs]
              dsimp only
              refine ⟨(hX.pt (Or.inr rfl)).pt (Or.inl rfl), ?_⟩
              by_cases hE : ed p = true
              · have hb' := hb.mpr hE
                first | omega | (rw [if_pos hE]; refine ⟨rfl, by rw [put_eq], ?_⟩; simp only [put_apply, Nat.reduceEqDiff, reduceIte, false_and, and_false, true_and, and_true, and_self, if_false, if_true, not_false_eq_true, not_true_eq_false, ne_eq]; first | rw [if_pos (by omega)] | rw [if_neg (by omega)])
              · have hb' : b ≠ 1 := fun z => hE (hb.mp z)
                first | omega | (rw [if_neg hE]; exact ⟨rfl, by rw [put_eq], by simp only [put_apply, Nat.reduceEqDiff, reduceIte, false_and, and_false, true_and, and_true, and_self, if_false, if_true, not_false_eq_true, not_true_eq_false, ne_eq]; exact he⟩)
        · refine u_aloadn (k := 66) rfl rfl ?_
          refine a_geti (k := 67) rfl fRX5_44 rfl rfl ?_
          refine a_iconst (k := 68) rfl ?_
          rw [h2]
          refine a_icmp_ne (k := 69) rfl (fun c_128 => ?_) (fun c_128 => ?_)
          · refine a_iconst (k := 72) rfl ?_
            refine a_goto (k := 73) rfl ?_
            refine a_putz (k := 76) rfl pRX5_58 rfl rfl (by omega) ?_
            refine u_aloadn (k := 77) rfl rfl ?_
            refine u_iloadn (k := 78) rfl rfl ?_
            refine a_if_eq (k := 79) rfl (fun c_148 => ?_) (fun c_148 => ?_)
            · refine u_aloadn (k := 82) rfl rfl ?_
              refine a_geti (k := 83) rfl fRX5_33 rfl rfl ?_
              first | rw [put_ne (by simp), hL'] | skip
              refine a_puti (k := 84) rfl pRX5_29 rfl rfl ?_
              refine u_iloadn (k := 85) rfl rfl ?_
              refine a_if_eq (k := 86) rfl (fun c_163 => ?_) (fun c_163 => ?_)
              · refine a_iconst (k := 89) rfl ?_
                refine a_ireturn (k := 90) rfl rfl ?_
                refine ⟨⟨_, rfl⟩, ?_, (hF'.p2 (by simp [krt])).p2 (by simp [krt])⟩
                unfold RT_
                rw [hs]
                dsimp only
                refine ⟨(hX.pt (Or.inr rfl)).pt (Or.inl rfl), ?_⟩
                by_cases hE : ed p = true
                · have hb' := hb.mpr hE
                  first | omega | (rw [if_pos hE]; refine ⟨rfl, by rw [put_eq], ?_⟩; simp only [put_apply, Nat.reduceEqDiff, reduceIte, false_and, and_false, true_and, and_true, and_self, if_false, if_true, not_false_eq_true, not_true_eq_false, ne_eq]; first | rw [if_pos (by omega)] | rw [if_neg (by omega)])
                · have hb' : b ≠ 1 := fun z => hE (hb.mp z)
                  first | omega | (rw [if_neg hE]; exact ⟨rfl, by rw [put_eq], by simp only [put_apply, Nat.reduceEqDiff, reduceIte, false_and, and_false, true_and, and_true, and_self, if_false, if_true, not_false_eq_true, not_true_eq_false, ne_eq]; exact he⟩)
              · refine a_iconst (k := 87) rfl ?_
                refine a_goto (k := 88) rfl ?_
                refine a_ireturn (k := 90) rfl rfl ?_
                refine ⟨⟨_, rfl⟩, ?_, (hF'.p2 (by simp [krt])).p2 (by simp [krt])⟩
                unfold RT_
                rw [hs]
                dsimp only
                refine ⟨(hX.pt (Or.inr rfl)).pt (Or.inl rfl), ?_⟩
                by_cases hE : ed p = true
                · have hb' := hb.mpr hE
                  first | omega | (rw [if_pos hE]; refine ⟨rfl, by rw [put_eq], ?_⟩; simp only [put_apply, Nat.reduceEqDiff, reduceIte, false_and, and_false, true_and, and_true, and_self, if_false, if_true, not_false_eq_true, not_true_eq_false, ne_eq]; first | rw [if_pos (by omega)] | rw [if_neg (by omega)])
                · have hb' : b ≠ 1 := fun z => hE (hb.mp z)
                  first | omega | (rw [if_neg hE]; exact ⟨rfl, by rw [put_eq], by simp only [put_apply, Nat.reduceEqDiff, reduceIte, false_and, and_false, true_and, and_true, and_self, if_false, if_true, not_false_eq_true, not_true_eq_false, ne_eq]; exact he⟩)
            · refine a_iconst (k := 80) rfl ?_
              refine a_goto (k := 81) rfl ?_
              first | rw [put_ne (by simp), hL'] | skip
              refine a_puti (k := 84) rfl pRX5_29 rfl rfl ?_
              refine u_iloadn (k := 85) rfl rfl ?_
              refine a_if_eq (k := 86) rfl (fun c_163 => ?_) (fun c_163 => ?_)
              · refine a_iconst (k := 89) rfl ?_
                refine a_ireturn (k := 90) rfl rfl ?_
                refine ⟨⟨_, rfl⟩, ?_, (hF'.p2 (by simp [krt])).p2 (by simp [krt])⟩
                unfold RT_
                rw [hs]
                dsimp only
                refine ⟨(hX.pt (Or.inr rfl)).pt (Or.inl rfl), ?_⟩
                by_cases hE : ed p = true
                · have hb' := hb.mpr hE
                  first | omega | (rw [if_pos hE]; refine ⟨rfl, by rw [put_eq], ?_⟩; simp only [put_apply, Nat.reduceEqDiff, reduceIte, false_and, and_false, true_and, and_true, and_self, if_false, if_true, not_false_eq_true, not_true_eq_false, ne_eq]; first | rw [if_pos (by omega)] | rw [if_neg (by omega)])
                · have hb' : b ≠ 1 := fun z => hE (hb.mp z)
                  first | omega | (rw [if_neg hE]; exact ⟨rfl, by rw [put_eq], by simp only [put_apply, Nat.reduceEqDiff, reduceIte, false_and, and_false, true_and, and_true, and_self, if_false, if_true, not_false_eq_true, not_true_eq_false, ne_eq]; exact he⟩)
              · refine a_iconst (k := 87) rfl ?_
                refine a_goto (k := 88) rfl ?_
                refine a_ireturn (k := 90) rfl rfl ?_
                refine ⟨⟨_, rfl⟩, ?_, (hF'.p2 (by simp [krt])).p2 (by simp [krt])⟩
                unfold RT_
                rw [hs]
                dsimp only
                refine ⟨(hX.pt (Or.inr rfl)).pt (Or.inl rfl), ?_⟩
                by_cases hE : ed p = true
                · have hb' := hb.mpr hE
                  first | omega | (rw [if_pos hE]; refine ⟨rfl, by rw [put_eq], ?_⟩; simp only [put_apply, Nat.reduceEqDiff, reduceIte, false_and, and_false, true_and, and_true, and_self, if_false, if_true, not_false_eq_true, not_true_eq_false, ne_eq]; first | rw [if_pos (by omega)] | rw [if_neg (by omega)])
                · have hb' : b ≠ 1 := fun z => hE (hb.mp z)
                  first | omega | (rw [if_neg hE]; exact ⟨rfl, by rw [put_eq], by simp only [put_apply, Nat.reduceEqDiff, reduceIte, false_and, and_false, true_and, and_true, and_self, if_false, if_true, not_false_eq_true, not_true_eq_false, ne_eq]; exact he⟩)
          · refine a_iconst (k := 70) rfl ?_
            refine a_goto (k := 71) rfl ?_
            refine a_putz (k := 76) rfl pRX5_58 rfl rfl (by omega) ?_
            refine u_aloadn (k := 77) rfl rfl ?_
            refine u_iloadn (k := 78) rfl rfl ?_
            refine a_if_eq (k := 79) rfl (fun c_148 => ?_) (fun c_148 => ?_)
            · refine u_aloadn (k := 82) rfl rfl ?_
              refine a_geti (k := 83) rfl fRX5_33 rfl rfl ?_
              first | rw [put_ne (by simp), hL'] | skip
              refine a_puti (k := 84) rfl pRX5_29 rfl rfl ?_
              refine u_iloadn (k := 85) rfl rfl ?_
              refine a_if_eq (k := 86) rfl (fun c_163 => ?_) (fun c_163 => ?_)
              · refine a_iconst (k := 89) rfl ?_
                refine a_ireturn (k := 90) rfl rfl ?_
                refine ⟨⟨_, rfl⟩, ?_, (hF'.p2 (by simp [krt])).p2 (by simp [krt])⟩
                unfold RT_
                rw [hs]
                dsimp only
                refine ⟨(hX.pt (Or.inr rfl)).pt (Or.inl rfl), ?_⟩
                by_cases hE : ed p = true
                · have hb' := hb.mpr hE
                  first | omega | (rw [if_pos hE]; refine ⟨rfl, by rw [put_eq], ?_⟩; simp only [put_apply, Nat.reduceEqDiff, reduceIte, false_and, and_false, true_and, and_true, and_self, if_false, if_true, not_false_eq_true, not_true_eq_false, ne_eq]; first | rw [if_pos (by omega)] | rw [if_neg (by omega)])
                · have hb' : b ≠ 1 := fun z => hE (hb.mp z)
                  first | omega | (rw [if_neg hE]; exact ⟨rfl, by rw [put_eq], by simp only [put_apply, Nat.reduceEqDiff, reduceIte, false_and, and_false, true_and, and_true, and_self, if_false, if_true, not_false_eq_true, not_true_eq_false, ne_eq]; exact he⟩)
              · refine a_iconst (k := 87) rfl ?_
                refine a_goto (k := 88) rfl ?_
                refine a_ireturn (k := 90) rfl rfl ?_
                refine ⟨⟨_, rfl⟩, ?_, (hF'.p2 (by simp [krt])).p2 (by simp [krt])⟩
                unfold RT_
                rw [hs]
                dsimp only
                refine ⟨(hX.pt (Or.inr rfl)).pt (Or.inl rfl), ?_⟩
                by_cases hE : ed p = true
                · have hb' := hb.mpr hE
                  first | omega | (rw [if_pos hE]; refine ⟨rfl, by rw [put_eq], ?_⟩; simp only [put_apply, Nat.reduceEqDiff, reduceIte, false_and, and_false, true_and, and_true, and_self, if_false, if_true, not_false_eq_true, not_true_eq_false, ne_eq]; first | rw [if_pos (by omega)] | rw [if_neg (by omega)])
                · have hb' : b ≠ 1 := fun z => hE (hb.mp z)
                  first | omega | (rw [if_neg hE]; exact ⟨rfl, by rw [put_eq], by simp only [put_apply, Nat.reduceEqDiff, reduceIte, false_and, and_false, true_and, and_true, and_self, if_false, if_true, not_false_eq_true, not_true_eq_false, ne_eq]; exact he⟩)
            · refine a_iconst (k := 80) rfl ?_
              refine a_goto (k := 81) rfl ?_
              first | rw [put_ne (by simp), hL'] | skip
              refine a_puti (k := 84) rfl pRX5_29 rfl rfl ?_
              refine u_iloadn (k := 85) rfl rfl ?_
              refine a_if_eq (k := 86) rfl (fun c_163 => ?_) (fun c_163 => ?_)
              · refine a_iconst (k := 89) rfl ?_
                refine a_ireturn (k := 90) rfl rfl ?_
                refine ⟨⟨_, rfl⟩, ?_, (hF'.p2 (by simp [krt])).p2 (by simp [krt])⟩
                unfold RT_
                rw [hs]
                dsimp only
                refine ⟨(hX.pt (Or.inr rfl)).pt (Or.inl rfl), ?_⟩
                by_cases hE : ed p = true
                · have hb' := hb.mpr hE
                  first | omega | (rw [if_pos hE]; refine ⟨rfl, by rw [put_eq], ?_⟩; simp only [put_apply, Nat.reduceEqDiff, reduceIte, false_and, and_false, true_and, and_true, and_self, if_false, if_true, not_false_eq_true, not_true_eq_false, ne_eq]; first | rw [if_pos (by omega)] | rw [if_neg (by omega)])
                · have hb' : b ≠ 1 := fun z => hE (hb.mp z)
                  first | omega | (rw [if_neg hE]; exact ⟨rfl, by rw [put_eq], by simp only [put_apply, Nat.reduceEqDiff, reduceIte, false_and, and_false, true_and, and_true, and_self, if_false, if_true, not_false_eq_true, not_true_eq_false, ne_eq]; exact he⟩)
              · refine a_iconst (k := 87) rfl ?_
                refine a_goto (k := 88) rfl ?_
                refine a_ireturn (k := 90) rfl rfl ?_
                refine ⟨⟨_, rfl⟩, ?_, (hF'.p2 (by simp [krt])).p2 (by simp [krt])⟩
                unfold RT_
                rw [hs]
                dsimp only
                refine ⟨(hX.pt (Or.inr rfl)).pt (Or.inl rfl), ?_⟩
                by_cases hE : ed p = true
                · have hb' := hb.mpr hE
                  first | omega | (rw [if_pos hE]; refine ⟨rfl, by rw [put_eq], ?_⟩; simp only [put_apply, Nat.reduceEqDiff, reduceIte, false_and, and_false, true_and, and_true, and_self, if_false, if_true, not_false_eq_true, not_true_eq_false, ne_eq]; first | rw [if_pos (by omega)] | rw [if_neg (by omega)])
                · have hb' : b ≠ 1 := fun z => hE (hb.mp z)
                  first | omega | (rw [if_neg hE]; exact ⟨rfl, by rw [put_eq], by simp only [put_apply, Nat.reduceEqDiff, reduceIte, false_and, and_false, true_and, and_true, and_self, if_false, if_true, not_false_eq_true, not_true_eq_false, ne_eq]; exact he⟩)
      refine u_iloadn (k := 13) rfl rfl ?_
      refine u_aloadn (k := 14) rfl rfl ?_
      refine a_geti (k := 15) rfl fRX5_33 rfl rfl ?_
      rw [hL']
      refine a_icmp_ge (k := 16) rfl (fun c_28 => ?_) (fun c_28 => ?_)
      · refine u_aloadn (k := 52) rfl rfl ?_
        refine a_geti (k := 53) rfl fRX5_44 rfl rfl ?_
        rw [h2]
        refine a_if_eq (k := 54) rfl (fun c_101 => ?_) (fun c_101 => ?_)
        · refine a_iconst (k := 59) rfl ?_
          refine a_goto (k := 60) rfl ?_
          refine a_istoren (k := 62) (lv' := [(1, _), (0, _)]) rfl (Nat.le_of_ble_eq_true rfl) rfl ?_
          first | exact Tend 1 (by simp [ed]; omega) (by omega) | exact Tend 0 (by simp [ed]; omega) (by omega)
        · refine u_aloadn (k := 55) rfl rfl ?_
          refine a_geti (k := 56) rfl fRX5_44 rfl rfl ?_
          refine a_iconst (k := 57) rfl ?_
          rw [h2]
          refine a_icmp_ne (k := 58) rfl (fun c_109 => ?_) (fun c_109 => ?_)
          · refine a_iconst (k := 61) rfl ?_
            refine a_istoren (k := 62) (lv' := [(1, _), (0, _)]) rfl (Nat.le_of_ble_eq_true rfl) rfl ?_
            first | exact Tend 1 (by simp [ed]; omega) (by omega) | exact Tend 0 (by simp [ed]; omega) (by omega)
          · refine a_iconst (k := 59) rfl ?_
            refine a_goto (k := 60) rfl ?_
            refine a_istoren (k := 62) (lv' := [(1, _), (0, _)]) rfl (Nat.le_of_ble_eq_true rfl) rfl ?_
            first | exact Tend 1 (by simp [ed]; omega) (by omega) | exact Tend 0 (by simp [ed]; omega) (by omega)
      · omega
    | succ m ih =>
      intro q p g hq hs hX hF
      have hL' : g 7 0 4 = (L : Int) := by rw [hF 7 0 4 (by simp [trd]) (by simp [krd])]; exact hL
      have ht' : g 8 0 q = (tx q : Int) := by rw [hF 8 0 q (by simp [trd]) (by simp [krd])]; exact ht q (by omega)
      have ht2' := ht2 q (by omega)
      have T67 : ∀ (r : Int) (g1 : HH), RE g (rs p (tx q) q) (p.2.2.1 : Int) (some (vi r)) g1 → AW mX5_readText (fun r g => (∃ a, r = some (vi a)) ∧ RT_ L tx h r g ∧ Fr trd krt h g) 67 [(0, vr 7 0), (1, vi q)] [vi r] g1 := by
        intro r g1 hr
        obtain ⟨hr1, hF1, hr2⟩ := hr
        cases hr1
        have hF2 : Fr trd krd h g1 := hF.tr hF1 (fun _ q => q) (fun _ q => Or.inl q)
        have hF' : Fr trd krt h g1 := hF2.mono (fun _ q => q) (fun q hq => Or.inl (krd_krt q hq))
        have h11 : g1 7 0 11 = h 7 0 11 := hF2 7 0 11 (by simp [trd]) (by simp [krd])
        cases hw : rs p (tx q) q with
        | inl p' =>
          rw [hw] at hr2
          have hs' : rgo tx (q + 1) = .inl p' := by unfold rgo; rw [hs]; dsimp only; rw [hw]
          have e0 : rv (.inl p' : PS ⊕ Nat) = 0 := rfl
          rw [e0]
          refine a_istoren (k := 36) (lv' := [(2, _), (0, _), (1, _)]) rfl (Nat.le_of_ble_eq_true rfl) rfl ?_
          refine u_iloadn (k := 37) rfl rfl ?_
          refine a_if_eq (k := 38) rfl (fun c_69 => ?_) (fun c_69 => ?_)
          · refine u_iinc (k := 50) (lv' := [(1, _), (2, _), (0, _)]) rfl rfl (Nat.le_of_ble_eq_true rfl) (by omega) rfl ?_
            refine a_goto (k := 51) rfl ?_
            refine a_sub [2, 0] rfl ?_
            exact ih (q + 1) p' g1 (by omega) hs' hr2 hF2
          · omega
        | inr e =>
          rw [hw] at hr2
          obtain ⟨hf, he1, he2⟩ := hr2
          have hs' : rgo tx (q + 1) = .inr (e, if e = 2 then p.2.2.1 else q) := by unfold rgo; rw [hs]; dsimp only; rw [hw]
          have hsL := rgo_f hs' m
          rw [show q + 1 + m = L by omega] at hsL
          have e0 : rv (.inr e : PS ⊕ Nat) = (e : Int) := rfl
          rw [e0]
          refine a_istoren (k := 36) (lv' := [(2, _), (0, _), (1, _)]) rfl (Nat.le_of_ble_eq_true rfl) rfl ?_
          refine u_iloadn (k := 37) rfl rfl ?_
          refine a_if_eq (k := 38) rfl (fun c_69 => ?_) (fun c_69 => ?_)
          · omega
          · refine u_aloadn (k := 39) rfl rfl ?_
            refine u_iloadn (k := 40) rfl rfl ?_
            refine a_iconst (k := 41) rfl ?_
            refine a_icmp_ne (k := 42) rfl (fun c_75 => ?_) (fun c_75 => ?_)
            · refine u_iloadn (k := 46) rfl rfl ?_
              refine a_puti (k := 47) rfl pRX5_29 rfl rfl ?_
              refine u_iloadn (k := 48) rfl rfl ?_
              refine a_ireturn (k := 49) rfl rfl ?_
              refine ⟨⟨_, rfl⟩, ?_, hF'.p2 (by simp [krt])⟩
              unfold RT_
              rw [hsL]
              dsimp only
              first | (rw [if_pos (by omega)]; exact ⟨rfl, by rw [put_eq]; exact hf (by omega), he1, he2, by simp only [put_apply, Nat.reduceEqDiff, reduceIte, false_and, and_false, true_and, and_true, and_self, if_false, if_true, not_false_eq_true, not_true_eq_false, ne_eq]; exact h11⟩) | (rw [if_neg (by omega)]; exact ⟨rfl, by rw [put_eq], he1, he2, by simp only [put_apply, Nat.reduceEqDiff, reduceIte, false_and, and_false, true_and, and_true, and_self, if_false, if_true, not_false_eq_true, not_true_eq_false, ne_eq]; exact h11⟩)
            · refine u_aloadn (k := 43) rfl rfl ?_
              refine a_geti (k := 44) rfl fRX5_55 rfl rfl ?_
              refine a_goto (k := 45) rfl ?_
              refine a_puti (k := 47) rfl pRX5_29 rfl rfl ?_
              refine u_iloadn (k := 48) rfl rfl ?_
              refine a_ireturn (k := 49) rfl rfl ?_
              refine ⟨⟨_, rfl⟩, ?_, hF'.p2 (by simp [krt])⟩
              unfold RT_
              rw [hsL]
              dsimp only
              first | (rw [if_pos (by omega)]; exact ⟨rfl, by rw [put_eq]; exact hf (by omega), he1, he2, by simp only [put_apply, Nat.reduceEqDiff, reduceIte, false_and, and_false, true_and, and_true, and_self, if_false, if_true, not_false_eq_true, not_true_eq_false, ne_eq]; exact h11⟩) | (rw [if_neg (by omega)]; exact ⟨rfl, by rw [put_eq], he1, he2, by simp only [put_apply, Nat.reduceEqDiff, reduceIte, false_and, and_false, true_and, and_true, and_self, if_false, if_true, not_false_eq_true, not_true_eq_false, ne_eq]; exact h11⟩)
      refine u_iloadn (k := 13) rfl rfl ?_
      refine u_aloadn (k := 14) rfl rfl ?_
      refine a_geti (k := 15) rfl fRX5_33 rfl rfl ?_
      rw [hL']
      refine a_icmp_ge (k := 16) rfl (fun c_28 => ?_) (fun c_28 => ?_)
      · omega
      · refine u_iloadn (k := 17) rfl rfl ?_
        refine a_sipush (k := 18) rfl ?_
        refine a_icmp_ge (k := 19) rfl (fun c_35 => ?_) (fun c_35 => ?_)
        · omega
        · refine u_aloadn (k := 20) rfl rfl ?_
          refine a_getr (k := 21) rfl fRX5_9 rfl rfl rfl ?_
          refine u_iloadn (k := 22) rfl rfl ?_
          refine u_iald (k := 23) rfl rfl rfl (by omega) ?_
          refine a_bipush (k := 24) rfl ?_
          rw [ht']
          refine a_icmp_ne (k := 25) rfl (fun c_46 => ?_) (fun c_46 => ?_)
          · refine u_aloadn (k := 29) rfl rfl ?_
            refine u_aloadn (k := 30) rfl rfl ?_
            refine a_getr (k := 31) rfl fRX5_9 rfl rfl rfl ?_
            refine u_iloadn (k := 32) rfl rfl ?_
            refine u_iald (k := 33) rfl rfl rfl (by omega) ?_
            refine u_iloadn (k := 34) rfl rfl ?_
            rw [ht']
            refine ui_virt2 (M' := mX5_readLetter) (k := 35) rfl lRX5_51 oX5_readLetter vX5_readLetter ⟨Nat.le_of_ble_eq_true rfl, Nat.le_of_ble_eq_true rfl⟩ rfl rfl (Nat.le_of_ble_eq_true rfl) (x_letter (tx q) q p g hX (by omega) ht2' (by omega)) (by intro r g hp; exact ⟨_, hp.1⟩) (fun r g1 hg1 => ?_)
            exact T67 r g1 hg1
          · refine u_aloadn (k := 26) rfl rfl ?_
            refine ui_virt0 (M' := mX5_readBlank) (k := 27) rfl lRX5_47 oX5_readBlank vX5_readBlank ⟨Nat.le_of_ble_eq_true rfl, Nat.le_of_ble_eq_true rfl⟩ rfl rfl (Nat.le_of_ble_eq_true rfl) (x_blank q p g hX) (by intro r g hp; exact ⟨_, hp.1⟩) (fun r g1 hg1 => ?_)
            rw [← show tx q = 32 by omega] at hg1
            refine a_goto (k := 28) rfl ?_
            exact T67 r g1 hg1
  refine u_aloadn (k := 0) rfl rfl ?_
  refine a_getr (k := 1) rfl fRX5_15 rfl rfl rfl ?_
  refine a_iconst (k := 2) rfl ?_
  refine a_puti (k := 3) rfl pRX5_36 rfl rfl ?_
  refine u_aloadn (k := 4) rfl rfl ?_
  refine a_getr (k := 5) rfl fRX5_15 rfl rfl rfl ?_
  refine a_iconst (k := 6) rfl ?_
  refine a_puti (k := 7) rfl pRX5_41 rfl rfl ?_
  refine u_aloadn (k := 8) rfl rfl ?_
  refine a_iconst (k := 9) rfl ?_
  refine a_puti (k := 10) rfl pRX5_44 rfl rfl ?_
  refine a_iconst (k := 11) rfl ?_
  refine a_istoren (k := 12) (lv' := [(1, _), (0, _)]) rfl (Nat.le_of_ble_eq_true rfl) rfl ?_
  refine a_sub [1, 0] rfl ?_
  exact Lp L 0 PS0 _ (by omega) rfl ⟨by decide, by simp only [put_apply, Nat.reduceEqDiff, reduceIte, false_and, and_false, true_and, and_true, and_self, if_false, if_true, not_false_eq_true, not_true_eq_false, ne_eq]; rfl, fun z => absurd z (by decide), fun z => absurd z (by decide), fun z => absurd z (by decide), by simp only [put_apply, Nat.reduceEqDiff, reduceIte, false_and, and_false, true_and, and_true, and_self, if_false, if_true, not_false_eq_true, not_true_eq_false, ne_eq]; rfl, by decide, by simp only [put_apply, Nat.reduceEqDiff, reduceIte, false_and, and_false, true_and, and_true, and_self, if_false, if_true, not_false_eq_true, not_true_eq_false, ne_eq]; rfl, by decide, fun k hk => absurd hk (Nat.not_lt_zero k), fun z => absurd z (by decide)⟩ (((Fr.rf.p1 (by simp [trd])).p1 (by simp [trd])).p2 (by simp [krd]))
