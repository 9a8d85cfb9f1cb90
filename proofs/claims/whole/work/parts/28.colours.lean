/-! Colours: rows of numbers, solved by m -/
abbrev MT : Type := Nat → Nat → Nat
def MX (c : Nat) (A : MT) (g : HH) : Prop := ∀ r k, r < c → k < 8 → g 27 r k = (A r k : Int)
def um (A : MT) (r k v : Nat) : MT := fun r' k' => if r' = r ∧ k' = k then v else A r' k'
theorem MX.put {c : Nat} {A : MT} {g : HH} {r k v : Nat} {w : Int} (h : MX c A g) (hw : w = (v : Int)) : MX c (um A r k v) (put g 27 r k w) := by
  intro r' k' h1 h2
  unfold um
  by_cases he : r' = r ∧ k' = k
  · rw [he.1, he.2, put_eq, if_pos ⟨rfl, rfl⟩, hw]
  · rw [put_ne (fun z => he ⟨z.2.1, z.2.2⟩), if_neg he]
    exact h r' k' h1 h2
theorem MX.keep {c : Nat} {A : MT} {g g' : HH} (h : MX c A g) (hk : ∀ r k, g' 27 r k = g 27 r k) : MX c A g' := fun r k h1 h2 => by rw [hk]; exact h r k h1 h2
theorem MX.cong {c : Nat} {A B : MT} {g : HH} (h : MX c A g) (hk : ∀ r k, r < c → k < 8 → A r k = B r k) : MX c B g := fun r k h1 h2 => by rw [← hk r k h1 h2]; exact h r k h1 h2
def t27 : List (Nat × Nat) := [(27, 0), (27, 1), (27, 2), (27, 3), (27, 4), (27, 5), (27, 6), (27, 7)]
theorem t27_in {r : Nat} (h : r < 8) : (27, r) ∈ t27 := by
  unfold t27
  rcases (show r = 0 ∨ r = 1 ∨ r = 2 ∨ r = 3 ∨ r = 4 ∨ r = 5 ∨ r = 6 ∨ r = 7 by omega) with rfl | rfl | rfl | rfl | rfl | rfl | rfl | rfl <;> simp
theorem t27_no {t i : Nat} (h : t ≠ 27) : (t, i) ∉ t27 := by
  unfold t27
  simp [h]
def exch (P : Nat) (A : MT) (a b n : Nat) : MT := fun r k => if k < n then (if r = a then A b k else if r = b then A a k else A r k) else A r k
theorem x_exchange (P c a b : Nat) (A : MT) (h : HH) (hP : h 25 0 4 = (P : Int)) (hP8 : P ≤ 8) (hA : MX c A h) (hc8 : c ≤ 8) (ha : a < c) (hb : b < c) :
    Sp mX1_exchangeRows [vr 25 0, vi a, vi b] h (fun r g => r = none ∧ MX c (exch P A a b P) g ∧ Fr t27 [] h g) := by
  refine Sp.of rfl kX1_exchangeRows (Nat.le_of_ble_eq_true rfl) ?_
  have L : ∀ (m n : Nat) (g : HH), n + m = P → MX c (exch P A a b n) g → Fr t27 [] h g → AW mX1_exchangeRows (fun r g => r = none ∧ MX c (exch P A a b P) g ∧ Fr t27 [] h g) 2 [(0, vr 25 0), (1, vi a), (2, vi b), (3, vi n)] [] g := by
    intro m
    induction m with
    | zero =>
      intro n g hn hM hF
      have hn : n = P := by omega
      subst hn
      have hP' : g 25 0 4 = (n : Int) := (hF 25 0 4 (t27_no (by omega)) (by simp)).trans hP
      refine u_iloadn (k := 2) rfl rfl ?_
      refine u_aloadn (k := 3) rfl rfl ?_
      refine a_geti (k := 4) rfl fRX1_34 rfl rfl ?_
      refine a_icmp_ge (k := 5) rfl (fun c_7 => ?_) (fun c_7 => ?_)
      · refine a_return (k := 34) rfl rfl ?_
        exact ⟨rfl, hM, hF⟩
      · omega
    | succ m ih =>
      intro n g hn hM hF
      have hP' : g 25 0 4 = (P : Int) := (hF 25 0 4 (t27_no (by omega)) (by simp)).trans hP
      have e1 : g 27 a n = (A a n : Int) := by rw [hM a n ha (by omega)]; simp [exch]
      have e2 : g 27 b n = (A b n : Int) := by rw [hM b n hb (by omega)]; simp [exch]
      refine u_iloadn (k := 2) rfl rfl ?_
      refine u_aloadn (k := 3) rfl rfl ?_
      refine a_geti (k := 4) rfl fRX1_34 rfl rfl ?_
      refine a_icmp_ge (k := 5) rfl (fun c_7 => ?_) (fun c_7 => ?_)
      · omega
      · refine u_aloadn (k := 6) rfl rfl ?_
        refine a_getr (k := 7) rfl fRX1_11 rfl rfl rfl ?_
        refine u_iloadn (k := 8) rfl rfl ?_
        refine u_aald (k := 9) rfl rfl rfl (by decide) (by omega) rfl ?_
        refine u_iloadn (k := 10) rfl rfl ?_
        refine u_iald (k := 11) rfl rfl rfl (by omega) ?_
        rw [e1]
        refine a_istore (k := 12) (lv' := [(4, _), (0, _), (1, _), (2, _), (3, _)]) rfl (Nat.le_of_ble_eq_true rfl) rfl ?_
        refine u_aloadn (k := 13) rfl rfl ?_
        refine a_getr (k := 14) rfl fRX1_11 rfl rfl rfl ?_
        refine u_iloadn (k := 15) rfl rfl ?_
        refine u_aald (k := 16) rfl rfl rfl (by decide) (by omega) rfl ?_
        refine u_iloadn (k := 17) rfl rfl ?_
        refine u_aloadn (k := 18) rfl rfl ?_
        refine a_getr (k := 19) rfl fRX1_11 rfl rfl rfl ?_
        refine u_iloadn (k := 20) rfl rfl ?_
        refine u_aald (k := 21) rfl rfl rfl (by decide) (by omega) rfl ?_
        refine u_iloadn (k := 22) rfl rfl ?_
        refine u_iald (k := 23) rfl rfl rfl (by omega) ?_
        rw [e2]
        refine u_iast (k := 24) rfl rfl rfl (by omega) ?_
        refine u_aloadn (k := 25) rfl rfl ?_
        refine a_getr (k := 26) rfl fRX1_11 rfl rfl rfl ?_
        refine u_iloadn (k := 27) rfl rfl ?_
        refine u_aald (k := 28) rfl rfl rfl (by decide) (by omega) rfl ?_
        refine u_iloadn (k := 29) rfl rfl ?_
        refine u_iload (k := 30) rfl rfl ?_
        refine u_iast (k := 31) rfl rfl rfl (by omega) ?_
        refine u_iinc (k := 32) (lv' := [(3, _), (4, _), (0, _), (1, _), (2, _)]) rfl rfl (Nat.le_of_ble_eq_true rfl) (by omega) rfl ?_
        refine a_goto (k := 33) rfl ?_
        refine a_sub [2, 3, 4, 0] rfl ?_
        refine ih (n + 1) _ (by omega) (((hM.put rfl).put rfl).cong (fun r k h1 h2 => ?_)) ((hF.p1 (t27_in (by omega))).p1 (t27_in (by omega)))
        unfold um exch
        by_cases hk : k = n
        · subst hk
          by_cases hra : r = a
          · subst hra
            by_cases hrb : r = b
            · subst hrb; simp
            · simp [hrb]
          · by_cases hrb : r = b
            · subst hrb; simp [hra]
            · simp [hra, hrb]
        · by_cases hlt : k < n
          · simp [hk, hlt, show k < n + 1 by omega]
          · simp [hk, hlt, show ¬ k < n + 1 by omega]
  refine a_iconst (k := 0) rfl ?_
  refine a_istoren (k := 1) (lv' := [(3, _), (0, _), (1, _), (2, _)]) rfl (Nat.le_of_ble_eq_true rfl) rfl ?_
  refine a_sub [1, 2, 3, 0] rfl ?_
  exact L P 0 h (by omega) (hA.cong (fun r k _ _ => by simp [exch])) Fr.rf
/-- the first row from r on, of m rows, with something at k -/
def rwt (A : MT) (k : Nat) : Nat → Nat → Option Nat
  | 0, _ => none
  | m + 1, r => if A r k = 0 then rwt A k m (r + 1) else some r
def oi (o : Option Nat) : Int := match o with
  | some r => (r : Int)
  | none => -1
theorem rwt_some {A : MT} {k : Nat} : ∀ {m r q : Nat}, rwt A k m r = some q → r ≤ q ∧ q < r + m ∧ A q k ≠ 0 ∧ ∀ i, r ≤ i → i < q → A i k = 0
  | 0, r, q, h => by cases h
  | m + 1, r, q, h => by
    unfold rwt at h
    split at h
    · rename_i h0
      obtain ⟨h1, h2, h3, h4⟩ := rwt_some h
      refine ⟨by omega, by omega, h3, fun i hi hq => ?_⟩
      by_cases he : i = r
      · subst he; exact h0
      · exact h4 i (by omega) hq
    · rename_i h0
      cases h
      exact ⟨Nat.le_refl _, by omega, h0, fun i h1 h2 => by omega⟩
theorem rwt_none {A : MT} {k : Nat} : ∀ {m r : Nat}, rwt A k m r = none → ∀ i, r ≤ i → i < r + m → A i k = 0
  | 0, r, _, i, h1, h2 => by omega
  | m + 1, r, h, i, h1, h2 => by
    unfold rwt at h
    split at h
    · rename_i h0
      by_cases he : i = r
      · subst he; exact h0
      · exact rwt_none h i (by omega) (by omega)
    · cases h
theorem x_rowWith (k c rk : Nat) (A : MT) (h : HH) (hr : h 25 0 5 = (rk : Int)) (hA : MX c A h) (hc : c ≤ 8) (hk : k < 8) (hrc : rk ≤ c) : SpI mX1_rowWith [vr 25 0, vi k, vi c] h (oi (rwt A k (c - rk) rk)) h := by
  refine Sp.of rfl kX1_rowWith (Nat.le_of_ble_eq_true rfl) ?_
  have L : ∀ (m r : Nat), r + m = c → rk ≤ r → AW mX1_rowWith (fun z g => z = some (vi (oi (rwt A k m r))) ∧ g = h) 5 [(0, vr 25 0), (1, vi k), (2, vi c), (3, vi r)] [] h := by
    intro m
    induction m with
    | zero =>
      intro r hrm hr2
      refine u_iloadn (k := 3) rfl rfl ?_
      refine u_iloadn (k := 4) rfl rfl ?_
      refine a_icmp_ge (k := 5) rfl (fun c_7 => ?_) (fun c_7 => ?_)
      · refine a_iconst (k := 17) rfl ?_
        refine a_ireturn (k := 18) rfl rfl ?_
        exact ⟨rfl, rfl⟩
      · omega
    | succ m ih =>
      intro r hrm hr2
      have e1 : rwt A k (m + 1) r = if A r k = 0 then rwt A k m (r + 1) else some r := rfl
      refine u_iloadn (k := 3) rfl rfl ?_
      refine u_iloadn (k := 4) rfl rfl ?_
      refine a_icmp_ge (k := 5) rfl (fun c_7 => ?_) (fun c_7 => ?_)
      · omega
      · refine u_aloadn (k := 6) rfl rfl ?_
        refine a_getr (k := 7) rfl fRX1_11 rfl rfl rfl ?_
        refine u_iloadn (k := 8) rfl rfl ?_
        refine u_aald (k := 9) rfl rfl rfl (by decide) (by omega) rfl ?_
        refine u_iloadn (k := 10) rfl rfl ?_
        refine u_iald (k := 11) rfl rfl rfl (by omega) ?_
        rw [hA r k (by omega) hk]
        refine a_if_eq (k := 12) rfl (fun c_18 => ?_) (fun c_18 => ?_)
        · refine u_iinc (k := 15) (lv' := [(3, _), (0, _), (1, _), (2, _)]) rfl rfl (Nat.le_of_ble_eq_true rfl) (by omega) rfl ?_
          refine a_goto (k := 16) rfl ?_
          refine a_sub [1, 2, 3, 0] rfl ?_
          rw [e1, if_pos (by omega)]; exact ih (r + 1) (by omega) (by omega)
        · refine u_iloadn (k := 13) rfl rfl ?_
          refine a_ireturn (k := 14) rfl rfl ?_
          exact ⟨by rw [e1, if_neg (by omega)]; rfl, rfl⟩
  refine u_aloadn (k := 0) rfl rfl ?_
  refine a_geti (k := 1) rfl fRX1_30 rfl rfl ?_
  rw [hr]
  refine a_istoren (k := 2) (lv' := [(3, _), (0, _), (1, _), (2, _)]) rfl (Nat.le_of_ble_eq_true rfl) rfl ?_
  refine a_sub [1, 2, 3, 0] rfl ?_
  exact L (c - rk) rk (by omega) (Nat.le_refl _)
/-- what makes a 1 of v by m -/
def fct (v m : Nat) : Nat → Nat → Nat
  | 0, q => q
  | n + 1, q => if v * q % m = 1 then q else fct v m n (q + 1)
theorem fct_le (v m : Nat) : ∀ n q, fct v m n q ≤ q + n
  | 0, q => Nat.le_refl _
  | n + 1, q => by
    unfold fct
    split
    · omega
    · have := fct_le v m n (q + 1); omega
def scl (A : MT) (r q m n : Nat) : MT := fun r' k => if r' = r ∧ k < n then A r' k * q % m else A r' k
theorem x_scaleRow (P c r k m : Nat) (A : MT) (h : HH) (hP : h 25 0 4 = (P : Int)) (hP8 : P ≤ 8) (hA : MX c A h) (hc8 : c ≤ 8) (hr : r < c) (hk : k < P) (hm : 2 ≤ m) (hm5 : m ≤ 5) (hlt : ∀ r k, r < c → k < 8 → A r k < m) :
    Sp mX1_scaleRow [vr 25 0, vi r, vi k, vi m] h (fun z g => z = none ∧ MX c (scl A r (fct (A r k) m (m - 1) 1) m P) g ∧ Fr t27 [] h g) := by
  refine Sp.of rfl kX1_scaleRow (Nat.le_of_ble_eq_true rfl) ?_
  have hq5 := fct_le (A r k) m (m - 1) 1
  have L2 : ∀ (d n : Nat) (g : HH), n + d = P → MX c (scl A r (fct (A r k) m (m - 1) 1) m n) g → Fr t27 [] h g → AW mX1_scaleRow (fun z g => z = none ∧ MX c (scl A r (fct (A r k) m (m - 1) 1) m P) g ∧ Fr t27 [] h g) 37 [(0, vr 25 0), (1, vi r), (3, vi m), (4, vi (fct (A r k) m (m - 1) 1)), (5, vi n)] [] g := by
    intro d
    generalize fct (A r k) m (m - 1) 1 = q at hq5
    induction d with
    | zero =>
      intro n g hn hM hF
      have hn : n = P := by omega
      subst hn
      have hP' : g 25 0 4 = (n : Int) := (hF 25 0 4 (t27_no (by omega)) (by simp)).trans hP
      refine u_iload (k := 21) rfl rfl ?_
      refine u_aloadn (k := 22) rfl rfl ?_
      refine a_geti (k := 23) rfl fRX1_34 rfl rfl ?_
      refine a_icmp_ge (k := 24) rfl (fun c_43 => ?_) (fun c_43 => ?_)
      · refine a_return (k := 43) rfl rfl ?_
        exact ⟨rfl, hM, hF⟩
      · omega
    | succ d ih =>
      intro n g hn hM hF
      have hP' : g 25 0 4 = (P : Int) := (hF 25 0 4 (t27_no (by omega)) (by simp)).trans hP
      have e1 : g 27 r n = (A r n : Int) := by rw [hM r n hr (by omega)]; simp [scl]
      have hl := hlt r n hr (by omega)
      have hmul : A r n * q ≤ 5 * 5 := Nat.mul_le_mul (by omega) (by omega)
      have e2 : (A r n : Int) * (q : Int) = ((A r n * q : Nat) : Int) := by push_cast; rfl
      refine u_iload (k := 21) rfl rfl ?_
      refine u_aloadn (k := 22) rfl rfl ?_
      refine a_geti (k := 23) rfl fRX1_34 rfl rfl ?_
      refine a_icmp_ge (k := 24) rfl (fun c_43 => ?_) (fun c_43 => ?_)
      · omega
      · refine u_aloadn (k := 25) rfl rfl ?_
        refine a_getr (k := 26) rfl fRX1_11 rfl rfl rfl ?_
        refine u_iloadn (k := 27) rfl rfl ?_
        refine u_aald (k := 28) rfl rfl rfl (by decide) (by omega) rfl ?_
        refine u_iload (k := 29) rfl rfl ?_
        refine u_aloadn (k := 30) rfl rfl ?_
        refine a_getr (k := 31) rfl fRX1_11 rfl rfl rfl ?_
        refine u_iloadn (k := 32) rfl rfl ?_
        refine u_aald (k := 33) rfl rfl rfl (by decide) (by omega) rfl ?_
        refine u_iload (k := 34) rfl rfl ?_
        refine u_iald (k := 35) rfl rfl rfl (by omega) ?_
        refine u_iload (k := 36) rfl rfl ?_
        rw [e1]
        refine u_imul (k := 37) rfl (by rw [e2]; omega) ?_
        refine u_iloadn (k := 38) rfl rfl ?_
        rw [e2]
        refine i_statN2 (M' := mX10_leftOver) (k := 39) rfl lRX1_37 oX10_leftOver vX10_leftOver ⟨Nat.le_of_ble_eq_true rfl, Nat.le_of_ble_eq_true rfl⟩ rfl (Nat.le_of_ble_eq_true rfl) (x_leftOver (A r n * q) m g (by omega)) ?_
        refine u_iast (k := 40) rfl rfl rfl (by omega) ?_
        refine u_iinc (k := 41) (lv' := [(5, _), (0, _), (1, _), (3, _), (4, _)]) rfl rfl (Nat.le_of_ble_eq_true rfl) (by omega) rfl ?_
        refine a_goto (k := 42) rfl ?_
        refine a_sub [1, 2, 3, 4, 0] rfl ?_
        refine ih (n + 1) _ (by omega) ((hM.put rfl).cong (fun r' k' h1 h2 => ?_)) (hF.p1 (t27_in (by omega)))
        unfold um scl
        by_cases hrr : r' = r
        · subst hrr
          by_cases hk : k' = n
          · subst hk; simp
          · by_cases hlt : k' < n
            · simp [hk, hlt, show k' < n + 1 by omega]
            · simp [hk, hlt, show ¬ k' < n + 1 by omega]
        · simp [hrr]
  have hkk := hA r k hr (by omega)
  have hl := hlt r k hr (by omega)
  have L1 : ∀ (d q : Nat), q + d = m → fct (A r k) m (m - 1) 1 = fct (A r k) m d q → AW mX1_scaleRow (fun z g => z = none ∧ MX c (scl A r (fct (A r k) m (m - 1) 1) m P) g ∧ Fr t27 [] h g) 3 [(0, vr 25 0), (1, vi r), (2, vi k), (3, vi m), (4, vi q)] [] h := by
    intro d
    induction d with
    | zero =>
      intro q hq he
      refine u_iload (k := 2) rfl rfl ?_
      refine u_iloadn (k := 3) rfl rfl ?_
      refine a_icmp_ge (k := 4) rfl (fun c_6 => ?_) (fun c_6 => ?_)
      · refine a_iconst (k := 19) rfl ?_
        refine a_istore (k := 20) (lv' := [(5, _), (0, _), (1, _), (2, _), (3, _), (4, _)]) rfl (Nat.le_of_ble_eq_true rfl) rfl ?_
        refine a_sub [1, 2, 4, 5, 0] rfl ?_
        have := L2 P 0 h (by omega) (hA.cong (fun r' k' _ _ => by simp [scl])) Fr.rf; rw [he] at this ⊢; exact this
      · omega
    | succ d ih =>
      intro q hq he
      have e1 : fct (A r k) m (d + 1) q = if A r k * q % m = 1 then q else fct (A r k) m d (q + 1) := rfl
      have hmul : A r k * q ≤ 5 * 5 := Nat.mul_le_mul (by omega) (by omega)
      have e2 : (A r k : Int) * (q : Int) = ((A r k * q : Nat) : Int) := by push_cast; rfl
      refine u_iload (k := 2) rfl rfl ?_
      refine u_iloadn (k := 3) rfl rfl ?_
      refine a_icmp_ge (k := 4) rfl (fun c_6 => ?_) (fun c_6 => ?_)
      · omega
      · refine u_aloadn (k := 5) rfl rfl ?_
        refine a_getr (k := 6) rfl fRX1_11 rfl rfl rfl ?_
        refine u_iloadn (k := 7) rfl rfl ?_
        refine u_aald (k := 8) rfl rfl rfl (by decide) (by omega) rfl ?_
        refine u_iloadn (k := 9) rfl rfl ?_
        refine u_iald (k := 10) rfl rfl rfl (by omega) ?_
        rw [hkk]
        refine u_iload (k := 11) rfl rfl ?_
        refine u_imul (k := 12) rfl (by rw [e2]; omega) ?_
        refine u_iloadn (k := 13) rfl rfl ?_
        rw [e2]
        refine i_statN2 (M' := mX10_leftOver) (k := 14) rfl lRX1_37 oX10_leftOver vX10_leftOver ⟨Nat.le_of_ble_eq_true rfl, Nat.le_of_ble_eq_true rfl⟩ rfl (Nat.le_of_ble_eq_true rfl) (x_leftOver (A r k * q) m h (by omega)) ?_
        refine a_iconst (k := 15) rfl ?_
        refine a_icmp_eq (k := 16) rfl (fun c_25 => ?_) (fun c_25 => ?_)
        · refine a_iconst (k := 19) rfl ?_
          refine a_istore (k := 20) (lv' := [(5, _), (0, _), (1, _), (2, _), (3, _), (4, _)]) rfl (Nat.le_of_ble_eq_true rfl) rfl ?_
          refine a_sub [1, 2, 4, 5, 0] rfl ?_
          have := L2 P 0 h (by omega) (hA.cong (fun r' k' _ _ => by simp [scl])) Fr.rf; rw [e1, if_pos (by omega)] at he; rw [he] at this ⊢; exact this
        · refine u_iinc (k := 17) (lv' := [(4, _), (0, _), (1, _), (2, _), (3, _)]) rfl rfl (Nat.le_of_ble_eq_true rfl) (by omega) rfl ?_
          refine a_goto (k := 18) rfl ?_
          refine a_sub [1, 2, 3, 4, 0] rfl ?_
          rw [e1, if_neg (by omega)] at he; exact ih (q + 1) (by omega) he
  refine a_iconst (k := 0) rfl ?_
  refine a_istore (k := 1) (lv' := [(4, _), (0, _), (1, _), (2, _), (3, _)]) rfl (Nat.le_of_ble_eq_true rfl) rfl ?_
  refine a_sub [1, 2, 3, 4, 0] rfl ?_
  exact L1 (m - 1) 1 (by omega) rfl
