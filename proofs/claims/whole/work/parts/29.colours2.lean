/-- row r of A changed by times t of row p, k below n -/
def adr (A : MT) (p r t m n : Nat) : MT := fun r' k => if r' = r ∧ k < n then (A r' k + t * A p k) % m else A r' k
/-- all rows but p cleared at k: rows below n done -/
def clr (A : MT) (p k m P n : Nat) : MT := fun r j => if r < n ∧ r ≠ p ∧ j < P then (A r j + (m - A r k) * A p j) % m else A r j
theorem x_clearOthers (P p k c m : Nat) (A : MT) (h : HH) (hP : h 25 0 4 = (P : Int)) (hP8 : P ≤ 8) (hA : MX c A h) (hp : p < c) (hk : k < P) (hc : c ≤ 8) (hm : 2 ≤ m) (hm5 : m ≤ 5) (hlt : ∀ r k, r < c → k < 8 → A r k < m) :
    Sp mX1_clearOthers [vr 25 0, vi p, vi k, vi c, vi m] h (fun z g => z = none ∧ MX c (clr A p k m P c) g ∧ Fr t27 [] h g) := by
  refine Sp.of rfl kX1_clearOthers (Nat.le_of_ble_eq_true rfl) ?_
  have L : ∀ (d n : Nat) (g : HH), n + d = c → MX c (clr A p k m P n) g → Fr t27 [] h g → AW mX1_clearOthers (fun z g => z = none ∧ MX c (clr A p k m P c) g ∧ Fr t27 [] h g) 3 [(0, vr 25 0), (1, vi p), (2, vi k), (3, vi c), (4, vi m), (5, vi n)] [] g := by
    intro d
    induction d with
    | zero =>
      intro n g hn hM hF
      have hn : n = c := by omega
      subst hn
      refine u_iload (k := 2) rfl rfl ?_
      refine u_iloadn (k := 3) rfl rfl ?_
      refine a_icmp_ge (k := 4) rfl (fun c_6 => ?_) (fun c_6 => ?_)
      · refine a_return (k := 54) rfl rfl ?_
        exact ⟨rfl, hM, hF⟩
      · omega
    | succ d ih =>
      intro n g hn hM hF
      have hP' : g 25 0 4 = (P : Int) := (hF 25 0 4 (t27_no (by omega)) (by simp)).trans hP
      have enk : g 27 n k = (A n k : Int) := by rw [hM n k (by omega) (by omega)]; simp [clr]
      have hnk := hlt n k (by omega) (by omega)
      have In : ∀ (d2 j : Nat) (g : HH), n ≠ p → j + d2 = P → MX c (adr (clr A p k m P n) p n (m - A n k) m j) g → Fr t27 [] h g → AW mX1_clearOthers (fun z g => z = none ∧ MX c (clr A p k m P c) g ∧ Fr t27 [] h g) 36 [(0, vr 25 0), (1, vi p), (2, vi k), (3, vi c), (4, vi m), (5, vi n), (6, vi ((m - A n k : Nat) : Int)), (7, vi j)] [] g := by
        intro d2
        induction d2 with
        | zero =>
          intro j g hne hj hM hF
          have hj : j = P := by omega
          subst hj
          have hP' : g 25 0 4 = (j : Int) := (hF 25 0 4 (t27_no (by omega)) (by simp)).trans hP
          refine u_iload (k := 21) rfl rfl ?_
          refine u_aloadn (k := 22) rfl rfl ?_
          refine a_geti (k := 23) rfl fRX1_34 rfl rfl ?_
          refine a_icmp_ge (k := 24) rfl (fun c_42 => ?_) (fun c_42 => ?_)
          · refine u_iinc (k := 52) (lv' := [(5, _), (0, _), (1, _), (2, _), (3, _), (4, _), (6, _), (7, _)]) rfl rfl (Nat.le_of_ble_eq_true rfl) (by omega) rfl ?_
            refine a_goto (k := 53) rfl ?_
            refine a_sub [1, 2, 3, 4, 5, 0] rfl ?_
            refine ih (n + 1) g (by omega) (hM.cong (fun r q h1 h2 => ?_)) hF
            unfold adr clr
            by_cases hr : r = n
            · subst hr
              by_cases hq : q < j
              · simp [hq, hne]
              · simp [hq]
            · by_cases hlt : r < n
              · simp [hr, hlt, show r < n + 1 by omega]
              · simp [hr, hlt, show ¬ r < n + 1 by omega]
          · omega
        | succ d2 ih2 =>
          intro j g hne hj hM hF
          have hP' : g 25 0 4 = (P : Int) := (hF 25 0 4 (t27_no (by omega)) (by simp)).trans hP
          have e1 : g 27 n j = (A n j : Int) := by rw [hM n j (by omega) (by omega)]; simp [adr, clr]
          have e2 : g 27 p j = (A p j : Int) := by rw [hM p j hp (by omega)]; simp [adr, clr, Ne.symm hne]
          have l1 := hlt n j (by omega) (by omega)
          have l2 := hlt p j hp (by omega)
          have hmul : (m - A n k) * A p j ≤ 5 * 5 := Nat.mul_le_mul (by omega) (by omega)
          have e3 : ((m - A n k : Nat) : Int) * (A p j : Int) = (((m - A n k) * A p j : Nat) : Int) := by push_cast; rfl
          have e4 : (A n j : Int) + (((m - A n k) * A p j : Nat) : Int) = ((A n j + (m - A n k) * A p j : Nat) : Int) := by push_cast; rfl
          refine u_iload (k := 21) rfl rfl ?_
          refine u_aloadn (k := 22) rfl rfl ?_
          refine a_geti (k := 23) rfl fRX1_34 rfl rfl ?_
          refine a_icmp_ge (k := 24) rfl (fun c_42 => ?_) (fun c_42 => ?_)
          · omega
          · refine u_iload (k := 25) rfl rfl ?_
            refine a_if_eq (k := 26) rfl (fun c_47 => ?_) (fun c_47 => ?_)
            · omega
            · refine u_aloadn (k := 27) rfl rfl ?_
              refine a_getr (k := 28) rfl fRX1_11 rfl rfl rfl ?_
              refine u_iload (k := 29) rfl rfl ?_
              refine u_aald (k := 30) rfl rfl rfl (by decide) (by omega) rfl ?_
              refine u_iload (k := 31) rfl rfl ?_
              refine u_aloadn (k := 32) rfl rfl ?_
              refine a_getr (k := 33) rfl fRX1_11 rfl rfl rfl ?_
              refine u_iload (k := 34) rfl rfl ?_
              refine u_aald (k := 35) rfl rfl rfl (by decide) (by omega) rfl ?_
              refine u_iload (k := 36) rfl rfl ?_
              refine u_iald (k := 37) rfl rfl rfl (by omega) ?_
              rw [e1]
              refine u_iload (k := 38) rfl rfl ?_
              refine u_aloadn (k := 39) rfl rfl ?_
              refine a_getr (k := 40) rfl fRX1_11 rfl rfl rfl ?_
              refine u_iloadn (k := 41) rfl rfl ?_
              refine u_aald (k := 42) rfl rfl rfl (by decide) (by omega) rfl ?_
              refine u_iload (k := 43) rfl rfl ?_
              refine u_iald (k := 44) rfl rfl rfl (by omega) ?_
              rw [e2]
              refine u_imul (k := 45) rfl (by rw [e3]; omega) ?_
              rw [e3]
              refine u_iadd (k := 46) rfl (by omega) ?_
              rw [e4]
              refine u_iload (k := 47) rfl rfl ?_
              refine i_statN2 (M' := mX10_leftOver) (k := 48) rfl lRX1_37 oX10_leftOver vX10_leftOver ⟨Nat.le_of_ble_eq_true rfl, Nat.le_of_ble_eq_true rfl⟩ rfl (Nat.le_of_ble_eq_true rfl) (x_leftOver (A n j + (m - A n k) * A p j) m g (by omega)) ?_
              refine u_iast (k := 49) rfl rfl rfl (by omega) ?_
              refine u_iinc (k := 50) (lv' := [(7, _), (0, _), (1, _), (2, _), (3, _), (4, _), (5, _), (6, _)]) rfl rfl (Nat.le_of_ble_eq_true rfl) (by omega) rfl ?_
              refine a_goto (k := 51) rfl ?_
              refine a_sub [1, 2, 3, 4, 5, 6, 7, 0] rfl ?_
              refine ih2 (j + 1) _ hne (by omega) ((hM.put rfl).cong (fun r q h1 h2 => ?_)) (hF.p1 (t27_in (by omega)))
              unfold um adr
              by_cases hr : r = n
              · subst hr
                by_cases hq : q = j
                · subst hq; simp [clr, Ne.symm hne]
                · by_cases hlt : q < j
                  · simp [hq, hlt, show q < j + 1 by omega]
                  · simp [hq, hlt, show ¬ q < j + 1 by omega]
              · simp [hr]
      by_cases hnp : n = p
      · refine u_iload (k := 2) rfl rfl ?_
        refine u_iloadn (k := 3) rfl rfl ?_
        refine a_icmp_ge (k := 4) rfl (fun c_6 => ?_) (fun c_6 => ?_)
        · omega
        · refine u_iload (k := 5) rfl rfl ?_
          refine u_iloadn (k := 6) rfl rfl ?_
          refine a_icmp_ne (k := 7) rfl (fun c_12 => ?_) (fun c_12 => ?_)
          · omega
          · refine a_iconst (k := 8) rfl ?_
            refine a_goto (k := 9) rfl ?_
            refine a_istore (k := 18) (lv' := [(6, _), (0, _), (1, _), (2, _), (3, _), (4, _), (5, _)]) rfl (Nat.le_of_ble_eq_true rfl) rfl ?_
            refine a_iconst (k := 19) rfl ?_
            refine a_istore (k := 20) (lv' := [(7, _), (6, _), (0, _), (1, _), (2, _), (3, _), (4, _), (5, _)]) rfl (Nat.le_of_ble_eq_true rfl) rfl ?_
            refine u_iload (k := 21) rfl rfl ?_
            refine u_aloadn (k := 22) rfl rfl ?_
            refine a_geti (k := 23) rfl fRX1_34 rfl rfl ?_
            refine a_icmp_ge (k := 24) rfl (fun c_42 => ?_) (fun c_42 => ?_)
            · refine u_iinc (k := 52) (lv' := [(5, _), (7, _), (6, _), (0, _), (1, _), (2, _), (3, _), (4, _)]) rfl rfl (Nat.le_of_ble_eq_true rfl) (by omega) rfl ?_
              refine a_goto (k := 53) rfl ?_
              refine a_sub [3, 4, 5, 6, 7, 0] rfl ?_
              refine ih (n + 1) g (by omega) (hM.cong (fun r q h1 h2 => ?_)) hF
              unfold clr
              by_cases hr : r = n
              · simp [hr, hnp]
              · by_cases hlt : r < n
                · simp [hlt, show r < n + 1 by omega]
                · simp [hlt, show ¬ r < n + 1 by omega]
            · refine u_iload (k := 25) rfl rfl ?_
              refine a_if_eq (k := 26) rfl (fun c_47 => ?_) (fun c_47 => ?_)
              · refine u_iinc (k := 52) (lv' := [(5, _), (7, _), (6, _), (0, _), (1, _), (2, _), (3, _), (4, _)]) rfl rfl (Nat.le_of_ble_eq_true rfl) (by omega) rfl ?_
                refine a_goto (k := 53) rfl ?_
                refine a_sub [3, 4, 5, 6, 7, 0] rfl ?_
                refine ih (n + 1) g (by omega) (hM.cong (fun r q h1 h2 => ?_)) hF
                unfold clr
                by_cases hr : r = n
                · simp [hr, hnp]
                · by_cases hlt : r < n
                  · simp [hlt, show r < n + 1 by omega]
                  · simp [hlt, show ¬ r < n + 1 by omega]
              · omega
      · have e5 : (m : Int) - (A n k : Int) = ((m - A n k : Nat) : Int) := by omega
        refine u_iload (k := 2) rfl rfl ?_
        refine u_iloadn (k := 3) rfl rfl ?_
        refine a_icmp_ge (k := 4) rfl (fun c_6 => ?_) (fun c_6 => ?_)
        · omega
        · refine u_iload (k := 5) rfl rfl ?_
          refine u_iloadn (k := 6) rfl rfl ?_
          refine a_icmp_ne (k := 7) rfl (fun c_12 => ?_) (fun c_12 => ?_)
          · refine u_iload (k := 10) rfl rfl ?_
            refine u_aloadn (k := 11) rfl rfl ?_
            refine a_getr (k := 12) rfl fRX1_11 rfl rfl rfl ?_
            refine u_iload (k := 13) rfl rfl ?_
            refine u_aald (k := 14) rfl rfl rfl (by decide) (by omega) rfl ?_
            refine u_iloadn (k := 15) rfl rfl ?_
            refine u_iald (k := 16) rfl rfl rfl (by omega) ?_
            rw [enk]
            refine u_isub (k := 17) rfl (by omega) ?_
            rw [e5]
            refine a_istore (k := 18) (lv' := [(6, _), (0, _), (1, _), (2, _), (3, _), (4, _), (5, _)]) rfl (Nat.le_of_ble_eq_true rfl) rfl ?_
            refine a_iconst (k := 19) rfl ?_
            refine a_istore (k := 20) (lv' := [(7, _), (6, _), (0, _), (1, _), (2, _), (3, _), (4, _), (5, _)]) rfl (Nat.le_of_ble_eq_true rfl) rfl ?_
            refine a_sub [2, 3, 4, 5, 6, 7, 1, 0] rfl ?_
            exact In P 0 g hnp (by omega) (hM.cong (fun r q _ _ => by simp [adr])) hF
          · omega
  refine a_iconst (k := 0) rfl ?_
  refine a_istore (k := 1) (lv' := [(5, _), (0, _), (1, _), (2, _), (3, _), (4, _)]) rfl (Nat.le_of_ble_eq_true rfl) rfl ?_
  refine a_sub [1, 2, 3, 4, 5, 0] rfl ?_
  exact L c 0 h (by omega) (hA.cong (fun r q _ _ => by simp [clr])) Fr.rf
theorem x_addTo (r p a m v : Nat) (h : HH) (hr : r < 8) (hp : p < 8) (hm : 0 < m) (hv : h 27 r p = (v : Int)) (hb : v + a < 1000) : SpV mX1_addTo [vr 25 0, vi r, vi p, vi a, vi m] h (put h 27 r p (((v + a) % m : Nat) : Int)) := by
  refine Sp.of rfl kX1_addTo (Nat.le_of_ble_eq_true rfl) ?_
  have e1 : (v : Int) + (a : Int) = ((v + a : Nat) : Int) := by omega
  refine u_iloadn (k := 0) rfl rfl ?_
  refine a_if_lt (k := 1) rfl (fun c_1 => ?_) (fun c_1 => ?_)
  · omega
  · refine u_iloadn (k := 2) rfl rfl ?_
    refine a_bipush (k := 3) rfl ?_
    refine a_icmp_ge (k := 4) rfl (fun c_7 => ?_) (fun c_7 => ?_)
    · omega
    · refine u_aloadn (k := 5) rfl rfl ?_
      refine a_getr (k := 6) rfl fRX1_11 rfl rfl rfl ?_
      refine u_iloadn (k := 7) rfl rfl ?_
      refine u_aald (k := 8) rfl rfl rfl (by decide) (by omega) rfl ?_
      refine u_iloadn (k := 9) rfl rfl ?_
      refine u_aloadn (k := 10) rfl rfl ?_
      refine a_getr (k := 11) rfl fRX1_11 rfl rfl rfl ?_
      refine u_iloadn (k := 12) rfl rfl ?_
      refine u_aald (k := 13) rfl rfl rfl (by decide) (by omega) rfl ?_
      refine u_iloadn (k := 14) rfl rfl ?_
      refine u_iald (k := 15) rfl rfl rfl (by omega) ?_
      rw [hv]
      refine u_iloadn (k := 16) rfl rfl ?_
      refine u_iadd (k := 17) rfl (by omega) ?_
      rw [e1]
      refine u_iload (k := 18) rfl rfl ?_
      refine i_statN2 (M' := mX10_leftOver) (k := 19) rfl lRX1_37 oX10_leftOver vX10_leftOver ⟨Nat.le_of_ble_eq_true rfl, Nat.le_of_ble_eq_true rfl⟩ rfl (Nat.le_of_ble_eq_true rfl) (x_leftOver (v + a) m h hm) ?_
      refine u_iast (k := 20) rfl rfl rfl (by omega) ?_
      refine a_return (k := 21) rfl rfl ?_
      exact ⟨rfl, rfl⟩
/-- how many unders are ahead of pass n -/
def bg (f : Nat → Nat) : Nat → Nat
  | 0 => 0
  | n + 1 => bg f n + (if f n % 2 = 0 then 1 else 0)
theorem bg_le (f : Nat → Nat) : ∀ n, bg f n ≤ n
  | 0 => Nat.le_refl 0
  | n + 1 => by
    have := bg_le f n
    unfold bg
    split <;> omega
/-- which part goes over, which begins: by pass i of f -/
def opp (f : Nat → Nat) (P i : Nat) : Nat := if bg f i = 0 then P - 1 else bg f i - 1
def PO (f : Nat → Nat) (P n : Nat) (g : HH) : Prop := ∀ i, i < n → (f i % 2 = 1 → g 28 0 (f i / 2) = (opp f P i : Int)) ∧ (f i % 2 = 0 → g 29 0 (f i / 2) = (bg f i : Int))
def pts (c : Nat) : Nat := if c = 0 then 1 else c
theorem x_findParts (j c s : Nat) (f : Nat → Nat) (h : HH) (hR : RP j c f s h) (hinj : ∀ i k, i < 2 * c → k < 2 * c → f i = f k → i = k) :
    Sp mX1_findParts [vr 25 0, vr 5 j] h (fun z g => z = none ∧ g 25 0 4 = (pts c : Int) ∧ PO f (pts c) (2 * c) g ∧ Fr [(28, 0), (29, 0)] [(25, 0, 4)] h g) := by
  refine Sp.of rfl kX1_findParts (Nat.le_of_ble_eq_true rfl) ?_
  have h8 := hR.2.1
  have hpt : pts c ≤ 8 ∧ 1 ≤ pts c := by unfold pts; split <;> omega
  have L : ∀ (m n : Nat) (g : HH), n + m = 2 * c → g 25 0 4 = (pts c : Int) → PO f (pts c) n g → Fr [(28, 0), (29, 0)] [(25, 0, 4)] h g → AW mX1_findParts (fun z g => z = none ∧ g 25 0 4 = (pts c : Int) ∧ PO f (pts c) (2 * c) g ∧ Fr [(28, 0), (29, 0)] [(25, 0, 4)] h g) 16 [(0, vr 25 0), (1, vr 5 j), (2, vi (bg f n)), (3, vi n)] [] g := by
    intro m
    induction m with
    | zero =>
      intro n g hn hP hO hF
      have hn : n = 2 * c := by omega
      subst hn
      have hR' : RP j c f s g := hR.fr hF (by simp) (by simp) (by simp) (by simp)
      refine u_iloadn (k := 10) rfl rfl ?_
      refine u_aloadn (k := 11) rfl rfl ?_
      refine i_virt0 (M' := mX6_length) (k := 12) rfl lRX1_73 oX6_length vX6_length ⟨Nat.le_of_ble_eq_true rfl, Nat.le_of_ble_eq_true rfl⟩ rfl rfl (Nat.le_of_ble_eq_true rfl) (x_length j c g hR'.1 h8) ?_
      refine a_icmp_ge (k := 13) rfl (fun c_21 => ?_) (fun c_21 => ?_)
      · refine a_return (k := 50) rfl rfl ?_
        exact ⟨rfl, hP, hO, hF⟩
      · omega
    | succ m ih =>
      intro n g hn hP hO hF
      have hR' : RP j c f s g := hR.fr hF (by simp) (by simp) (by simp) (by simp)
      obtain ⟨r1, r2, r3, r4, r5, r6⟩ := hR'
      have hfn := r6 n (by omega)
      have e8 : f n / 2 % 8 = f n / 2 := by omega
      have hbg := bg_le f n
      have ebg : bg f (n + 1) = bg f n + (if f n % 2 = 0 then 1 else 0) := rfl
      have oth : ∀ i, i < n → f i % 2 = f n % 2 → f i / 2 ≠ f n / 2 := fun i hi h1 h2 => by
        have := hinj i n (by omega) (by omega) (by omega)
        omega
      refine u_iloadn (k := 10) rfl rfl ?_
      refine u_aloadn (k := 11) rfl rfl ?_
      refine i_virt0 (M' := mX6_length) (k := 12) rfl lRX1_73 oX6_length vX6_length ⟨Nat.le_of_ble_eq_true rfl, Nat.le_of_ble_eq_true rfl⟩ rfl rfl (Nat.le_of_ble_eq_true rfl) (x_length j c g r1 h8) ?_
      refine a_icmp_ge (k := 13) rfl (fun c_21 => ?_) (fun c_21 => ?_)
      · omega
      · refine u_aloadn (k := 14) rfl rfl ?_
        refine a_getr (k := 15) rfl fRX1_77 rfl rfl rfl ?_
        refine u_iloadn (k := 16) rfl rfl ?_
        refine u_iald (k := 17) rfl rfl rfl (by omega) ?_
        rw [r5 n (by omega)]
        refine a_istore (k := 18) (lv' := [(4, _), (0, _), (1, _), (2, _), (3, _)]) rfl (Nat.le_of_ble_eq_true rfl) rfl ?_
        refine u_iload (k := 19) rfl rfl ?_
        refine i_statN1 (M' := mX10_crossingOf) (k := 20) rfl lRX1_80 oX10_crossingOf vX10_crossingOf ⟨Nat.le_of_ble_eq_true rfl, Nat.le_of_ble_eq_true rfl⟩ rfl (Nat.le_of_ble_eq_true rfl) (x_crossingOf (f n) g (by omega)) ?_
        rw [e8]
        refine a_istore (k := 21) (lv' := [(5, _), (4, _), (0, _), (1, _), (2, _), (3, _)]) rfl (Nat.le_of_ble_eq_true rfl) rfl ?_
        refine u_iload (k := 22) rfl rfl ?_
        refine a_iconst (k := 23) rfl ?_
        refine a_iand (k := 24) rfl ?_
        rw [iand1 (by omega)]
        refine a_iconst (k := 25) rfl ?_
        refine a_icmp_ne (k := 26) rfl (fun c_44 => ?_) (fun c_44 => ?_)
        · have hev : f n % 2 = 0 := by omega
          rw [if_pos hev] at ebg
          refine u_aloadn (k := 42) rfl rfl ?_
          refine a_getr (k := 43) rfl fRX1_20 rfl rfl rfl ?_
          refine u_iload (k := 44) rfl rfl ?_
          refine u_iloadn (k := 45) rfl rfl ?_
          refine u_iast (k := 46) rfl rfl rfl (by omega) ?_
          refine u_iinc (k := 47) (lv' := [(2, _), (5, _), (4, _), (0, _), (1, _), (3, _)]) rfl rfl (Nat.le_of_ble_eq_true rfl) (by omega) rfl ?_
          refine u_iinc (k := 48) (lv' := [(3, _), (2, _), (5, _), (4, _), (0, _), (1, _)]) rfl rfl (Nat.le_of_ble_eq_true rfl) (by omega) rfl ?_
          refine a_goto (k := 49) rfl ?_
          refine a_sub [4, 5, 1, 0] rfl ?_
          first
            | (have h0 : bg f n = 0 := by omega
               have := ih (n + 1) (put g 28 0 (f n / 2) ((pts c : Int) - 1)) (by omega) (by simp only [put_apply, Nat.reduceEqDiff, reduceIte, false_and, and_false, true_and, and_true, and_self, if_false, if_true, not_false_eq_true, not_true_eq_false, ne_eq]; exact hP) (fun i hi => ⟨fun h1 => by
                 by_cases he : i = n
                 · subst he; rw [put_eq, opp, if_pos h0]; omega
                 · rw [put_ne (by have := oth i (by omega) (by omega); simp [this])]; exact (hO i (by omega)).1 h1, fun h1 => by
                 by_cases he : i = n
                 · subst he; omega
                 · rw [put_ne (by simp)]; exact (hO i (by omega)).2 h1⟩) (hF.p1 (by simp))
               rw [ebg] at this; exact this)
            | (have h0 : ¬ bg f n = 0 := by omega
               have := ih (n + 1) (put g 28 0 (f n / 2) ((bg f n : Int) - 1)) (by omega) (by simp only [put_apply, Nat.reduceEqDiff, reduceIte, false_and, and_false, true_and, and_true, and_self, if_false, if_true, not_false_eq_true, not_true_eq_false, ne_eq]; exact hP) (fun i hi => ⟨fun h1 => by
                 by_cases he : i = n
                 · subst he; rw [put_eq, opp, if_neg h0]; omega
                 · rw [put_ne (by have := oth i (by omega) (by omega); simp [this])]; exact (hO i (by omega)).1 h1, fun h1 => by
                 by_cases he : i = n
                 · subst he; omega
                 · rw [put_ne (by simp)]; exact (hO i (by omega)).2 h1⟩) (hF.p1 (by simp))
               rw [ebg] at this; exact this)
            | (have := ih (n + 1) (put g 29 0 (f n / 2) (bg f n : Int)) (by omega) (by simp only [put_apply, Nat.reduceEqDiff, reduceIte, false_and, and_false, true_and, and_true, and_self, if_false, if_true, not_false_eq_true, not_true_eq_false, ne_eq]; exact hP) (fun i hi => ⟨fun h1 => by
                 by_cases he : i = n
                 · subst he; omega
                 · rw [put_ne (by simp)]; exact (hO i (by omega)).1 h1, fun h1 => by
                 by_cases he : i = n
                 · subst he; rw [put_eq]
                 · rw [put_ne (by have := oth i (by omega) (by omega); simp [this])]; exact (hO i (by omega)).2 h1⟩) (hF.p1 (by simp))
               rw [ebg] at this; exact this)
        · have hod : f n % 2 = 1 := by omega
          rw [if_neg (by omega)] at ebg
          refine u_aloadn (k := 27) rfl rfl ?_
          refine a_getr (k := 28) rfl fRX1_16 rfl rfl rfl ?_
          refine u_iload (k := 29) rfl rfl ?_
          refine u_iloadn (k := 30) rfl rfl ?_
          refine a_if_ne (k := 31) rfl (fun c_54 => ?_) (fun c_54 => ?_)
          · refine u_iloadn (k := 37) rfl rfl ?_
            refine a_iconst (k := 38) rfl ?_
            refine u_isub (k := 39) rfl (by omega) ?_
            refine u_iast (k := 40) rfl rfl rfl (by omega) ?_
            refine a_goto (k := 41) rfl ?_
            refine u_iinc (k := 48) (lv' := [(3, _), (5, _), (4, _), (0, _), (1, _), (2, _)]) rfl rfl (Nat.le_of_ble_eq_true rfl) (by omega) rfl ?_
            refine a_goto (k := 49) rfl ?_
            refine a_sub [3, 4, 5, 0] rfl ?_
            first
              | (have h0 : bg f n = 0 := by omega
                 have := ih (n + 1) (put g 28 0 (f n / 2) ((pts c : Int) - 1)) (by omega) (by simp only [put_apply, Nat.reduceEqDiff, reduceIte, false_and, and_false, true_and, and_true, and_self, if_false, if_true, not_false_eq_true, not_true_eq_false, ne_eq]; exact hP) (fun i hi => ⟨fun h1 => by
                   by_cases he : i = n
                   · subst he; rw [put_eq, opp, if_pos h0]; omega
                   · rw [put_ne (by have := oth i (by omega) (by omega); simp [this])]; exact (hO i (by omega)).1 h1, fun h1 => by
                   by_cases he : i = n
                   · subst he; omega
                   · rw [put_ne (by simp)]; exact (hO i (by omega)).2 h1⟩) (hF.p1 (by simp))
                 rw [ebg] at this; exact this)
              | (have h0 : ¬ bg f n = 0 := by omega
                 have := ih (n + 1) (put g 28 0 (f n / 2) ((bg f n : Int) - 1)) (by omega) (by simp only [put_apply, Nat.reduceEqDiff, reduceIte, false_and, and_false, true_and, and_true, and_self, if_false, if_true, not_false_eq_true, not_true_eq_false, ne_eq]; exact hP) (fun i hi => ⟨fun h1 => by
                   by_cases he : i = n
                   · subst he; rw [put_eq, opp, if_neg h0]; omega
                   · rw [put_ne (by have := oth i (by omega) (by omega); simp [this])]; exact (hO i (by omega)).1 h1, fun h1 => by
                   by_cases he : i = n
                   · subst he; omega
                   · rw [put_ne (by simp)]; exact (hO i (by omega)).2 h1⟩) (hF.p1 (by simp))
                 rw [ebg] at this; exact this)
              | (have := ih (n + 1) (put g 29 0 (f n / 2) (bg f n : Int)) (by omega) (by simp only [put_apply, Nat.reduceEqDiff, reduceIte, false_and, and_false, true_and, and_true, and_self, if_false, if_true, not_false_eq_true, not_true_eq_false, ne_eq]; exact hP) (fun i hi => ⟨fun h1 => by
                   by_cases he : i = n
                   · subst he; omega
                   · rw [put_ne (by simp)]; exact (hO i (by omega)).1 h1, fun h1 => by
                   by_cases he : i = n
                   · subst he; rw [put_eq]
                   · rw [put_ne (by have := oth i (by omega) (by omega); simp [this])]; exact (hO i (by omega)).2 h1⟩) (hF.p1 (by simp))
                 rw [ebg] at this; exact this)
          · refine u_aloadn (k := 32) rfl rfl ?_
            refine a_geti (k := 33) rfl fRX1_34 rfl rfl ?_
            rw [hP]
            refine a_iconst (k := 34) rfl ?_
            refine u_isub (k := 35) rfl (by omega) ?_
            refine a_goto (k := 36) rfl ?_
            refine u_iast (k := 40) rfl rfl rfl (by omega) ?_
            refine a_goto (k := 41) rfl ?_
            refine u_iinc (k := 48) (lv' := [(3, _), (5, _), (4, _), (0, _), (1, _), (2, _)]) rfl rfl (Nat.le_of_ble_eq_true rfl) (by omega) rfl ?_
            refine a_goto (k := 49) rfl ?_
            refine a_sub [3, 4, 5, 0] rfl ?_
            first
              | (have h0 : bg f n = 0 := by omega
                 have := ih (n + 1) (put g 28 0 (f n / 2) ((pts c : Int) - 1)) (by omega) (by simp only [put_apply, Nat.reduceEqDiff, reduceIte, false_and, and_false, true_and, and_true, and_self, if_false, if_true, not_false_eq_true, not_true_eq_false, ne_eq]; exact hP) (fun i hi => ⟨fun h1 => by
                   by_cases he : i = n
                   · subst he; rw [put_eq, opp, if_pos h0]; omega
                   · rw [put_ne (by have := oth i (by omega) (by omega); simp [this])]; exact (hO i (by omega)).1 h1, fun h1 => by
                   by_cases he : i = n
                   · subst he; omega
                   · rw [put_ne (by simp)]; exact (hO i (by omega)).2 h1⟩) (hF.p1 (by simp))
                 rw [ebg] at this; exact this)
              | (have h0 : ¬ bg f n = 0 := by omega
                 have := ih (n + 1) (put g 28 0 (f n / 2) ((bg f n : Int) - 1)) (by omega) (by simp only [put_apply, Nat.reduceEqDiff, reduceIte, false_and, and_false, true_and, and_true, and_self, if_false, if_true, not_false_eq_true, not_true_eq_false, ne_eq]; exact hP) (fun i hi => ⟨fun h1 => by
                   by_cases he : i = n
                   · subst he; rw [put_eq, opp, if_neg h0]; omega
                   · rw [put_ne (by have := oth i (by omega) (by omega); simp [this])]; exact (hO i (by omega)).1 h1, fun h1 => by
                   by_cases he : i = n
                   · subst he; omega
                   · rw [put_ne (by simp)]; exact (hO i (by omega)).2 h1⟩) (hF.p1 (by simp))
                 rw [ebg] at this; exact this)
              | (have := ih (n + 1) (put g 29 0 (f n / 2) (bg f n : Int)) (by omega) (by simp only [put_apply, Nat.reduceEqDiff, reduceIte, false_and, and_false, true_and, and_true, and_self, if_false, if_true, not_false_eq_true, not_true_eq_false, ne_eq]; exact hP) (fun i hi => ⟨fun h1 => by
                   by_cases he : i = n
                   · subst he; omega
                   · rw [put_ne (by simp)]; exact (hO i (by omega)).1 h1, fun h1 => by
                   by_cases he : i = n
                   · subst he; rw [put_eq]
                   · rw [put_ne (by have := oth i (by omega) (by omega); simp [this])]; exact (hO i (by omega)).2 h1⟩) (hF.p1 (by simp))
                 rw [ebg] at this; exact this)
  have emx : (if h 5 j 2 ≤ 1 then (1 : Int) else h 5 j 2) = (pts c : Int) := by rw [hR.1]; unfold pts; split <;> split <;> omega
  refine u_aloadn (k := 0) rfl rfl ?_
  refine a_iconst (k := 1) rfl ?_
  refine u_aloadn (k := 2) rfl rfl ?_
  refine a_geti (k := 3) rfl fRX1_48 rfl rfl ?_
  refine i_stat2 (M' := mJ9_max_7cf53) (k := 4) rfl lRX1_68 oJ9_max_7cf53 vJ9_max_7cf53 ⟨Nat.le_of_ble_eq_true rfl, Nat.le_of_ble_eq_true rfl⟩ rfl (Nat.le_of_ble_eq_true rfl) (x_max 1 (h 5 j 2) h) ?_
  rw [emx]
  refine a_puti (k := 5) rfl pRX1_34 rfl rfl ?_
  refine a_iconst (k := 6) rfl ?_
  refine a_istoren (k := 7) (lv' := [(2, _), (0, _), (1, _)]) rfl (Nat.le_of_ble_eq_true rfl) rfl ?_
  refine a_iconst (k := 8) rfl ?_
  refine a_istoren (k := 9) (lv' := [(3, _), (2, _), (0, _), (1, _)]) rfl (Nat.le_of_ble_eq_true rfl) rfl ?_
  refine a_sub [2, 3, 1, 0] rfl ?_
  exact L (2 * c) 0 _ (by omega) (by rw [put_eq]) (fun i hi => absurd hi (Nat.not_lt_zero i)) (Fr.rf.p2 (by simp))
