def adt (R : Nat → Nat) (p a m : Nat) : Nat → Nat := fun k => if k = p then (R k + a) % m else R k
def enp (P b : Nat) : Nat := if b = 0 then P - 1 else b - 1
def mx0 (O B : Nat → Nat) (P m : Nat) : MT := fun r => adt (adt (adt (fun _ => 0) (O r) 2 m) (B r) (m - 1) m) (enp P (B r)) (m - 1) m
theorem adt_lt {R : Nat → Nat} {p a m : Nat} (hm : 0 < m) (h : ∀ k, R k < m) : ∀ k, adt R p a m k < m := fun k => by
  unfold adt
  split
  · exact Nat.mod_lt _ hm
  · exact h k
theorem mx0_lt {O B : Nat → Nat} {P m : Nat} (hm : 0 < m) (r k : Nat) : mx0 O B P m r k < m := adt_lt hm (adt_lt hm (adt_lt hm (fun _ => hm))) k
theorem put_adt {g : HH} {r p a m v : Nat} {R : Nat → Nat} (hR : ∀ k, k < 8 → g 27 r k = (R k : Int)) (hp : p < 8) (hv : v = R p) : ∀ k, k < 8 → put g 27 r p (((v + a) % m : Nat) : Int) 27 r k = (adt R p a m k : Int) := fun k hk => by
  unfold adt
  by_cases he : k = p
  · subst he; rw [put_eq, if_pos rfl, hv]
  · rw [put_ne (by simp [he]), if_neg he]; exact hR k hk
theorem x_writeRows (j c P m : Nat) (O B : Nat → Nat) (h : HH) (hc : h 5 j 2 = (c : Int)) (h8 : c ≤ 8) (hP : h 25 0 4 = (P : Int)) (hP8 : P ≤ 8) (hP0 : 1 ≤ P) (hO : ∀ r, r < c → h 28 0 r = (O r : Int) ∧ O r < 8) (hB : ∀ r, r < c → h 29 0 r = (B r : Int) ∧ B r < 8) (hm : 2 ≤ m) (hm5 : m ≤ 5) :
    Sp mX1_writeRows [vr 25 0, vr 5 j, vi m] h (fun z g => z = none ∧ MX c (mx0 O B P m) g ∧ Fr t27 [] h g) := by
  refine Sp.of rfl kX1_writeRows (Nat.le_of_ble_eq_true rfl) ?_
  have L : ∀ (d n : Nat) (g : HH), n + d = c → MX n (mx0 O B P m) g → Fr t27 [] h g → AW mX1_writeRows (fun z g => z = none ∧ MX c (mx0 O B P m) g ∧ Fr t27 [] h g) 2 [(0, vr 25 0), (1, vr 5 j), (2, vi m), (3, vi n)] [] g := by
    intro d
    induction d with
    | zero =>
      intro n g hn hM hF
      have hn : n = c := by omega
      subst hn
      have hc' : g 5 j 2 = (n : Int) := (hF 5 j 2 (t27_no (by omega)) (by simp)).trans hc
      refine u_iloadn (k := 2) rfl rfl ?_
      refine u_aloadn (k := 3) rfl rfl ?_
      refine a_geti (k := 4) rfl fRX1_48 rfl rfl ?_
      refine a_icmp_ge (k := 5) rfl (fun c_7 => ?_) (fun c_7 => ?_)
      · refine a_return (k := 55) rfl rfl ?_
        exact ⟨rfl, hM, hF⟩
      · omega
    | succ d ih =>
      intro n g hn hM hF
      have hc' : g 5 j 2 = (c : Int) := (hF 5 j 2 (t27_no (by omega)) (by simp)).trans hc
      have hP' : g 25 0 4 = (P : Int) := (hF 25 0 4 (t27_no (by omega)) (by simp)).trans hP
      obtain ⟨o1, o2⟩ := hO n (by omega)
      obtain ⟨b1, b2⟩ := hB n (by omega)
      have o1' : g 28 0 n = (O n : Int) := (hF 28 0 n (t27_no (by omega)) (by simp)).trans o1
      have b1' : g 29 0 n = (B n : Int) := (hF 29 0 n (t27_no (by omega)) (by simp)).trans b1
      have em : (m : Int) - 1 = ((m - 1 : Nat) : Int) := by omega
      have hen : enp P (B n) < 8 := by unfold enp; split <;> omega
      have body : AW mX1_writeRows (fun z g => z = none ∧ MX c (mx0 O B P m) g ∧ Fr t27 [] h g) 36 [(0, vr 25 0), (1, vr 5 j), (2, vi m), (3, vi n), (4, vi (B n))] [vi (enp P (B n))] g := by
        refine a_istore (k := 21) (lv' := [(5, _), (0, _), (1, _), (2, _), (3, _), (4, _)]) rfl (Nat.le_of_ble_eq_true rfl) rfl ?_
        refine u_aloadn (k := 22) rfl rfl ?_
        refine a_getr (k := 23) rfl fRX1_11 rfl rfl rfl ?_
        refine u_iloadn (k := 24) rfl rfl ?_
        refine u_aald (k := 25) rfl rfl rfl (by decide) (by omega) rfl ?_
        refine a_iconst (k := 26) rfl ?_
        refine uv_stat2 (M' := mJ7_fill_53178) (k := 27) rfl lRX1_84 oJ7_fill_53178 vJ7_fill_53178 ⟨Nat.le_of_ble_eq_true rfl, Nat.le_of_ble_eq_true rfl⟩ rfl (Nat.le_of_ble_eq_true rfl) (j_fill 27 8 0 g rfl rfl (by omega) n) (by intro r g hp; exact hp.1) (fun g1 hg1 => ?_)
        obtain ⟨-, q1, q2⟩ := hg1; have z0 : ∀ k, k < 8 → g1 27 n k = (((fun _ => 0 : Nat → Nat) k : Nat) : Int) := q1
        refine u_aloadn (k := 28) rfl rfl ?_
        refine u_iloadn (k := 29) rfl rfl ?_
        refine u_aloadn (k := 30) rfl rfl ?_
        refine a_getr (k := 31) rfl fRX1_16 rfl rfl rfl ?_
        refine u_iloadn (k := 32) rfl rfl ?_
        refine u_iald (k := 33) rfl rfl rfl (by omega) ?_
        rw [q2 28 0 n (by simp) (by simp), o1']
        refine a_iconst (k := 34) rfl ?_
        refine u_iloadn (k := 35) rfl rfl ?_
        refine v_virt4 (M' := mX1_addTo) (k := 36) rfl lRX1_90 oX1_addTo vX1_addTo ⟨Nat.le_of_ble_eq_true rfl, Nat.le_of_ble_eq_true rfl⟩ rfl rfl (Nat.le_of_ble_eq_true rfl) (x_addTo n (O n) 2 m 0 g1 (by omega) o2 (by omega) (by rw [z0 _ o2]) (by omega)) ?_
        refine u_aloadn (k := 37) rfl rfl ?_
        refine u_iloadn (k := 38) rfl rfl ?_
        refine u_iload (k := 39) rfl rfl ?_
        refine u_iloadn (k := 40) rfl rfl ?_
        refine a_iconst (k := 41) rfl ?_
        refine u_isub (k := 42) rfl (by omega) ?_
        rw [em]
        refine u_iloadn (k := 43) rfl rfl ?_
        refine v_virt4 (M' := mX1_addTo) (k := 44) rfl lRX1_90 oX1_addTo vX1_addTo ⟨Nat.le_of_ble_eq_true rfl, Nat.le_of_ble_eq_true rfl⟩ rfl rfl (Nat.le_of_ble_eq_true rfl) (x_addTo n (B n) (m - 1) m _ _ (by omega) b2 (by omega) (put_adt z0 o2 rfl _ b2) (by have := adt_lt (p := O n) (a := 2) (m := m) (by omega) (fun _ => (show 0 < m by omega) : ∀ k, (fun _ => 0 : Nat → Nat) k < m) (B n); omega)) ?_
        refine u_aloadn (k := 45) rfl rfl ?_
        refine u_iloadn (k := 46) rfl rfl ?_
        refine u_iload (k := 47) rfl rfl ?_
        refine u_iloadn (k := 48) rfl rfl ?_
        refine a_iconst (k := 49) rfl ?_
        refine u_isub (k := 50) rfl (by omega) ?_
        rw [em]
        refine u_iloadn (k := 51) rfl rfl ?_
        refine v_virt4 (M' := mX1_addTo) (k := 52) rfl lRX1_90 oX1_addTo vX1_addTo ⟨Nat.le_of_ble_eq_true rfl, Nat.le_of_ble_eq_true rfl⟩ rfl rfl (Nat.le_of_ble_eq_true rfl) (x_addTo n (enp P (B n)) (m - 1) m _ _ (by omega) hen (by omega) (put_adt (put_adt z0 o2 rfl) b2 rfl _ hen) (by have := adt_lt (p := B n) (a := m - 1) (m := m) (by omega) (adt_lt (p := O n) (a := 2) (m := m) (by omega) (fun _ => (show 0 < m by omega) : ∀ k, (fun _ => 0 : Nat → Nat) k < m)) (enp P (B n)); omega)) ?_
        refine u_iinc (k := 53) (lv' := [(3, _), (5, _), (0, _), (1, _), (2, _), (4, _)]) rfl rfl (Nat.le_of_ble_eq_true rfl) (by omega) rfl ?_
        refine a_goto (k := 54) rfl ?_
        refine a_sub [2, 3, 4, 0] rfl ?_
        refine ih (n + 1) _ (by omega) (fun r k h1 h2 => ?_) ((((hF.tr q2 (fun q hq => by rw [List.mem_singleton.mp hq]; exact t27_in (by omega)) (by simp)).p1 (t27_in (by omega))).p1 (t27_in (by omega))).p1 (t27_in (by omega)))
        by_cases he : r = n
        · subst he
          exact put_adt (put_adt (put_adt z0 o2 rfl) b2 rfl) hen rfl k h2
        · rw [put_ne (by simp [he]), put_ne (by simp [he]), put_ne (by simp [he]), q2 27 r k (by simp [he]) (by simp)]
          exact hM r k (by omega) h2
      refine u_iloadn (k := 2) rfl rfl ?_
      refine u_aloadn (k := 3) rfl rfl ?_
      refine a_geti (k := 4) rfl fRX1_48 rfl rfl ?_
      refine a_icmp_ge (k := 5) rfl (fun c_7 => ?_) (fun c_7 => ?_)
      · omega
      · refine u_aloadn (k := 6) rfl rfl ?_
        refine a_getr (k := 7) rfl fRX1_20 rfl rfl rfl ?_
        refine u_iloadn (k := 8) rfl rfl ?_
        refine u_iald (k := 9) rfl rfl rfl (by omega) ?_
        rw [b1']
        refine a_istore (k := 10) (lv' := [(4, _), (0, _), (1, _), (2, _), (3, _)]) rfl (Nat.le_of_ble_eq_true rfl) rfl ?_
        refine u_iload (k := 11) rfl rfl ?_
        refine a_if_ne (k := 12) rfl (fun c_20 => ?_) (fun c_20 => ?_)
        · have ee : (B n : Int) - 1 = (enp P (B n) : Int) := by unfold enp; rw [if_neg (by omega)]; omega
          refine u_iload (k := 18) rfl rfl ?_
          refine a_iconst (k := 19) rfl ?_
          refine u_isub (k := 20) rfl (by omega) ?_
          refine a_sub [1, 2, 3, 4, 0] rfl ?_
          rw [ee]; exact body
        · have ee : (P : Int) - 1 = (enp P (B n) : Int) := by unfold enp; rw [if_pos (by omega)]; omega
          refine u_aloadn (k := 13) rfl rfl ?_
          refine a_geti (k := 14) rfl fRX1_34 rfl rfl ?_
          rw [hP']
          refine a_iconst (k := 15) rfl ?_
          refine u_isub (k := 16) rfl (by omega) ?_
          refine a_goto (k := 17) rfl ?_
          refine a_sub [1, 2, 3, 4, 0] rfl ?_
          rw [ee]; exact body
  refine a_iconst (k := 0) rfl ?_
  refine a_istoren (k := 1) (lv' := [(3, _), (0, _), (1, _), (2, _)]) rfl (Nat.le_of_ble_eq_true rfl) rfl ?_
  refine a_sub [1, 2, 3, 0] rfl ?_
  exact L c 0 h (by omega) (fun r k h1 _ => absurd h1 (Nat.not_lt_zero r)) Fr.rf
/-- rows, rank, pivots -/
abbrev SV : Type := MT × Nat × (Nat → Int)
def svs (c P m k : Nat) (x : SV) : SV := match rwt x.1 k (c - x.2.1) x.2.1 with
  | none => (x.1, x.2.1, ui x.2.2 k (-1))
  | some r => (clr (scl (exch P x.1 r x.2.1 P) x.2.1 (fct (exch P x.1 r x.2.1 P x.2.1 k) m (m - 1) 1) m P) x.2.1 k m P c, x.2.1 + 1, ui x.2.2 k (x.2.1 : Int))
def svl (c P m : Nat) : Nat → SV → SV
  | 0, x => x
  | k + 1, x => svl c P m k (svs c P m k x)
def SVH (c : Nat) (x : SV) (g : HH) : Prop := MX c x.1 g ∧ g 25 0 5 = (x.2.1 : Int) ∧ ∀ k, k < 8 → g 30 0 k = x.2.2 k
def tcl : List (Nat × Nat) := [(25, 0), (27, 0), (27, 1), (27, 2), (27, 3), (27, 4), (27, 5), (27, 6), (27, 7), (28, 0), (29, 0), (30, 0)]
theorem t27_cl : ∀ q ∈ t27, q ∈ tcl := by decide
theorem exch_lt {c P a b m n : Nat} {A : MT} (h : ∀ r k, r < c → k < 8 → A r k < m) (ha : a < c) (hb : b < c) : ∀ r k, r < c → k < 8 → exch P A a b n r k < m := fun r k h1 h2 => by
  unfold exch
  split
  · split
    · exact h b k hb h2
    · split
      · exact h a k ha h2
      · exact h r k h1 h2
  · exact h r k h1 h2
theorem scl_lt {c r q m n : Nat} {A : MT} (hm : 0 < m) (h : ∀ r k, r < c → k < 8 → A r k < m) : ∀ r' k, r' < c → k < 8 → scl A r q m n r' k < m := fun r' k h1 h2 => by
  unfold scl
  split
  · exact Nat.mod_lt _ hm
  · exact h r' k h1 h2
theorem clr_lt {c p k m P n : Nat} {A : MT} (hm : 0 < m) (h : ∀ r k, r < c → k < 8 → A r k < m) : ∀ r j, r < c → j < 8 → clr A p k m P n r j < m := fun r j h1 h2 => by
  unfold clr
  split
  · exact Nat.mod_lt _ hm
  · exact h r j h1 h2
theorem x_solve (j c s m : Nat) (f : Nat → Nat) (O B : Nat → Nat) (h : HH) (hR : RP j c f s h) (hinj : ∀ i k, i < 2 * c → k < 2 * c → f i = f k → i = k) (hm : 2 ≤ m) (hm5 : m ≤ 5) (hOB : ∀ r, r < c → ∃ i k, i < 2 * c ∧ k < 2 * c ∧ f i = 2 * r + 1 ∧ f k = 2 * r ∧ O r = opp f (pts c) i ∧ B r = bg f k ∧ O r < 8 ∧ B r < 8) :
    Sp mX1_solve [vr 25 0, vr 5 j, vi m] h (fun z g => z = none ∧ g 25 0 4 = (pts c : Int) ∧ SVH c (svl c (pts c) m (pts c) (mx0 O B (pts c) m, 0, h 30 0)) g ∧ Fr tcl [] h g) := by
  refine Sp.of rfl kX1_solve (Nat.le_of_ble_eq_true rfl) ?_
  have h8 := hR.2.1
  have hpt : pts c ≤ 8 ∧ 1 ≤ pts c := by unfold pts; split <;> omega
  have L : ∀ (n : Nat) (x : SV) (g : HH), n ≤ pts c → (∀ r k, r < c → k < 8 → x.1 r k < m) → x.2.1 ≤ c → g 25 0 4 = (pts c : Int) → SVH c x g → Fr tcl [] h g → AW mX1_solve (fun z g => z = none ∧ g 25 0 4 = (pts c : Int) ∧ SVH c (svl c (pts c) m n x) g ∧ Fr tcl [] h g) 23 [(0, vr 25 0), (1, vr 5 j), (2, vi m), (3, vi ((n : Int) - 1))] [] g := by
    intro n
    induction n with
    | zero =>
      intro x g hn hlt hrk hP hH hF
      refine u_iloadn (k := 15) rfl rfl ?_
      refine a_if_lt (k := 16) rfl (fun c_24 => ?_) (fun c_24 => ?_)
      · refine a_return (k := 64) rfl rfl ?_
        exact ⟨rfl, hP, hH, hF⟩
      · omega
    | succ n ih =>
      intro x g hn hlt hrk hP hH hF
      obtain ⟨h1, h2, h3⟩ := hH
      have ec : g 5 j 2 = (c : Int) := (hF 5 j 2 (by simp [tcl]) (by simp)).trans hR.1
      have em : ((n + 1 : Nat) : Int) - 1 = (n : Int) := by omega
      have e0 : svl c (pts c) m (n + 1) x = svl c (pts c) m n (svs c (pts c) m n x) := rfl
      rw [em, e0]
      cases hq : rwt x.1 n (c - x.2.1) x.2.1 with
      | none =>
        have es : svs c (pts c) m n x = (x.1, x.2.1, ui x.2.2 n (-1)) := by simp [svs, hq]
        refine u_iloadn (k := 15) rfl rfl ?_
        refine a_if_lt (k := 16) rfl (fun c_24 => ?_) (fun c_24 => ?_)
        · omega
        · refine u_aloadn (k := 17) rfl rfl ?_
          refine u_iloadn (k := 18) rfl rfl ?_
          refine u_aloadn (k := 19) rfl rfl ?_
          refine a_geti (k := 20) rfl fRX1_48 rfl rfl ?_
          rw [ec]
          refine i_virt2 (M' := mX1_rowWith) (k := 21) rfl lRX1_53 oX1_rowWith vX1_rowWith ⟨Nat.le_of_ble_eq_true rfl, Nat.le_of_ble_eq_true rfl⟩ rfl rfl (Nat.le_of_ble_eq_true rfl) (x_rowWith n c x.2.1 x.1 g h2 h1 h8 (by omega) hrk) ?_
          rw [hq]
          show AW _ _ _ _ [vi (-1)] _
          refine a_istore (k := 22) (lv' := [(4, _), (0, _), (1, _), (2, _), (3, _)]) rfl (Nat.le_of_ble_eq_true rfl) rfl ?_
          refine u_aloadn (k := 23) rfl rfl ?_
          refine a_getr (k := 24) rfl fRX1_23 rfl rfl rfl ?_
          refine u_iloadn (k := 25) rfl rfl ?_
          refine u_iload (k := 26) rfl rfl ?_
          refine a_iconst (k := 27) rfl ?_
          refine a_icmp_ne (k := 28) rfl (fun c_46 => ?_) (fun c_46 => ?_)
          · omega
          · refine a_iconst (k := 29) rfl ?_
            refine a_goto (k := 30) rfl ?_
            refine u_iast (k := 33) rfl rfl rfl (by omega) ?_
            refine u_iload (k := 34) rfl rfl ?_
            refine a_iconst (k := 35) rfl ?_
            refine a_icmp_eq (k := 36) rfl (fun c_61 => ?_) (fun c_61 => ?_)
            · refine u_iinc (k := 62) (lv' := [(3, _), (4, _), (0, _), (1, _), (2, _)]) rfl rfl (Nat.le_of_ble_eq_true rfl) (by omega) rfl ?_
              refine a_goto (k := 63) rfl ?_
              refine a_sub [2, 3, 4, 0] rfl ?_
              rw [es]; exact ih _ _ (by omega) hlt hrk (by simp only [put_apply, Nat.reduceEqDiff, reduceIte, false_and, and_false, true_and, and_true, and_self, if_false, if_true, not_false_eq_true, not_true_eq_false, ne_eq]; exact hP) ⟨h1.keep (fun r k => by simp only [put_apply, Nat.reduceEqDiff, reduceIte, false_and, and_false, true_and, and_true, and_self, if_false, if_true, not_false_eq_true, not_true_eq_false, ne_eq]), by simp only [put_apply, Nat.reduceEqDiff, reduceIte, false_and, and_false, true_and, and_true, and_self, if_false, if_true, not_false_eq_true, not_true_eq_false, ne_eq]; exact h2, fun k hk => by dsimp only; unfold ui; by_cases he : k = n; (subst he; rw [put_eq, if_pos rfl]); (rw [put_ne (by simp [he]), if_neg he]; exact h3 k hk)⟩ (hF.p1 (by simp [tcl]))
            · omega
      | some r =>
        obtain ⟨q1, q2, q3, -⟩ := rwt_some hq
        have es : svs c (pts c) m n x = (clr (scl (exch (pts c) x.1 r x.2.1 (pts c)) x.2.1 (fct (exch (pts c) x.1 r x.2.1 (pts c) x.2.1 n) m (m - 1) 1) m (pts c)) x.2.1 n m (pts c) c, x.2.1 + 1, ui x.2.2 n (x.2.1 : Int)) := by simp [svs, hq]
        have l1 := exch_lt (P := pts c) (n := pts c) (a := r) (b := x.2.1) hlt (by omega) (by omega)
        have l2 := scl_lt (r := x.2.1) (q := fct (exch (pts c) x.1 r x.2.1 (pts c) x.2.1 n) m (m - 1) 1) (n := pts c) (show 0 < m by omega) l1
        have l3 := clr_lt (p := x.2.1) (k := n) (P := pts c) (n := c) (show 0 < m by omega) l2
        refine u_iloadn (k := 15) rfl rfl ?_
        refine a_if_lt (k := 16) rfl (fun c_24 => ?_) (fun c_24 => ?_)
        · omega
        · refine u_aloadn (k := 17) rfl rfl ?_
          refine u_iloadn (k := 18) rfl rfl ?_
          refine u_aloadn (k := 19) rfl rfl ?_
          refine a_geti (k := 20) rfl fRX1_48 rfl rfl ?_
          rw [ec]
          refine i_virt2 (M' := mX1_rowWith) (k := 21) rfl lRX1_53 oX1_rowWith vX1_rowWith ⟨Nat.le_of_ble_eq_true rfl, Nat.le_of_ble_eq_true rfl⟩ rfl rfl (Nat.le_of_ble_eq_true rfl) (x_rowWith n c x.2.1 x.1 g h2 h1 h8 (by omega) hrk) ?_
          rw [hq]
          show AW _ _ _ _ [vi (r : Int)] _
          refine a_istore (k := 22) (lv' := [(4, _), (0, _), (1, _), (2, _), (3, _)]) rfl (Nat.le_of_ble_eq_true rfl) rfl ?_
          refine u_aloadn (k := 23) rfl rfl ?_
          refine a_getr (k := 24) rfl fRX1_23 rfl rfl rfl ?_
          refine u_iloadn (k := 25) rfl rfl ?_
          refine u_iload (k := 26) rfl rfl ?_
          refine a_iconst (k := 27) rfl ?_
          refine a_icmp_ne (k := 28) rfl (fun c_46 => ?_) (fun c_46 => ?_)
          · refine u_aloadn (k := 31) rfl rfl ?_
            refine a_geti (k := 32) rfl fRX1_30 rfl rfl ?_
            rw [h2]
            refine u_iast (k := 33) rfl rfl rfl (by omega) ?_
            refine u_iload (k := 34) rfl rfl ?_
            refine a_iconst (k := 35) rfl ?_
            refine a_icmp_eq (k := 36) rfl (fun c_61 => ?_) (fun c_61 => ?_)
            · omega
            · refine u_aloadn (k := 37) rfl rfl ?_
              refine u_iload (k := 38) rfl rfl ?_
              refine u_aloadn (k := 39) rfl rfl ?_
              refine a_geti (k := 40) rfl fRX1_30 rfl rfl ?_
              rw [put_ne (by simp), h2]
              refine uv_virt2 (M' := mX1_exchangeRows) (k := 41) rfl lRX1_56 oX1_exchangeRows vX1_exchangeRows ⟨Nat.le_of_ble_eq_true rfl, Nat.le_of_ble_eq_true rfl⟩ rfl rfl (Nat.le_of_ble_eq_true rfl) (x_exchange (pts c) c r x.2.1 x.1 _ (by simp only [put_apply, Nat.reduceEqDiff, reduceIte, false_and, and_false, true_and, and_true, and_self, if_false, if_true, not_false_eq_true, not_true_eq_false, ne_eq]; exact hP) hpt.1 (h1.keep (fun r k => by simp only [put_apply, Nat.reduceEqDiff, reduceIte, false_and, and_false, true_and, and_true, and_self, if_false, if_true, not_false_eq_true, not_true_eq_false, ne_eq])) h8 (by omega) (by omega)) (by intro r g hp; exact hp.1) (fun g1 hg1 => ?_)
              obtain ⟨-, a1, a2⟩ := hg1; have p1 : g1 25 0 4 = (pts c : Int) := by rw [a2 25 0 4 (t27_no (by omega)) (by simp), put_ne (by simp)]; exact hP
              refine u_aloadn (k := 42) rfl rfl ?_
              refine u_aloadn (k := 43) rfl rfl ?_
              refine a_geti (k := 44) rfl fRX1_30 rfl rfl ?_
              rw [a2 25 0 5 (t27_no (by omega)) (by simp), put_ne (by simp), h2]
              refine u_iloadn (k := 45) rfl rfl ?_
              refine u_iloadn (k := 46) rfl rfl ?_
              refine uv_virt3 (M' := mX1_scaleRow) (k := 47) rfl lRX1_60 oX1_scaleRow vX1_scaleRow ⟨Nat.le_of_ble_eq_true rfl, Nat.le_of_ble_eq_true rfl⟩ rfl rfl (Nat.le_of_ble_eq_true rfl) (x_scaleRow (pts c) c x.2.1 n m _ g1 p1 hpt.1 a1 h8 (by omega) (by omega) hm hm5 l1) (by intro r g hp; exact hp.1) (fun g2 hg2 => ?_)
              obtain ⟨-, a3, a4⟩ := hg2; have p2 : g2 25 0 4 = (pts c : Int) := (a4 25 0 4 (t27_no (by omega)) (by simp)).trans p1
              refine u_aloadn (k := 48) rfl rfl ?_
              refine u_aloadn (k := 49) rfl rfl ?_
              refine a_geti (k := 50) rfl fRX1_30 rfl rfl ?_
              rw [a4 25 0 5 (t27_no (by omega)) (by simp), a2 25 0 5 (t27_no (by omega)) (by simp), put_ne (by simp), h2]
              refine u_iloadn (k := 51) rfl rfl ?_
              refine u_aloadn (k := 52) rfl rfl ?_
              refine a_geti (k := 53) rfl fRX1_48 rfl rfl ?_
              rw [a4 5 j 2 (t27_no (by omega)) (by simp), a2 5 j 2 (t27_no (by omega)) (by simp), put_ne (by simp), ec]
              refine u_iloadn (k := 54) rfl rfl ?_
              refine uv_virt4 (M' := mX1_clearOthers) (k := 55) rfl lRX1_64 oX1_clearOthers vX1_clearOthers ⟨Nat.le_of_ble_eq_true rfl, Nat.le_of_ble_eq_true rfl⟩ rfl rfl (Nat.le_of_ble_eq_true rfl) (x_clearOthers (pts c) x.2.1 n c m _ g2 p2 hpt.1 a3 (by omega) (by omega) h8 hm hm5 l2) (by intro r g hp; exact hp.1) (fun g3 hg3 => ?_)
              obtain ⟨-, a5, a6⟩ := hg3; have p3 : g3 25 0 4 = (pts c : Int) := (a6 25 0 4 (t27_no (by omega)) (by simp)).trans p2; have p4 : g3 25 0 5 = (x.2.1 : Int) := by rw [a6 25 0 5 (t27_no (by omega)) (by simp), a4 25 0 5 (t27_no (by omega)) (by simp), a2 25 0 5 (t27_no (by omega)) (by simp), put_ne (by simp), h2]
              refine u_aloadn (k := 56) rfl rfl ?_
              refine a_dup (k := 57) rfl rfl ?_
              refine a_geti (k := 58) rfl fRX1_30 rfl rfl ?_
              rw [p4]
              refine a_iconst (k := 59) rfl ?_
              refine u_iadd (k := 60) rfl (by omega) ?_
              refine a_puti (k := 61) rfl pRX1_30 rfl rfl ?_
              refine u_iinc (k := 62) (lv' := [(3, _), (4, _), (0, _), (1, _), (2, _)]) rfl rfl (Nat.le_of_ble_eq_true rfl) (by omega) rfl ?_
              refine a_goto (k := 63) rfl ?_
              refine a_sub [2, 3, 4, 0] rfl ?_
              rw [es]
              refine ih _ _ (by omega) l3 (by dsimp only; omega) (by simp only [put_apply, Nat.reduceEqDiff, reduceIte, false_and, and_false, true_and, and_true, and_self, if_false, if_true, not_false_eq_true, not_true_eq_false, ne_eq]; exact p3) ⟨a5.keep (fun r k => by simp only [put_apply, Nat.reduceEqDiff, reduceIte, false_and, and_false, true_and, and_true, and_self, if_false, if_true, not_false_eq_true, not_true_eq_false, ne_eq]), by rw [put_eq]; rfl, fun k hk => ?_⟩ (((((hF.p1 (by simp [tcl])).tr a2 t27_cl (by simp)).tr a4 t27_cl (by simp)).tr a6 t27_cl (by simp)).p1 (by simp [tcl]))
              dsimp only
              rw [put_ne (by simp), a6 30 0 k (t27_no (by omega)) (by simp), a4 30 0 k (t27_no (by omega)) (by simp), a2 30 0 k (t27_no (by omega)) (by simp)]
              unfold ui
              by_cases he : k = n
              · subst he; rw [put_eq, if_pos rfl]
              · rw [put_ne (by simp [he]), if_neg he]; exact h3 k hk
          · omega
  refine u_aloadn (k := 0) rfl rfl ?_
  refine u_aloadn (k := 1) rfl rfl ?_
  refine uv_virt1 (M' := mX1_findParts) (k := 2) rfl lRX1_41 oX1_findParts vX1_findParts ⟨Nat.le_of_ble_eq_true rfl, Nat.le_of_ble_eq_true rfl⟩ rfl rfl (Nat.le_of_ble_eq_true rfl) (x_findParts j c s f h hR hinj) (by intro r g hp; exact hp.1) (fun g1 hg1 => ?_)
  obtain ⟨-, b1, b2, b3⟩ := hg1
  refine u_aloadn (k := 3) rfl rfl ?_
  refine u_aloadn (k := 4) rfl rfl ?_
  refine u_iloadn (k := 5) rfl rfl ?_
  refine uv_virt2 (M' := mX1_writeRows) (k := 6) rfl lRX1_45 oX1_writeRows vX1_writeRows ⟨Nat.le_of_ble_eq_true rfl, Nat.le_of_ble_eq_true rfl⟩ rfl rfl (Nat.le_of_ble_eq_true rfl) (x_writeRows j c (pts c) m O B g1 (by rw [b3 5 j 2 (by simp) (by simp)]; exact hR.1) h8 b1 hpt.1 hpt.2 (fun r hr => by obtain ⟨i, k, h1, h2, h3, h4, h5, h6, h7, h9⟩ := hOB r hr; refine ⟨?_, h7⟩; have := (b2 i h1).1 (by omega); rw [show f i / 2 = r by omega] at this; rw [this, h5]) (fun r hr => by obtain ⟨i, k, h1, h2, h3, h4, h5, h6, h7, h9⟩ := hOB r hr; refine ⟨?_, h9⟩; have := (b2 k h2).2 (by omega); rw [show f k / 2 = r by omega] at this; rw [this, h6]) hm hm5) (by intro r g hp; exact hp.1) (fun g2 hg2 => ?_)
  obtain ⟨-, b4, b5⟩ := hg2
  refine u_aloadn (k := 7) rfl rfl ?_
  refine a_iconst (k := 8) rfl ?_
  refine a_puti (k := 9) rfl pRX1_30 rfl rfl ?_
  refine u_aloadn (k := 10) rfl rfl ?_
  refine a_geti (k := 11) rfl fRX1_34 rfl rfl ?_
  rw [put_ne (by simp), b5 25 0 4 (t27_no (by omega)) (by simp), b1]
  refine a_iconst (k := 12) rfl ?_
  refine u_isub (k := 13) rfl (by omega) ?_
  refine a_istoren (k := 14) (lv' := [(3, _), (0, _), (1, _), (2, _)]) rfl (Nat.le_of_ble_eq_true rfl) rfl ?_
  refine a_sub [1, 2, 3, 0] rfl ?_
  exact L (pts c) (mx0 O B (pts c) m, 0, h 30 0) _ (Nat.le_refl _) (fun r k _ _ => mx0_lt (by omega) r k) (Nat.zero_le _) (by rw [put_ne (by simp), b5 25 0 4 (t27_no (by omega)) (by simp), b1]) ⟨b4.keep (fun r k => by simp only [put_apply, Nat.reduceEqDiff, reduceIte, false_and, and_false, true_and, and_true, and_self, if_false, if_true, not_false_eq_true, not_true_eq_false, ne_eq]), by rw [put_eq]; rfl, fun k hk => by rw [put_ne (by simp), b5 30 0 k (t27_no (by omega)) (by simp), b3 30 0 k (by simp) (by simp)]⟩ (((b3.mono (by simp [tcl]) (by simp [tcl])).tr b5 t27_cl (by simp)).p1 (by simp [tcl]))
