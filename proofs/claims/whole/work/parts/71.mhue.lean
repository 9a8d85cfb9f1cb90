/-! colours of the reference -/
theorem ir_5 {v : Int} {m : Nat} (hm : m = 3 ∨ m = 5) (h1 : -1000 ≤ v) (h2 : v ≤ 1000) : ∃ t : Int, ir v m = t ∧ 0 ≤ t + m ∧ t < 5 ∧ (t + m) % m = v % m := by
  by_cases h0 : 0 ≤ v
  · refine ⟨v % m, ir_pos h0 (by omega) (by omega), ?_⟩
    rcases hm with rfl | rfl <;> omega
  · have e : ir v m = -((-v) % m) := by
      rw [ir, show v = -(-v) by omega, Int.neg_tmod, Int.tmod_eq_emod_of_nonneg (by omega), Int.neg_neg]
      exact w3_id (by rcases hm with rfl | rfl <;> omega) (by rcases hm with rfl | rfl <;> omega)
    refine ⟨_, e, ?_⟩
    rcases hm with rfl | rfl <;> omega
theorem m_left (v : Int) (m : Nat) (h : HH) (hm : m = 3 ∨ m = 5) (h1 : -1000 ≤ v) (h2 : v ≤ 1000) : SpI mX11_left [vi v, vi m] h (v % m) h := by
  obtain ⟨t, e, t1, t2, t3⟩ := ir_5 hm h1 h2
  refine Sp.of rfl kX11_left (Nat.le_of_ble_eq_true rfl) ?_
  refine u_iloadn (k := 0) rfl rfl ?_
  refine u_iloadn (k := 1) rfl rfl ?_
  refine a_irem (k := 2) rfl (by omega) ?_
  rw [e]
  refine u_iloadn (k := 3) rfl rfl ?_
  refine u_iadd (k := 4) rfl (by omega) ?_
  refine u_iloadn (k := 5) rfl rfl ?_
  refine u_irem (k := 6) rfl (by omega) (by omega) ?_
  refine a_ireturn (k := 7) rfl rfl ?_
  exact ⟨by rw [t3], rfl⟩
theorem em_5 {m : Nat} (hm : m = 3 ∨ m = 5) (v : Int) : 0 ≤ v % m ∧ v % m < 5 := by rcases hm with rfl | rfl <;> omega
theorem mul5 {a b : Int} (h1 : 0 ≤ a ∧ a < 5) (h2 : 0 ≤ b ∧ b < 5) : 0 ≤ a * b ∧ a * b ≤ 16 := by
  refine ⟨Int.mul_nonneg h1.1 h2.1, ?_⟩
  have h3 : a * b ≤ 4 * b := Int.mul_le_mul_of_nonneg_right (by omega) h2.1
  omega
theorem wrap_m {b c : Nat} (hc : 0 < c) (hb : b ≤ c) : ((b : Int) + (c : Int) - 1) % (c : Int) = ((if b = 0 then c - 1 else b - 1 : Nat) : Int) := by
  split
  · rw [Int.emod_eq_of_lt (by omega) (by omega)]
    omega
  · rw [show ((b : Int) + (c : Int) - 1) = ((b - 1 : Nat) : Int) + (c : Int) by omega, Int.add_emod_right, Int.emod_eq_of_lt (by omega) (by omega)]
def PT (r : Rp) (g : HH) : Prop := (∀ x, x < r.1 → g 59 0 x = (obO r x : Int)) ∧ ∀ x, x < r.1 → g 60 0 (obB r x) = (x : Int)
theorem bg_s (f : Nat → Nat) (q : Nat) : bg f (q + 1) = bg f q + (if f q % 2 = 0 then 1 else 0) := rfl
theorem m_parts {r : Rp} (hW : WR r) (hc : 0 < r.1) (s : Nat) (h : HH) (hR : RW (2 * r.1) r.2.2 s h) : Sp mX11_parts [vr 40 0] h (fun z g => z = none ∧ PT r g ∧ Fr [(59, 0), (60, 0)] [] h g) := by
  have h8 := hW.1
  have hV := hW.2.2.1
  have h16 := hV.s h8
  have hpt : pts r.1 = r.1 := if_neg (by omega)
  refine Sp.of rfl kX11_parts (Nat.le_of_ble_eq_true rfl) ?_
  have Lp : ∀ (d q : Nat) (g : HH), q + d = 2 * r.1 → (∀ p, p < q → r.2.2 p % 2 = 1 → g 59 0 (r.2.2 p / 2) = (opp r.2.2 r.1 p : Int)) → (∀ p, p < q → r.2.2 p % 2 = 0 → g 60 0 (bg r.2.2 p) = ((r.2.2 p / 2 : Nat) : Int)) → Fr [(59, 0), (60, 0)] [] h g → AW mX11_parts (fun z g => z = none ∧ PT r g ∧ Fr [(59, 0), (60, 0)] [] h g) 11 [(3, vi q), (2, vi (bg r.2.2 q : Int)), (1, vi (r.1 : Int)), (0, vr 40 0)] [] g := by
    intro d
    induction d with
    | zero =>
      intro q g hq h1 h2 hF
      have hq : q = 2 * r.1 := by omega
      subst hq
      have hz : g 40 0 20 = ((2 * r.1 : Nat) : Int) := by rw [hF 40 0 20 (by simp) (by simp)]; exact hR.1
      refine u_iloadn (k := 9) rfl rfl ?_
      refine u_aloadn (k := 10) rfl rfl ?_
      refine a_geti (k := 11) rfl fRX11_156 rfl rfl ?_
      rw [hz]
      refine a_icmp_ge (k := 12) rfl (fun c_16 => ?_) (fun c_16 => ?_)
      · refine a_return (k := 50) rfl rfl ?_
        refine ⟨rfl, ⟨fun x hx => ?_, fun x hx => ?_⟩, hF⟩
        · obtain ⟨p1, p2⟩ := pos_ok (VT_sur hV (v := 2 * x + 1) (by omega))
          have := h1 _ p1 (by omega)
          rw [show r.2.2 (pos r.2.2 (2 * x + 1) (2 * r.1)) / 2 = x by omega] at this
          rw [this]
          unfold obO
          rw [hpt]
        · obtain ⟨p1, p2⟩ := pos_ok (VT_sur hV (v := 2 * x) (by omega))
          have := h2 _ p1 (by omega)
          rw [show r.2.2 (pos r.2.2 (2 * x) (2 * r.1)) / 2 = x by omega] at this
          exact this
      · omega
    | succ d ih =>
      intro q g hq h1 h2 hF
      have hz : g 40 0 20 = ((2 * r.1 : Nat) : Int) := by rw [hF 40 0 20 (by simp) (by simp)]; exact hR.1
      have hrow : g 50 0 q = (r.2.2 q : Int) := by rw [hF 50 0 q (by simp) (by simp)]; exact hR.2.2 q (by omega)
      have hb := bg_c hV (n := q) (by omega)
      have hb1 := bg_c hV (n := q + 1) (by omega)
      have hbs := bg_s r.2.2 q
      have h16q := h16 q (by omega)
      have hwm := wrap_m hc hb
      have nx : ∀ (g2 : HH) (b2 : Int), b2 = (bg r.2.2 (q + 1) : Int) → (∀ p, p < q + 1 → r.2.2 p % 2 = 1 → g2 59 0 (r.2.2 p / 2) = (opp r.2.2 r.1 p : Int)) → (∀ p, p < q + 1 → r.2.2 p % 2 = 0 → g2 60 0 (bg r.2.2 p) = ((r.2.2 p / 2 : Nat) : Int)) → Fr [(59, 0), (60, 0)] [] h g2 → AW mX11_parts (fun z g => z = none ∧ PT r g ∧ Fr [(59, 0), (60, 0)] [] h g) 70 [(3, vi q), (2, vi b2), (1, vi (r.1 : Int)), (0, vr 40 0)] [] g2 := by
        intro g2 b2 hb2 k1 k2 kF
        subst hb2
        refine u_iinc (k := 48) (lv' := [(3, _), (2, _), (1, _), (0, _)]) rfl rfl (Nat.le_of_ble_eq_true rfl) (by omega) rfl ?_
        refine a_goto (k := 49) rfl ?_
        exact ih (q + 1) g2 (by omega) k1 k2 kF
      by_cases hev : r.2.2 q % 2 = 0
      · rw [if_pos hev] at hbs
        refine u_iloadn (k := 9) rfl rfl ?_
        refine u_aloadn (k := 10) rfl rfl ?_
        refine a_geti (k := 11) rfl fRX11_156 rfl rfl ?_
        rw [hz]
        refine a_icmp_ge (k := 12) rfl (fun c_16 => ?_) (fun c_16 => ?_)
        · omega
        · refine u_aloadn (k := 13) rfl rfl ?_
          refine a_getr (k := 14) rfl fRX11_42 rfl rfl rfl ?_
          refine u_iloadn (k := 15) rfl rfl ?_
          refine u_iald (k := 16) rfl rfl rfl (by omega) ?_
          refine a_iconst (k := 17) rfl ?_
          rw [hrow]
          refine u_irem (k := 18) rfl (by omega) (by omega) ?_
          refine a_if_ne (k := 19) rfl (fun c_27 => ?_) (fun c_27 => ?_)
          · omega
          · refine u_aloadn (k := 20) rfl rfl ?_
            refine a_getr (k := 21) rfl fRX11_72 rfl rfl rfl ?_
            refine u_iloadn (k := 22) rfl rfl ?_
            refine u_aloadn (k := 23) rfl rfl ?_
            refine a_getr (k := 24) rfl fRX11_42 rfl rfl rfl ?_
            refine u_iloadn (k := 25) rfl rfl ?_
            refine u_iald (k := 26) rfl rfl rfl (by omega) ?_
            refine a_iconst (k := 27) rfl ?_
            rw [hrow]
            refine u_idiv (k := 28) rfl (by omega) (by omega) ?_
            rw [show (r.2.2 q : Int) / 2 = ((r.2.2 q / 2 : Nat) : Int) by omega]
            refine u_iast (k := 29) rfl rfl rfl (by omega) ?_
            refine u_iinc (k := 30) (lv' := [(2, _), (3, _), (1, _), (0, _)]) rfl rfl (Nat.le_of_ble_eq_true rfl) (by omega) rfl ?_
            refine a_goto (k := 31) rfl ?_
            refine a_sub [1, 0, 2, 3] rfl ?_
            refine nx _ _ (by omega) (fun p hp ho => ?_) (fun p hp he => ?_) (hF.p1 (by simp))
            · rw [put_ne (by simp)]
              by_cases hpq : p = q
              · subst hpq; omega
              · exact h1 p (by omega) ho
            · by_cases hpq : p = q
              · subst hpq; rw [put_eq]
              · have h3 := bg_s r.2.2 p
                rw [if_pos he] at h3
                have h4 := bg_mono r.2.2 (show p + 1 ≤ q by omega)
                rw [put_ne (by simp; omega)]
                exact h2 p (by omega) he
      · rw [if_neg hev] at hbs
        refine u_iloadn (k := 9) rfl rfl ?_
        refine u_aloadn (k := 10) rfl rfl ?_
        refine a_geti (k := 11) rfl fRX11_156 rfl rfl ?_
        rw [hz]
        refine a_icmp_ge (k := 12) rfl (fun c_16 => ?_) (fun c_16 => ?_)
        · omega
        · refine u_aloadn (k := 13) rfl rfl ?_
          refine a_getr (k := 14) rfl fRX11_42 rfl rfl rfl ?_
          refine u_iloadn (k := 15) rfl rfl ?_
          refine u_iald (k := 16) rfl rfl rfl (by omega) ?_
          refine a_iconst (k := 17) rfl ?_
          rw [hrow]
          refine u_irem (k := 18) rfl (by omega) (by omega) ?_
          refine a_if_ne (k := 19) rfl (fun c_27 => ?_) (fun c_27 => ?_)
          · refine u_aloadn (k := 32) rfl rfl ?_
            refine a_getr (k := 33) rfl fRX11_69 rfl rfl rfl ?_
            refine u_aloadn (k := 34) rfl rfl ?_
            refine a_getr (k := 35) rfl fRX11_42 rfl rfl rfl ?_
            refine u_iloadn (k := 36) rfl rfl ?_
            refine u_iald (k := 37) rfl rfl rfl (by omega) ?_
            refine a_iconst (k := 38) rfl ?_
            rw [hrow]
            refine u_idiv (k := 39) rfl (by omega) (by omega) ?_
            refine u_iloadn (k := 40) rfl rfl ?_
            refine u_iloadn (k := 41) rfl rfl ?_
            refine u_iadd (k := 42) rfl (by omega) ?_
            refine a_iconst (k := 43) rfl ?_
            refine u_isub (k := 44) rfl (by omega) ?_
            refine u_iloadn (k := 45) rfl rfl ?_
            refine u_irem (k := 46) rfl (by omega) (by omega) ?_
            rw [hwm]
            refine u_iastx (r.2.2 q / 2) (k := 47) rfl rfl rfl (by omega) (by omega) ?_
            refine nx _ _ (by omega) (fun p hp ho => ?_) (fun p hp he => ?_) (hF.p1 (by simp))
            · by_cases hpq : p = q
              · subst hpq; rw [put_eq]; rfl
              · have : r.2.2 p / 2 ≠ r.2.2 q / 2 := fun z => hpq (hV.2 p q (by omega) (by omega) (by omega))
                rw [put_ne (by simp [this])]
                exact h1 p (by omega) ho
            · rw [put_ne (by simp)]
              by_cases hpq : p = q
              · subst hpq; omega
              · exact h2 p (by omega) he
          · omega
  refine u_aloadn (k := 0) rfl rfl ?_
  refine a_geti (k := 1) rfl fRX11_156 rfl rfl ?_
  rw [hR.1]
  refine a_iconst (k := 2) rfl ?_
  refine u_idiv (k := 3) rfl (by omega) (by omega) ?_
  rw [show ((2 * r.1 : Nat) : Int) / 2 = (r.1 : Int) by omega]
  refine a_istoren (k := 4) (lv' := [(1, _), (0, _)]) rfl (Nat.le_of_ble_eq_true rfl) rfl ?_
  refine a_iconst (k := 5) rfl ?_
  refine a_istoren (k := 6) (lv' := [(2, _), (1, _), (0, _)]) rfl (Nat.le_of_ble_eq_true rfl) rfl ?_
  refine a_iconst (k := 7) rfl ?_
  refine a_istoren (k := 8) (lv' := [(3, _), (2, _), (1, _), (0, _)]) rfl (Nat.le_of_ble_eq_true rfl) rfl ?_
  exact Lp (2 * r.1) 0 h (by omega) (fun p hp => absurd hp (Nat.not_lt_zero p)) (fun p hp => absurd hp (Nat.not_lt_zero p)) Fr.rf
abbrev MZT : Type := Nat → Nat → Int
def MZ (A : MZT) (g : HH) : Prop := ∀ r q, r < 8 → q < 8 → g 58 0 (8 * r + q) = A r q
def uz (A : MZT) (r k : Nat) (v : Int) : MZT := fun r' k' => if r' = r ∧ k' = k then v else A r' k'
theorem MZ.put {A : MZT} {g : HH} {r k : Nat} {v : Int} (h : MZ A g) (hk : k < 8) : MZ (uz A r k v) (put g 58 0 (8 * r + k) v) := fun r' k' h1 h2 => by
  unfold uz
  by_cases he : r' = r ∧ k' = k
  · rw [if_pos he, he.1, he.2, put_eq]
  · rw [if_neg he, put_ne (by simp; omega)]
    exact h r' k' h1 h2
theorem MZ.cong {A A' : MZT} {g : HH} (h : MZ A g) (he : ∀ r k, r < 8 → k < 8 → A r k = A' r k) : MZ A' g := fun r k h1 h2 => by rw [h r k h1 h2, he r k h1 h2]
def MB (A : MZT) : Prop := ∀ r k, -10 ≤ A r k ∧ A r k ≤ 10
def swz (A : MZT) (a b : Nat) : MZT := fun r q => if r = a then A b q else if r = b then A a q else A r q
theorem MB_swz {A : MZT} (h : MB A) (a b : Nat) : MB (swz A a b) := fun r k => by
  unfold swz
  split
  · exact h _ _
  · split
    · exact h _ _
    · exact h _ _
theorem m_swaps (a b : Nat) (A : MZT) (h : HH) (hA : MZ A h) (ha : a < 8) (hb : b < 8) : Sp mX11_swaps [vr 40 0, vi a, vi b] h (fun z g => z = none ∧ MZ (swz A a b) g ∧ Fr [(58, 0)] [] h g) := by
  refine Sp.of rfl kX11_swaps (Nat.le_of_ble_eq_true rfl) ?_
  have Lp : ∀ (d q : Nat) (g : HH), q + d = 8 → MZ (fun r k => if k < q then swz A a b r k else A r k) g → Fr [(58, 0)] [] h g → AW mX11_swaps (fun z g => z = none ∧ MZ (swz A a b) g ∧ Fr [(58, 0)] [] h g) 2 [(3, vi q), (0, vr 40 0), (1, vi a), (2, vi b)] [] g := by
    intro d
    induction d with
    | zero =>
      intro q g hq hM hF
      have hq : q = 8 := by omega
      subst hq
      refine u_iloadn (k := 2) rfl rfl ?_
      refine a_bipush (k := 3) rfl ?_
      refine a_icmp_ge (k := 4) rfl (fun c_5 => ?_) (fun c_5 => ?_)
      · refine a_return (k := 41) rfl rfl ?_
        exact ⟨rfl, hM.cong (fun r k _ hk => if_pos hk), hF⟩
      · omega
    | succ d ih =>
      intro q g hq hM hF
      have e1 : g 58 0 (8 * a + q) = A a q := by rw [hM a q ha (by omega)]; exact if_neg (by omega)
      have e2 : g 58 0 (8 * b + q) = A b q := by rw [hM b q hb (by omega)]; exact if_neg (by omega)
      refine u_iloadn (k := 2) rfl rfl ?_
      refine a_bipush (k := 3) rfl ?_
      refine a_icmp_ge (k := 4) rfl (fun c_5 => ?_) (fun c_5 => ?_)
      · omega
      · refine u_aloadn (k := 5) rfl rfl ?_
        refine a_getr (k := 6) rfl fRX11_66 rfl rfl rfl ?_
        refine a_bipush (k := 7) rfl ?_
        refine u_iloadn (k := 8) rfl rfl ?_
        refine u_imul (k := 9) rfl (by omega) ?_
        refine u_iloadn (k := 10) rfl rfl ?_
        refine u_iadd (k := 11) rfl (by omega) ?_
        refine u_ialdx (8 * a + q) (k := 12) rfl rfl rfl (by omega) (by omega) ?_
        rw [e1]
        refine a_istore (k := 13) (lv' := [(4, _), (3, _), (0, _), (1, _), (2, _)]) rfl (Nat.le_of_ble_eq_true rfl) rfl ?_
        refine u_aloadn (k := 14) rfl rfl ?_
        refine a_getr (k := 15) rfl fRX11_66 rfl rfl rfl ?_
        refine a_bipush (k := 16) rfl ?_
        refine u_iloadn (k := 17) rfl rfl ?_
        refine u_imul (k := 18) rfl (by omega) ?_
        refine u_iloadn (k := 19) rfl rfl ?_
        refine u_iadd (k := 20) rfl (by omega) ?_
        refine u_aloadn (k := 21) rfl rfl ?_
        refine a_getr (k := 22) rfl fRX11_66 rfl rfl rfl ?_
        refine a_bipush (k := 23) rfl ?_
        refine u_iloadn (k := 24) rfl rfl ?_
        refine u_imul (k := 25) rfl (by omega) ?_
        refine u_iloadn (k := 26) rfl rfl ?_
        refine u_iadd (k := 27) rfl (by omega) ?_
        refine u_ialdx (8 * b + q) (k := 28) rfl rfl rfl (by omega) (by omega) ?_
        rw [e2]
        refine u_iastx (8 * a + q) (k := 29) rfl rfl rfl (by omega) (by omega) ?_
        refine u_aloadn (k := 30) rfl rfl ?_
        refine a_getr (k := 31) rfl fRX11_66 rfl rfl rfl ?_
        refine a_bipush (k := 32) rfl ?_
        refine u_iloadn (k := 33) rfl rfl ?_
        refine u_imul (k := 34) rfl (by omega) ?_
        refine u_iloadn (k := 35) rfl rfl ?_
        refine u_iadd (k := 36) rfl (by omega) ?_
        refine u_iload (k := 37) rfl rfl ?_
        refine u_iastx (8 * b + q) (k := 38) rfl rfl rfl (by omega) (by omega) ?_
        refine u_iinc (k := 39) (lv' := [(3, _), (4, _), (0, _), (1, _), (2, _)]) rfl rfl (Nat.le_of_ble_eq_true rfl) (by omega) rfl ?_
        refine a_goto (k := 40) rfl ?_
        refine a_sub [0, 2, 3, 4] rfl ?_
        refine ih (q + 1) _ (by omega) (((hM.put (r := a) (k := q) (by omega)).put (r := b) (k := q) (by omega)).cong (fun r k h1 h2 => ?_)) ((hF.p1 (by simp)).p1 (by simp))
        unfold uz swz
        by_cases hk : k = q
        · subst hk
          by_cases hrb : r = b
          · subst hrb
            by_cases hra : r = a
            · subst hra; simp
            · simp [hra]
          · by_cases hra : r = a
            · subst hra; simp [hrb]
            · simp [hra, hrb]
        · by_cases hlt : k < q
          · simp [hk, hlt, show k < q + 1 by omega]
          · simp [hk, hlt, show ¬ k < q + 1 by omega]
  refine a_iconst (k := 0) rfl ?_
  refine a_istoren (k := 1) (lv' := [(3, _), (0, _), (1, _), (2, _)]) rfl (Nat.le_of_ble_eq_true rfl) rfl ?_
  exact Lp 8 0 h (by omega) (hA.cong (fun r k _ _ => (if_neg (Nat.not_lt_zero k)).symm)) Fr.rf
def clz (A : MZT) (rk k n m : Nat) : MZT := fun r q => if rk < r ∧ r < n ∧ q < n then (A rk k % m * (A r q % m) - A r k % m * (A rk q % m)) % m else A r q
theorem MB_clz {A : MZT} (h : MB A) {m : Nat} (hm : m = 3 ∨ m = 5) (rk k n : Nat) : MB (clz A rk k n m) := fun r q => by
  unfold clz
  split
  · have := em_5 hm (A rk k % m * (A r q % m) - A r k % m * (A rk q % m))
    omega
  · exact h _ _
theorem m_clears (rk k n m : Nat) (A : MZT) (h : HH) (hA : MZ A h) (hB : MB A) (hm : m = 3 ∨ m = 5) (hn : n ≤ 8) (hk : k < n) (hrk : rk < n) : Sp mX11_clears [vr 40 0, vi rk, vi k, vi n, vi m] h (fun z g => z = none ∧ MZ (clz A rk k n m) g ∧ Fr [(58, 0)] [] h g) := by
  refine Sp.of rfl kX11_clears (Nat.le_of_ble_eq_true rfl) ?_
  have Lo : ∀ (d r : Nat) (g : HH), r + d = n → rk < r → MZ (fun r' q' => if r' < r then clz A rk k n m r' q' else A r' q') g → Fr [(58, 0)] [] h g → AW mX11_clears (fun z g => z = none ∧ MZ (clz A rk k n m) g ∧ Fr [(58, 0)] [] h g) 23 [(6, vi r), (5, vi (A rk k % m)), (0, vr 40 0), (1, vi rk), (2, vi k), (3, vi n), (4, vi m)] [] g := by
    intro d
    induction d with
    | zero =>
      intro r g hr hrr hM hF
      have hr : r = n := by omega
      subst hr
      refine u_iload (k := 15) rfl rfl ?_
      refine u_iloadn (k := 16) rfl rfl ?_
      refine a_icmp_ge (k := 17) rfl (fun c_26 => ?_) (fun c_26 => ?_)
      · refine a_return (k := 73) rfl rfl ?_
        refine ⟨rfl, hM.cong (fun r' q' _ _ => ?_), hF⟩
        by_cases hlt : r' < r
        · exact if_pos hlt
        · rw [if_neg hlt]
          exact (if_neg (by omega)).symm
      · omega
    | succ d ih =>
      intro r g hr hrr hM hF
      have Li : ∀ (e q : Nat) (g2 : HH), q + e = n → MZ (fun r' q' => if r' < r ∨ (r' = r ∧ q' < q) then clz A rk k n m r' q' else A r' q') g2 → Fr [(58, 0)] [] h g2 → AW mX11_clears (fun z g => z = none ∧ MZ (clz A rk k n m) g ∧ Fr [(58, 0)] [] h g) 51 [(8, vi q), (7, vi (A r k % m)), (6, vi r), (5, vi (A rk k % m)), (0, vr 40 0), (1, vi rk), (2, vi k), (3, vi n), (4, vi m)] [] g2 := by
        intro e
        induction e with
        | zero =>
          intro q g2 hq hM2 hF2
          refine u_iload (k := 31) rfl rfl ?_
          refine u_iloadn (k := 32) rfl rfl ?_
          refine a_icmp_ge (k := 33) rfl (fun c_54 => ?_) (fun c_54 => ?_)
          · refine u_iinc (k := 71) (lv' := [(6, _), (8, _), (7, _), (5, _), (0, _), (1, _), (2, _), (3, _), (4, _)]) rfl rfl (Nat.le_of_ble_eq_true rfl) (by omega) rfl ?_
            refine a_goto (k := 72) rfl ?_
            refine a_sub [0, 3, 4, 5, 6, 7, 8] rfl ?_
            refine ih (r + 1) g2 (by omega) (by omega) (hM2.cong (fun r' q' _ _ => ?_)) hF2
            by_cases hlt : r' < r
            · rw [if_pos (Or.inl hlt), if_pos (by omega)]
            · by_cases he : r' = r
              · subst he
                rw [if_pos (show r' < r' + 1 by omega)]
                by_cases hq2 : q' < q
                · exact if_pos (Or.inr ⟨rfl, hq2⟩)
                · rw [if_neg (by omega)]
                  exact (if_neg (by omega)).symm
              · rw [if_neg (by omega), if_neg (by omega)]
          · omega
        | succ e ihe =>
          intro q g2 hq hM2 hF2
          have e1 : g2 58 0 (8 * r + q) = A r q := by rw [hM2 r q (by omega) (by omega)]; exact if_neg (by omega)
          have e2 : g2 58 0 (8 * rk + q) = A rk q := by
            exact (hM2 rk q (by omega) (by omega)).trans ((if_pos (Or.inl hrr)).trans (if_neg (by omega)))
          have b1 := hB r q
          have b2 := hB rk q
          have m1 := mul5 (em_5 hm (A rk k)) (em_5 hm (A r q))
          have m2 := mul5 (em_5 hm (A r k)) (em_5 hm (A rk q))
          refine u_iload (k := 31) rfl rfl ?_
          refine u_iloadn (k := 32) rfl rfl ?_
          refine a_icmp_ge (k := 33) rfl (fun c_54 => ?_) (fun c_54 => ?_)
          · omega
          · refine u_aloadn (k := 34) rfl rfl ?_
            refine a_getr (k := 35) rfl fRX11_66 rfl rfl rfl ?_
            refine a_bipush (k := 36) rfl ?_
            refine u_iload (k := 37) rfl rfl ?_
            refine u_imul (k := 38) rfl (by omega) ?_
            refine u_iload (k := 39) rfl rfl ?_
            refine u_iadd (k := 40) rfl (by omega) ?_
            refine u_iload (k := 41) rfl rfl ?_
            refine u_aloadn (k := 42) rfl rfl ?_
            refine a_getr (k := 43) rfl fRX11_66 rfl rfl rfl ?_
            refine a_bipush (k := 44) rfl ?_
            refine u_iload (k := 45) rfl rfl ?_
            refine u_imul (k := 46) rfl (by omega) ?_
            refine u_iload (k := 47) rfl rfl ?_
            refine u_iadd (k := 48) rfl (by omega) ?_
            refine u_ialdx (8 * r + q) (k := 49) rfl rfl rfl (by omega) (by omega) ?_
            rw [e1]
            refine u_iload (k := 50) rfl rfl ?_
            refine i_stat2 (M' := mX11_left) (k := 51) rfl lRX11_226 oX11_left vX11_left ⟨Nat.le_of_ble_eq_true rfl, Nat.le_of_ble_eq_true rfl⟩ rfl (Nat.le_of_ble_eq_true rfl) (m_left _ m g2 hm (by omega) (by omega)) ?_
            refine u_imul (k := 52) rfl (by omega) ?_
            refine u_iload (k := 53) rfl rfl ?_
            refine u_aloadn (k := 54) rfl rfl ?_
            refine a_getr (k := 55) rfl fRX11_66 rfl rfl rfl ?_
            refine a_bipush (k := 56) rfl ?_
            refine u_iloadn (k := 57) rfl rfl ?_
            refine u_imul (k := 58) rfl (by omega) ?_
            refine u_iload (k := 59) rfl rfl ?_
            refine u_iadd (k := 60) rfl (by omega) ?_
            refine u_ialdx (8 * rk + q) (k := 61) rfl rfl rfl (by omega) (by omega) ?_
            rw [e2]
            refine u_iload (k := 62) rfl rfl ?_
            refine i_stat2 (M' := mX11_left) (k := 63) rfl lRX11_226 oX11_left vX11_left ⟨Nat.le_of_ble_eq_true rfl, Nat.le_of_ble_eq_true rfl⟩ rfl (Nat.le_of_ble_eq_true rfl) (m_left _ m g2 hm (by omega) (by omega)) ?_
            refine u_imul (k := 64) rfl (by omega) ?_
            refine u_isub (k := 65) rfl (by omega) ?_
            refine u_iload (k := 66) rfl rfl ?_
            refine i_stat2 (M' := mX11_left) (k := 67) rfl lRX11_226 oX11_left vX11_left ⟨Nat.le_of_ble_eq_true rfl, Nat.le_of_ble_eq_true rfl⟩ rfl (Nat.le_of_ble_eq_true rfl) (m_left _ m g2 hm (by omega) (by omega)) ?_
            refine u_iastx (8 * r + q) (k := 68) rfl rfl rfl (by omega) (by omega) ?_
            refine u_iinc (k := 69) (lv' := [(8, _), (7, _), (6, _), (5, _), (0, _), (1, _), (2, _), (3, _), (4, _)]) rfl rfl (Nat.le_of_ble_eq_true rfl) (by omega) rfl ?_
            refine a_goto (k := 70) rfl ?_
            refine ihe (q + 1) _ (by omega) ((hM2.put (r := r) (k := q) (by omega)).cong (fun r' q' _ _ => ?_)) (hF2.p1 (by simp))
            unfold uz
            by_cases he : r' = r ∧ q' = q
            · obtain ⟨rfl, rfl⟩ := he
              rw [if_pos ⟨rfl, rfl⟩, if_pos (Or.inr ⟨rfl, by omega⟩)]
              exact (if_pos ⟨hrr, by omega, by omega⟩).symm
            · rw [if_neg he]
              show (if r' < r ∨ (r' = r ∧ q' < q) then clz A rk k n m r' q' else A r' q') = _
              by_cases h3 : r' < r ∨ (r' = r ∧ q' < q)
              · rw [if_pos h3, if_pos (by omega)]
              · rw [if_neg h3, if_neg (by omega)]
      have e3 : g 58 0 (8 * r + k) = A r k := by rw [hM r k (by omega) (by omega)]; exact if_neg (by omega)
      have b3 := hB r k
      refine u_iload (k := 15) rfl rfl ?_
      refine u_iloadn (k := 16) rfl rfl ?_
      refine a_icmp_ge (k := 17) rfl (fun c_26 => ?_) (fun c_26 => ?_)
      · omega
      · refine u_aloadn (k := 18) rfl rfl ?_
        refine a_getr (k := 19) rfl fRX11_66 rfl rfl rfl ?_
        refine a_bipush (k := 20) rfl ?_
        refine u_iload (k := 21) rfl rfl ?_
        refine u_imul (k := 22) rfl (by omega) ?_
        refine u_iloadn (k := 23) rfl rfl ?_
        refine u_iadd (k := 24) rfl (by omega) ?_
        refine u_ialdx (8 * r + k) (k := 25) rfl rfl rfl (by omega) (by omega) ?_
        rw [e3]
        refine u_iload (k := 26) rfl rfl ?_
        refine i_stat2 (M' := mX11_left) (k := 27) rfl lRX11_226 oX11_left vX11_left ⟨Nat.le_of_ble_eq_true rfl, Nat.le_of_ble_eq_true rfl⟩ rfl (Nat.le_of_ble_eq_true rfl) (m_left _ m g hm (by omega) (by omega)) ?_
        refine a_istore (k := 28) (lv' := [(7, _), (6, _), (5, _), (0, _), (1, _), (2, _), (3, _), (4, _)]) rfl (Nat.le_of_ble_eq_true rfl) rfl ?_
        refine a_iconst (k := 29) rfl ?_
        refine a_istore (k := 30) (lv' := [(8, _), (7, _), (6, _), (5, _), (0, _), (1, _), (2, _), (3, _), (4, _)]) rfl (Nat.le_of_ble_eq_true rfl) rfl ?_
        refine Li n 0 g (by omega) (hM.cong (fun r' q' _ _ => ?_)) hF
        by_cases h3 : r' < r
        · rw [if_pos h3, if_pos (Or.inl h3)]
        · rw [if_neg h3, if_neg (by omega)]
  have e0 : h 58 0 (8 * rk + k) = A rk k := hA rk k (by omega) (by omega)
  have b0 := hB rk k
  refine u_aloadn (k := 0) rfl rfl ?_
  refine a_getr (k := 1) rfl fRX11_66 rfl rfl rfl ?_
  refine a_bipush (k := 2) rfl ?_
  refine u_iloadn (k := 3) rfl rfl ?_
  refine u_imul (k := 4) rfl (by omega) ?_
  refine u_iloadn (k := 5) rfl rfl ?_
  refine u_iadd (k := 6) rfl (by omega) ?_
  refine u_ialdx (8 * rk + k) (k := 7) rfl rfl rfl (by omega) (by omega) ?_
  rw [e0]
  refine u_iload (k := 8) rfl rfl ?_
  refine i_stat2 (M' := mX11_left) (k := 9) rfl lRX11_226 oX11_left vX11_left ⟨Nat.le_of_ble_eq_true rfl, Nat.le_of_ble_eq_true rfl⟩ rfl (Nat.le_of_ble_eq_true rfl) (m_left _ m h hm (by omega) (by omega)) ?_
  refine a_istore (k := 10) (lv' := [(5, _), (0, _), (1, _), (2, _), (3, _), (4, _)]) rfl (Nat.le_of_ble_eq_true rfl) rfl ?_
  refine u_iloadn (k := 11) rfl rfl ?_
  refine a_iconst (k := 12) rfl ?_
  refine u_iadd (k := 13) rfl (by omega) ?_
  refine a_istore (k := 14) (lv' := [(6, _), (5, _), (0, _), (1, _), (2, _), (3, _), (4, _)]) rfl (Nat.le_of_ble_eq_true rfl) rfl ?_
  refine Lo (n - (rk + 1)) (rk + 1) h (by omega) (by omega) (hA.cong (fun r' q' _ _ => ?_)) Fr.rf
  by_cases h3 : r' < rk + 1
  · rw [if_pos h3]
    exact (if_neg (by omega)).symm
  · rw [if_neg h3]
