/-! sums over a tray's ropes -/
def sumT (n : Nat) (F : Nat → Nat) : Nat := match n with
  | 0 => 0
  | k + 1 => sumT k F + F k
theorem x_crossingsOfAll (t n : Nat) (C : Nat → Nat) (h : HH) (hn : h 3 t 1 = (n : Int)) (h5 : n ≤ 5) (hC : ∀ k, k < n → h 5 (5 * t + k) 2 = (C k : Int)) (hC8 : ∀ k, k < n → C k ≤ 8) : SpI mX9_crossingsOfAll [vr 3 t] h (sumT n C) h := by
  refine Sp.of rfl kX9_crossingsOfAll (Nat.le_of_ble_eq_true rfl) ?_
  have hb : ∀ k, k ≤ n → sumT k C ≤ 8 * k := by
    intro k
    induction k with
    | zero => intro _; exact Nat.le_refl 0
    | succ k ih => intro hk; have := ih (by omega); have := hC8 k (by omega); unfold sumT; omega
  have L : ∀ (m k : Nat), k + m = n → AW mX9_crossingsOfAll (fun r g => r = some (vi (sumT n C)) ∧ g = h) 4 [(0, vr 3 t), (1, vi (sumT k C)), (2, vi k)] [] h := by
    intro m
    induction m with
    | zero =>
      intro k hk
      have hk : k = n := by omega
      subst hk
      refine u_iloadn (k := 4) rfl rfl ?_
      refine u_aloadn (k := 5) rfl rfl ?_
      refine a_geti (k := 6) rfl fRX9_20 rfl rfl ?_
      refine a_icmp_ge (k := 7) rfl (fun c_9 => ?_) (fun c_9 => ?_)
      · refine u_iloadn (k := 21) rfl rfl ?_
        refine a_ireturn (k := 22) rfl rfl ?_
        exact ⟨rfl, rfl⟩
      · omega
    | succ m ih =>
      intro k hk
      have hc := hC k (by omega)
      have hc8 := hC8 k (by omega)
      have hbk := hb k (by omega)
      refine u_iloadn (k := 4) rfl rfl ?_
      refine u_aloadn (k := 5) rfl rfl ?_
      refine a_geti (k := 6) rfl fRX9_20 rfl rfl ?_
      refine a_icmp_ge (k := 7) rfl (fun c_9 => ?_) (fun c_9 => ?_)
      · omega
      · refine u_iloadn (k := 8) rfl rfl ?_
        refine a_iconst (k := 9) rfl ?_
        refine a_icmp_ge (k := 10) rfl (fun c_14 => ?_) (fun c_14 => ?_)
        · omega
        · refine u_iloadn (k := 11) rfl rfl ?_
          refine u_aloadn (k := 12) rfl rfl ?_
          refine a_getr (k := 13) rfl fRX9_11 rfl rfl rfl ?_
          refine u_iloadn (k := 14) rfl rfl ?_
          refine u_aald (k := 15) rfl rfl rfl (by decide) (by omega) rfl ?_
          refine a_geti (k := 16) rfl fRX9_31 rfl rfl ?_
          rw [hc]
          refine u_iadd (k := 17) rfl (by omega) ?_
          refine a_istoren (k := 18) (lv' := [(1, _), (0, _), (2, _)]) rfl (Nat.le_of_ble_eq_true rfl) rfl ?_
          refine u_iinc (k := 19) (lv' := [(2, _), (1, _), (0, _)]) rfl rfl (Nat.le_of_ble_eq_true rfl) (by omega) rfl ?_
          refine a_goto (k := 20) rfl ?_
          refine a_sub [2, 1, 0] rfl ?_
          exact ih (k + 1) (by omega)
  refine a_iconst (k := 0) rfl ?_
  refine a_istoren (k := 1) (lv' := [(1, _), (0, _)]) rfl (Nat.le_of_ble_eq_true rfl) rfl ?_
  refine a_iconst (k := 2) rfl ?_
  refine a_istoren (k := 3) (lv' := [(2, _), (1, _), (0, _)]) rfl (Nat.le_of_ble_eq_true rfl) rfl ?_
  refine a_sub [2, 1, 0] rfl ?_
  exact L n 0 (by omega)
theorem x_saltedOfAll (t n : Nat) (C : Nat → Nat) (h : HH) (hn : h 3 t 1 = (n : Int)) (h5 : n ≤ 5) (hC : ∀ k, k < n → h 5 (5 * t + k) 3 = (C k : Int)) (hC8 : ∀ k, k < n → C k < 256) : SpI mX9_saltedOfAll [vr 3 t] h (sumT n (fun k => pc_ (C k))) h := by
  refine Sp.of rfl kX9_saltedOfAll (Nat.le_of_ble_eq_true rfl) ?_
  have hb : ∀ k, k ≤ n → sumT k (fun k => pc_ (C k)) ≤ 32 * k := by
    intro k
    induction k with
    | zero => intro _; exact Nat.le_refl 0
    | succ k ih => intro hk; have := ih (by omega); have : pc_ (C k) ≤ 32 := pct_le _ _; unfold sumT; omega
  have L : ∀ (m k : Nat), k + m = n → AW mX9_saltedOfAll (fun r g => r = some (vi (sumT n (fun k => pc_ (C k)))) ∧ g = h) 4 [(0, vr 3 t), (1, vi (sumT k (fun k => pc_ (C k)))), (2, vi k)] [] h := by
    intro m
    induction m with
    | zero =>
      intro k hk
      have hk : k = n := by omega
      subst hk
      refine u_iloadn (k := 4) rfl rfl ?_
      refine u_aloadn (k := 5) rfl rfl ?_
      refine a_geti (k := 6) rfl fRX9_20 rfl rfl ?_
      refine a_icmp_ge (k := 7) rfl (fun c_9 => ?_) (fun c_9 => ?_)
      · refine u_iloadn (k := 22) rfl rfl ?_
        refine a_ireturn (k := 23) rfl rfl ?_
        exact ⟨rfl, rfl⟩
      · omega
    | succ m ih =>
      intro k hk
      have hc := hC k (by omega)
      have hc8 := hC8 k (by omega)
      have hbk := hb k (by omega)
      have hp32 : pc_ (C k) ≤ 32 := pct_le _ _
      refine u_iloadn (k := 4) rfl rfl ?_
      refine u_aloadn (k := 5) rfl rfl ?_
      refine a_geti (k := 6) rfl fRX9_20 rfl rfl ?_
      refine a_icmp_ge (k := 7) rfl (fun c_9 => ?_) (fun c_9 => ?_)
      · omega
      · refine u_iloadn (k := 8) rfl rfl ?_
        refine a_iconst (k := 9) rfl ?_
        refine a_icmp_ge (k := 10) rfl (fun c_14 => ?_) (fun c_14 => ?_)
        · omega
        · refine u_iloadn (k := 11) rfl rfl ?_
          refine u_aloadn (k := 12) rfl rfl ?_
          refine a_getr (k := 13) rfl fRX9_11 rfl rfl rfl ?_
          refine u_iloadn (k := 14) rfl rfl ?_
          refine u_aald (k := 15) rfl rfl rfl (by decide) (by omega) rfl ?_
          refine a_geti (k := 16) rfl fRX9_34 rfl rfl ?_
          rw [hc]
          refine i_stat1 (M' := mJ6_bitCount_0f7a4) (k := 17) rfl lRX9_37 oJ6_bitCount_0f7a4 vJ6_bitCount_0f7a4 ⟨Nat.le_of_ble_eq_true rfl, Nat.le_of_ble_eq_true rfl⟩ rfl (Nat.le_of_ble_eq_true rfl) (j_bitCount (C k) h (by omega)) ?_
          refine u_iadd (k := 18) rfl (by omega) ?_
          refine a_istoren (k := 19) (lv' := [(1, _), (0, _), (2, _)]) rfl (Nat.le_of_ble_eq_true rfl) rfl ?_
          refine u_iinc (k := 20) (lv' := [(2, _), (1, _), (0, _)]) rfl rfl (Nat.le_of_ble_eq_true rfl) (by omega) rfl ?_
          refine a_goto (k := 21) rfl ?_
          refine a_sub [2, 1, 0] rfl ?_
          exact ih (k + 1) (by omega)
  refine a_iconst (k := 0) rfl ?_
  refine a_istoren (k := 1) (lv' := [(1, _), (0, _)]) rfl (Nat.le_of_ble_eq_true rfl) rfl ?_
  refine a_iconst (k := 2) rfl ?_
  refine a_istoren (k := 3) (lv' := [(2, _), (1, _), (0, _)]) rfl (Nat.le_of_ble_eq_true rfl) rfl ?_
  refine a_sub [2, 1, 0] rfl ?_
  exact L n 0 (by omega)
/-- the set of those k below n with p -/
def setT (p : Nat → Bool) : Nat → Nat
  | 0 => 0
  | k + 1 => if p k then setT p k ||| 2 ^ k else setT p k
theorem setT_lt (p : Nat → Bool) : ∀ n, setT p n < 2 ^ n
  | 0 => by unfold setT; omega
  | n + 1 => by
    have := setT_lt p n
    have h2 : 2 ^ n < 2 ^ (n + 1) := Nat.pow_lt_pow_right (by omega) (by omega)
    unfold setT
    split
    · exact Nat.or_lt_two_pow (by omega) h2
    · omega
theorem x_plainOnes (t n : Nat) (C : Nat → Nat) (h : HH) (hn : h 3 t 1 = (n : Int)) (h5 : n ≤ 5) (hC : ∀ k, k < n → h 5 (5 * t + k) 2 = (C k : Int)) : SpI mX9_plainOnes [vr 3 t] h (setT (fun k => decide (C k = 0)) n) h := by
  refine Sp.of rfl kX9_plainOnes (Nat.le_of_ble_eq_true rfl) ?_
  have L : ∀ (m k : Nat), k + m = n → AW mX9_plainOnes (fun r g => r = some (vi (setT (fun k => decide (C k = 0)) n)) ∧ g = h) 4 [(0, vr 3 t), (1, vi (setT (fun k => decide (C k = 0)) k)), (2, vi k)] [] h := by
    intro m
    induction m with
    | zero =>
      intro k hk
      have hk : k = n := by omega
      subst hk
      refine u_iloadn (k := 4) rfl rfl ?_
      refine u_aloadn (k := 5) rfl rfl ?_
      refine a_geti (k := 6) rfl fRX9_20 rfl rfl ?_
      refine a_icmp_ge (k := 7) rfl (fun c_9 => ?_) (fun c_9 => ?_)
      · refine u_iloadn (k := 25) rfl rfl ?_
        refine a_ireturn (k := 26) rfl rfl ?_
        exact ⟨rfl, rfl⟩
      · omega
    | succ m ih =>
      intro k hk
      have hc := hC k (by omega)
      have hb := setT_lt (fun k => decide (C k = 0)) k
      have hk2 : 2 ^ k ≤ 2 ^ 5 := Nat.pow_le_pow_right (by omega) (by omega)
      have hk3 : 2 ^ k < 2 ^ 31 := by omega
      refine u_iloadn (k := 4) rfl rfl ?_
      refine u_aloadn (k := 5) rfl rfl ?_
      refine a_geti (k := 6) rfl fRX9_20 rfl rfl ?_
      refine a_icmp_ge (k := 7) rfl (fun c_9 => ?_) (fun c_9 => ?_)
      · omega
      · refine u_iloadn (k := 8) rfl rfl ?_
        refine a_iconst (k := 9) rfl ?_
        refine a_icmp_ge (k := 10) rfl (fun c_14 => ?_) (fun c_14 => ?_)
        · omega
        · refine u_aloadn (k := 11) rfl rfl ?_
          refine a_getr (k := 12) rfl fRX9_11 rfl rfl rfl ?_
          refine u_iloadn (k := 13) rfl rfl ?_
          refine u_aald (k := 14) rfl rfl rfl (by decide) (by omega) rfl ?_
          refine a_geti (k := 15) rfl fRX9_31 rfl rfl ?_
          rw [hc]
          refine a_if_ne (k := 16) rfl (fun c_26 => ?_) (fun c_26 => ?_)
          · have es : setT (fun k => decide (C k = 0)) (k + 1) = setT (fun k => decide (C k = 0)) k := by unfold setT; rw [if_neg (by simp; omega)]; cases k <;> rfl
            refine u_iinc (k := 23) (lv' := [(2, _), (0, _), (1, _)]) rfl rfl (Nat.le_of_ble_eq_true rfl) (by omega) rfl ?_
            refine a_goto (k := 24) rfl ?_
            refine a_sub [1, 2, 0] rfl ?_
            have := ih (k + 1) (by omega); rw [es] at this; exact this
          · have es : setT (fun k => decide (C k = 0)) (k + 1) = setT (fun k => decide (C k = 0)) k ||| 2 ^ k := by unfold setT; rw [if_pos (by simp; omega)]; cases k <;> rfl
            refine u_iloadn (k := 17) rfl rfl ?_
            refine a_iconst (k := 18) rfl ?_
            refine u_iloadn (k := 19) rfl rfl ?_
            refine a_ishl (k := 20) rfl ?_
            refine a_ior (k := 21) rfl ?_
            rw [shl1 (by omega), ior_nat (by omega) hk3]
            refine a_istoren (k := 22) (lv' := [(1, _), (0, _), (2, _)]) rfl (Nat.le_of_ble_eq_true rfl) rfl ?_
            refine u_iinc (k := 23) (lv' := [(2, _), (1, _), (0, _)]) rfl rfl (Nat.le_of_ble_eq_true rfl) (by omega) rfl ?_
            refine a_goto (k := 24) rfl ?_
            refine a_sub [2, 1, 0] rfl ?_
            have := ih (k + 1) (by omega); rw [es] at this; exact this
  refine a_iconst (k := 0) rfl ?_
  refine a_istoren (k := 1) (lv' := [(1, _), (0, _)]) rfl (Nat.le_of_ble_eq_true rfl) rfl ?_
  refine a_iconst (k := 2) rfl ?_
  refine a_istoren (k := 3) (lv' := [(2, _), (1, _), (0, _)]) rfl (Nat.le_of_ble_eq_true rfl) rfl ?_
  refine a_sub [2, 1, 0] rfl ?_
  exact L n 0 (by omega)
/-- Book.firstWrong: the first entry that is otherwise -/
def fwr (p : Nat → Bool) : Nat → Nat → Int
  | 0, _ => -1
  | m + 1, i => if p i then (i : Int) else fwr p m (i + 1)
theorem x_firstWrong (t n : Nat) (p : Nat → Bool) (h : HH) (hn : h 14 0 2 = (n : Int)) (h15 : n ≤ 15) (hk5 : h 3 t 1 ≤ 5) (hp : ∀ i, i < n → (p i = true ↔ ¬ (0 ≤ h 15 0 i ∧ h 15 0 i < h 3 t 1 ∧ h 5 (5 * t + (h 15 0 i).toNat) 2 = h 16 0 i))) : SpI mX0_firstWrong [vr 14 0, vr 3 t] h (fwr p n 0) h := by
  refine Sp.of rfl kX0_firstWrong (Nat.le_of_ble_eq_true rfl) ?_
  have L : ∀ (m i : Nat), i + m = n → AW mX0_firstWrong (fun r g => r = some (vi (fwr p m i)) ∧ g = h) 2 [(0, vr 14 0), (1, vr 3 t), (2, vi i)] [] h := by
    intro m
    induction m with
    | zero =>
      intro i hi
      refine u_iloadn (k := 2) rfl rfl ?_
      refine u_aloadn (k := 3) rfl rfl ?_
      refine a_geti (k := 4) rfl fRX0_18 rfl rfl ?_
      refine a_icmp_ge (k := 5) rfl (fun c_7 => ?_) (fun c_7 => ?_)
      · refine a_iconst (k := 29) rfl ?_
        refine a_ireturn (k := 30) rfl rfl ?_
        exact ⟨rfl, rfl⟩
      · omega
    | succ m ih =>
      intro i hi
      have hpi := hp i (by omega)
      have e1 : fwr p (m + 1) i = if p i then (i : Int) else fwr p m (i + 1) := rfl
      by_cases hin : 0 ≤ h 15 0 i ∧ h 15 0 i < h 3 t 1
      · obtain ⟨k, hk⟩ : ∃ k : Nat, h 15 0 i = (k : Int) := ⟨(h 15 0 i).toNat, by omega⟩
        rw [hk, Int.toNat_natCast] at hpi
        refine u_iloadn (k := 2) rfl rfl ?_
        refine u_aloadn (k := 3) rfl rfl ?_
        refine a_geti (k := 4) rfl fRX0_18 rfl rfl ?_
        refine a_icmp_ge (k := 5) rfl (fun c_7 => ?_) (fun c_7 => ?_)
        · omega
        · refine u_iloadn (k := 6) rfl rfl ?_
          refine a_bipush (k := 7) rfl ?_
          refine a_icmp_ge (k := 8) rfl (fun c_13 => ?_) (fun c_13 => ?_)
          · omega
          · refine u_aloadn (k := 9) rfl rfl ?_
            refine u_aloadn (k := 10) rfl rfl ?_
            refine a_getr (k := 11) rfl fRX0_9 rfl rfl rfl ?_
            refine u_iloadn (k := 12) rfl rfl ?_
            refine u_iald (k := 13) rfl rfl rfl (by omega) ?_
            rw [hk]
            refine r_virt1 (M' := mX9_ropeOf) (k := 14) rfl lRX0_22 oX9_ropeOf vX9_ropeOf ⟨Nat.le_of_ble_eq_true rfl, Nat.le_of_ble_eq_true rfl⟩ rfl rfl (Nat.le_of_ble_eq_true rfl) (x_ropeOf t k h (by omega) (by omega)) ?_
            refine a_astoren (k := 15) (lv' := [(3, _), (0, _), (1, _), (2, _)]) rfl (Nat.le_of_ble_eq_true rfl) rfl ?_
            refine u_aloadn (k := 16) rfl rfl ?_
            refine a_nullR (k := 17) rfl ?_
            refine u_aloadn (k := 18) rfl rfl ?_
            refine a_geti (k := 19) rfl fRX0_28 rfl rfl ?_
            refine u_aloadn (k := 20) rfl rfl ?_
            refine a_getr (k := 21) rfl fRX0_15 rfl rfl rfl ?_
            refine u_iloadn (k := 22) rfl rfl ?_
            refine u_iald (k := 23) rfl rfl rfl (by omega) ?_
            refine a_icmp_eq (k := 24) rfl (fun c_41 => ?_) (fun c_41 => ?_)
            · have hpf : ¬ p i = true := by rw [hpi]; omega
              refine u_iinc (k := 27) (lv' := [(2, _), (3, _), (0, _), (1, _)]) rfl rfl (Nat.le_of_ble_eq_true rfl) (by omega) rfl ?_
              refine a_goto (k := 28) rfl ?_
              refine a_sub [2, 3, 0] rfl ?_
              rw [e1, if_neg hpf]; exact ih (i + 1) (by omega)
            · have hpf : p i = true := by rw [hpi]; omega
              refine u_iloadn (k := 25) rfl rfl ?_
              refine a_ireturn (k := 26) rfl rfl ?_
              exact ⟨by rw [e1, if_pos hpf], rfl⟩
      · have hpf : p i = true := by rw [hpi]; omega
        refine u_iloadn (k := 2) rfl rfl ?_
        refine u_aloadn (k := 3) rfl rfl ?_
        refine a_geti (k := 4) rfl fRX0_18 rfl rfl ?_
        refine a_icmp_ge (k := 5) rfl (fun c_7 => ?_) (fun c_7 => ?_)
        · omega
        · refine u_iloadn (k := 6) rfl rfl ?_
          refine a_bipush (k := 7) rfl ?_
          refine a_icmp_ge (k := 8) rfl (fun c_13 => ?_) (fun c_13 => ?_)
          · omega
          · refine u_aloadn (k := 9) rfl rfl ?_
            refine u_aloadn (k := 10) rfl rfl ?_
            refine a_getr (k := 11) rfl fRX0_9 rfl rfl rfl ?_
            refine u_iloadn (k := 12) rfl rfl ?_
            refine u_iald (k := 13) rfl rfl rfl (by omega) ?_
            refine r_virt1 (M' := mX9_ropeOf) (k := 14) rfl lRX0_22 oX9_ropeOf vX9_ropeOf ⟨Nat.le_of_ble_eq_true rfl, Nat.le_of_ble_eq_true rfl⟩ rfl rfl (Nat.le_of_ble_eq_true rfl) (x_ropeNo t (h 15 0 i) h (by omega)) ?_
            refine a_astorenN (k := 15) (lv' := [(3, _), (0, _), (1, _), (2, _)]) rfl (Nat.le_of_ble_eq_true rfl) rfl ?_
            refine u_aloadnN (k := 16) rfl rfl ?_
            refine a_nullN (k := 17) rfl ?_
            refine u_iloadn (k := 25) rfl rfl ?_
            refine a_ireturn (k := 26) rfl rfl ?_
            exact ⟨by rw [e1, if_pos hpf], rfl⟩
  refine a_iconst (k := 0) rfl ?_
  refine a_istoren (k := 1) (lv' := [(2, _), (0, _), (1, _)]) rfl (Nat.le_of_ble_eq_true rfl) rfl ?_
  refine a_sub [1, 2, 0] rfl ?_
  exact L n 0 (by omega)
