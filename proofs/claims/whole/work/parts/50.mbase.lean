/-! the reference: its small methods -/
def inb (v lo hi : Int) : Bool := decide (lo ≤ v) && decide (v ≤ hi)
theorem inb_iff {v lo hi : Int} : inb v lo hi = true ↔ lo ≤ v ∧ v ≤ hi := by simp [inb]
theorem m_in (v lo hi : Int) (h : HH) : SpI mX11_in [vl v, vl lo, vl hi] h (b01 (inb v lo hi)) h := by
  refine Sp.of rfl kX11_in (Nat.le_of_ble_eq_true rfl) ?_
  have e : b01 (inb v lo hi) = if lo ≤ v ∧ v ≤ hi then 1 else 0 := by
    unfold b01
    by_cases hh : lo ≤ v ∧ v ≤ hi
    · rw [if_pos hh, if_pos (inb_iff.mpr hh)]
    · rw [if_neg hh, if_neg (fun z => hh (inb_iff.mp z))]
  refine u_lloadn (k := 0) rfl rfl ?_
  refine u_lloadn (k := 1) rfl rfl ?_
  refine a_lcmp (k := 2) rfl (fun c_2 => ?_) (fun c_2 => ?_) (fun c_2 => ?_)
  · refine a_if_lt (k := 3) rfl (fun c_3 => ?_) (fun c_3 => ?_)
    · refine a_iconst (k := 10) rfl ?_
      refine a_zreturn (k := 11) rfl rfl (by omega) ?_
      first | (exfalso; omega) | exact ⟨by rw [e, if_pos (by omega)], rfl⟩ | exact ⟨by rw [e, if_neg (by omega)], rfl⟩
    · refine u_lloadn (k := 4) rfl rfl ?_
      refine u_lload (k := 5) rfl rfl ?_
      refine a_lcmp (k := 6) rfl (fun c_9 => ?_) (fun c_9 => ?_) (fun c_9 => ?_)
      · refine a_if_gt (k := 7) rfl (fun c_10 => ?_) (fun c_10 => ?_)
        · refine a_iconst (k := 10) rfl ?_
          refine a_zreturn (k := 11) rfl rfl (by omega) ?_
          first | (exfalso; omega) | exact ⟨by rw [e, if_pos (by omega)], rfl⟩ | exact ⟨by rw [e, if_neg (by omega)], rfl⟩
        · refine a_iconst (k := 8) rfl ?_
          refine a_goto (k := 9) rfl ?_
          refine a_zreturn (k := 11) rfl rfl (by omega) ?_
          first | (exfalso; omega) | exact ⟨by rw [e, if_pos (by omega)], rfl⟩ | exact ⟨by rw [e, if_neg (by omega)], rfl⟩
      · refine a_if_gt (k := 7) rfl (fun c_10 => ?_) (fun c_10 => ?_)
        · refine a_iconst (k := 10) rfl ?_
          refine a_zreturn (k := 11) rfl rfl (by omega) ?_
          first | (exfalso; omega) | exact ⟨by rw [e, if_pos (by omega)], rfl⟩ | exact ⟨by rw [e, if_neg (by omega)], rfl⟩
        · refine a_iconst (k := 8) rfl ?_
          refine a_goto (k := 9) rfl ?_
          refine a_zreturn (k := 11) rfl rfl (by omega) ?_
          first | (exfalso; omega) | exact ⟨by rw [e, if_pos (by omega)], rfl⟩ | exact ⟨by rw [e, if_neg (by omega)], rfl⟩
      · refine a_if_gt (k := 7) rfl (fun c_10 => ?_) (fun c_10 => ?_)
        · refine a_iconst (k := 10) rfl ?_
          refine a_zreturn (k := 11) rfl rfl (by omega) ?_
          first | (exfalso; omega) | exact ⟨by rw [e, if_pos (by omega)], rfl⟩ | exact ⟨by rw [e, if_neg (by omega)], rfl⟩
        · refine a_iconst (k := 8) rfl ?_
          refine a_goto (k := 9) rfl ?_
          refine a_zreturn (k := 11) rfl rfl (by omega) ?_
          first | (exfalso; omega) | exact ⟨by rw [e, if_pos (by omega)], rfl⟩ | exact ⟨by rw [e, if_neg (by omega)], rfl⟩
  · refine a_if_lt (k := 3) rfl (fun c_3 => ?_) (fun c_3 => ?_)
    · refine a_iconst (k := 10) rfl ?_
      refine a_zreturn (k := 11) rfl rfl (by omega) ?_
      first | (exfalso; omega) | exact ⟨by rw [e, if_pos (by omega)], rfl⟩ | exact ⟨by rw [e, if_neg (by omega)], rfl⟩
    · refine u_lloadn (k := 4) rfl rfl ?_
      refine u_lload (k := 5) rfl rfl ?_
      refine a_lcmp (k := 6) rfl (fun c_9 => ?_) (fun c_9 => ?_) (fun c_9 => ?_)
      · refine a_if_gt (k := 7) rfl (fun c_10 => ?_) (fun c_10 => ?_)
        · refine a_iconst (k := 10) rfl ?_
          refine a_zreturn (k := 11) rfl rfl (by omega) ?_
          first | (exfalso; omega) | exact ⟨by rw [e, if_pos (by omega)], rfl⟩ | exact ⟨by rw [e, if_neg (by omega)], rfl⟩
        · refine a_iconst (k := 8) rfl ?_
          refine a_goto (k := 9) rfl ?_
          refine a_zreturn (k := 11) rfl rfl (by omega) ?_
          first | (exfalso; omega) | exact ⟨by rw [e, if_pos (by omega)], rfl⟩ | exact ⟨by rw [e, if_neg (by omega)], rfl⟩
      · refine a_if_gt (k := 7) rfl (fun c_10 => ?_) (fun c_10 => ?_)
        · refine a_iconst (k := 10) rfl ?_
          refine a_zreturn (k := 11) rfl rfl (by omega) ?_
          first | (exfalso; omega) | exact ⟨by rw [e, if_pos (by omega)], rfl⟩ | exact ⟨by rw [e, if_neg (by omega)], rfl⟩
        · refine a_iconst (k := 8) rfl ?_
          refine a_goto (k := 9) rfl ?_
          refine a_zreturn (k := 11) rfl rfl (by omega) ?_
          first | (exfalso; omega) | exact ⟨by rw [e, if_pos (by omega)], rfl⟩ | exact ⟨by rw [e, if_neg (by omega)], rfl⟩
      · refine a_if_gt (k := 7) rfl (fun c_10 => ?_) (fun c_10 => ?_)
        · refine a_iconst (k := 10) rfl ?_
          refine a_zreturn (k := 11) rfl rfl (by omega) ?_
          first | (exfalso; omega) | exact ⟨by rw [e, if_pos (by omega)], rfl⟩ | exact ⟨by rw [e, if_neg (by omega)], rfl⟩
        · refine a_iconst (k := 8) rfl ?_
          refine a_goto (k := 9) rfl ?_
          refine a_zreturn (k := 11) rfl rfl (by omega) ?_
          first | (exfalso; omega) | exact ⟨by rw [e, if_pos (by omega)], rfl⟩ | exact ⟨by rw [e, if_neg (by omega)], rfl⟩
  · refine a_if_lt (k := 3) rfl (fun c_3 => ?_) (fun c_3 => ?_)
    · refine a_iconst (k := 10) rfl ?_
      refine a_zreturn (k := 11) rfl rfl (by omega) ?_
      first | (exfalso; omega) | exact ⟨by rw [e, if_pos (by omega)], rfl⟩ | exact ⟨by rw [e, if_neg (by omega)], rfl⟩
    · refine u_lloadn (k := 4) rfl rfl ?_
      refine u_lload (k := 5) rfl rfl ?_
      refine a_lcmp (k := 6) rfl (fun c_9 => ?_) (fun c_9 => ?_) (fun c_9 => ?_)
      · refine a_if_gt (k := 7) rfl (fun c_10 => ?_) (fun c_10 => ?_)
        · refine a_iconst (k := 10) rfl ?_
          refine a_zreturn (k := 11) rfl rfl (by omega) ?_
          first | (exfalso; omega) | exact ⟨by rw [e, if_pos (by omega)], rfl⟩ | exact ⟨by rw [e, if_neg (by omega)], rfl⟩
        · refine a_iconst (k := 8) rfl ?_
          refine a_goto (k := 9) rfl ?_
          refine a_zreturn (k := 11) rfl rfl (by omega) ?_
          first | (exfalso; omega) | exact ⟨by rw [e, if_pos (by omega)], rfl⟩ | exact ⟨by rw [e, if_neg (by omega)], rfl⟩
      · refine a_if_gt (k := 7) rfl (fun c_10 => ?_) (fun c_10 => ?_)
        · refine a_iconst (k := 10) rfl ?_
          refine a_zreturn (k := 11) rfl rfl (by omega) ?_
          first | (exfalso; omega) | exact ⟨by rw [e, if_pos (by omega)], rfl⟩ | exact ⟨by rw [e, if_neg (by omega)], rfl⟩
        · refine a_iconst (k := 8) rfl ?_
          refine a_goto (k := 9) rfl ?_
          refine a_zreturn (k := 11) rfl rfl (by omega) ?_
          first | (exfalso; omega) | exact ⟨by rw [e, if_pos (by omega)], rfl⟩ | exact ⟨by rw [e, if_neg (by omega)], rfl⟩
      · refine a_if_gt (k := 7) rfl (fun c_10 => ?_) (fun c_10 => ?_)
        · refine a_iconst (k := 10) rfl ?_
          refine a_zreturn (k := 11) rfl rfl (by omega) ?_
          first | (exfalso; omega) | exact ⟨by rw [e, if_pos (by omega)], rfl⟩ | exact ⟨by rw [e, if_neg (by omega)], rfl⟩
        · refine a_iconst (k := 8) rfl ?_
          refine a_goto (k := 9) rfl ?_
          refine a_zreturn (k := 11) rfl rfl (by omega) ?_
          first | (exfalso; omega) | exact ⟨by rw [e, if_pos (by omega)], rfl⟩ | exact ⟨by rw [e, if_neg (by omega)], rfl⟩
theorem m_has (S m : Nat) (h : HH) (hS : S < 2 ^ 31) (hm : m < 32) : SpI mX11_has [vi S, vi m] h (tbi S m) h := by
  refine Sp.of rfl kX11_has (Nat.le_of_ble_eq_true rfl) ?_
  have e := sab hS hm
  have e01 := tbi_01 S m
  refine u_iloadn (k := 0) rfl rfl ?_
  refine u_iloadn (k := 1) rfl rfl ?_
  refine a_ishr (k := 2) rfl ?_
  refine a_iconst (k := 3) rfl ?_
  refine a_iand (k := 4) rfl ?_
  refine a_iconst (k := 5) rfl ?_
  rw [e]
  refine a_icmp_ne (k := 6) rfl (fun c_6 => ?_) (fun c_6 => ?_)
  · refine a_iconst (k := 9) rfl ?_
    refine a_zreturn (k := 10) rfl rfl (by omega) ?_
    exact ⟨by congr 2; omega, rfl⟩
  · refine a_iconst (k := 7) rfl ?_
    refine a_goto (k := 8) rfl ?_
    refine a_zreturn (k := 10) rfl rfl (by omega) ?_
    exact ⟨by congr 2; omega, rfl⟩
theorem m_bits (S : Nat) (h : HH) (hS : S < 2 ^ 31) : SpI mX11_bits [vi S] h (pct S 8 : Int) h := by
  refine Sp.of rfl kX11_bits (Nat.le_of_ble_eq_true rfl) ?_
  have Lp : ∀ (d k : Nat), k + d = 8 → AW mX11_bits (fun r g => r = some (vi (pct S 8 : Int)) ∧ g = h) 4 [(0, vi S), (1, vi (pct S k : Int)), (2, vi k)] [] h := by
    intro d
    induction d with
    | zero =>
      intro k hk
      refine u_iloadn (k := 4) rfl rfl ?_
      refine a_bipush (k := 5) rfl ?_
      refine a_icmp_ge (k := 6) rfl (fun c_7 => ?_) (fun c_7 => ?_)
      · refine u_iloadn (k := 17) rfl rfl ?_
        refine a_ireturn (k := 18) rfl rfl ?_
        exact ⟨by rw [show k = 8 by omega], rfl⟩
      · omega
    | succ d ih =>
      intro k hk
      have e := sab hS (show k < 32 by omega)
      have e01 := tbi_01 S k
      have hpl := pct_le S k
      refine u_iloadn (k := 4) rfl rfl ?_
      refine a_bipush (k := 5) rfl ?_
      refine a_icmp_ge (k := 6) rfl (fun c_7 => ?_) (fun c_7 => ?_)
      · omega
      · refine u_iloadn (k := 7) rfl rfl ?_
        refine u_iloadn (k := 8) rfl rfl ?_
        refine u_iloadn (k := 9) rfl rfl ?_
        refine a_ishr (k := 10) rfl ?_
        refine a_iconst (k := 11) rfl ?_
        refine a_iand (k := 12) rfl ?_
        rw [e]
        refine u_iadd (k := 13) rfl (by omega) ?_
        refine a_istoren (k := 14) (lv' := [(1, _), (0, _), (2, _)]) rfl (Nat.le_of_ble_eq_true rfl) rfl ?_
        refine u_iinc (k := 15) (lv' := [(2, _), (1, _), (0, _)]) rfl rfl (Nat.le_of_ble_eq_true rfl) (by omega) rfl ?_
        refine a_goto (k := 16) rfl ?_
        refine a_sub [2, 1, 0] rfl ?_
        have := ih (k + 1) (by omega)
        rw [show ((pct S (k + 1) : Nat) : Int) = (pct S k : Int) + tbi S k by
          show ((pct S k + _ : Nat) : Int) = _
          unfold tbi
          split <;> rfl] at this
        exact this
  refine a_iconst (k := 0) rfl ?_
  refine a_istoren (k := 1) (lv' := [(1, _), (0, _)]) rfl (Nat.le_of_ble_eq_true rfl) rfl ?_
  refine a_iconst (k := 2) rfl ?_
  refine a_istoren (k := 3) (lv' := [(2, _), (1, _), (0, _)]) rfl (Nat.le_of_ble_eq_true rfl) rfl ?_
  refine a_sub [2, 1, 0] rfl ?_
  exact Lp 8 0 (by omega)
theorem m_base (k : Nat) (h : HH) (hk : k < 1000) : SpI mX11_base [vr 40 0, vi k] h ((2 + 18 * k : Nat) : Int) h := by
  refine Sp.of rfl kX11_base (Nat.le_of_ble_eq_true rfl) ?_
  refine a_iconst (k := 0) rfl ?_
  refine a_bipush (k := 1) rfl ?_
  refine u_iloadn (k := 2) rfl rfl ?_
  refine u_imul (k := 3) rfl (by omega) ?_
  refine u_iadd (k := 4) rfl (by omega) ?_
  refine a_ireturn (k := 5) rfl rfl ?_
  exact ⟨by congr 2, rfl⟩
theorem m_isOne (k : Int) (n : Nat) (h : HH) (hn : h 41 0 1 = (n : Int)) (h5 : n ≤ 5) : SpI mX11_isOne [vr 40 0, vi k] h (b01 (decide (0 ≤ k ∧ k < n))) h := by
  refine Sp.of rfl kX11_isOne (Nat.le_of_ble_eq_true rfl) ?_
  have e : b01 (inb k 0 ((n : Int) - 1)) = b01 (decide (0 ≤ k ∧ k < n)) := by
    congr 1
    by_cases hh : 0 ≤ k ∧ k < n
    · rw [decide_eq_true hh]; exact inb_iff.mpr (by omega)
    · rw [decide_eq_false hh]; exact Bool.eq_false_iff.mpr (fun z => hh (by have := inb_iff.mp z; omega))
  have z01 : b01 (inb k 0 ((n : Int) - 1)) = 0 ∨ b01 (inb k 0 ((n : Int) - 1)) = 1 := by cases inb k 0 ((n : Int) - 1) <;> simp [b01]
  refine u_iloadn (k := 0) rfl rfl ?_
  refine a_i2l (k := 1) rfl ?_
  refine a_lconst (k := 2) rfl ?_
  refine u_aloadn (k := 3) rfl rfl ?_
  refine a_getr (k := 4) rfl fRX11_7 rfl rfl rfl ?_
  refine a_iconst (k := 5) rfl ?_
  refine u_ialdx 1 (k := 6) rfl rfl rfl (by omega) (by omega) ?_
  rw [hn]
  refine a_iconst (k := 7) rfl ?_
  refine u_isub (k := 8) rfl (by omega) ?_
  refine a_i2l (k := 9) rfl ?_
  refine i_stat3 (M' := mX11_in) (k := 10) rfl lRX11_81 oX11_in vX11_in ⟨Nat.le_of_ble_eq_true rfl, Nat.le_of_ble_eq_true rfl⟩ rfl (Nat.le_of_ble_eq_true rfl) (m_in k 0 ((n : Int) - 1) h) ?_
  refine a_zreturn (k := 11) rfl rfl (by omega) ?_
  exact ⟨by rw [e], rfl⟩
/-- a rope in the slots -/
def RM (b : Nat) (r : Rp) (h : HH) : Prop := h 41 0 b = ((2 * r.1 : Nat) : Int) ∧ h 41 0 (b + 1) = (r.2.1 : Int) ∧ ∀ i, i < 2 * r.1 → h 41 0 (b + 2 + i) = (r.2.2 i : Int)
theorem m_passes (k : Nat) (r : Rp) (h : HH) (hk : k < 5) (hR : RM (2 + 18 * k) r h) : SpI mX11_passes [vr 40 0, vi k] h ((2 * r.1 : Nat) : Int) h := by
  refine Sp.of rfl kX11_passes (Nat.le_of_ble_eq_true rfl) ?_
  refine u_aloadn (k := 0) rfl rfl ?_
  refine a_getr (k := 1) rfl fRX11_7 rfl rfl rfl ?_
  refine u_aloadn (k := 2) rfl rfl ?_
  refine u_iloadn (k := 3) rfl rfl ?_
  refine i_virt1 (M' := mX11_base) (k := 4) rfl lRX11_85 oX11_base vX11_base ⟨Nat.le_of_ble_eq_true rfl, Nat.le_of_ble_eq_true rfl⟩ rfl rfl (Nat.le_of_ble_eq_true rfl) (m_base k h (by omega)) ?_
  refine u_iald (k := 5) rfl rfl rfl (by omega) ?_
  rw [hR.1]
  refine a_ireturn (k := 6) rfl rfl ?_
  exact ⟨rfl, rfl⟩
theorem m_crossings (k : Nat) (r : Rp) (h : HH) (hk : k < 5) (hR : RM (2 + 18 * k) r h) : SpI mX11_crossings [vr 40 0, vi k] h (r.1 : Int) h := by
  refine Sp.of rfl kX11_crossings (Nat.le_of_ble_eq_true rfl) ?_
  refine u_aloadn (k := 0) rfl rfl ?_
  refine u_iloadn (k := 1) rfl rfl ?_
  refine i_virt1 (M' := mX11_passes) (k := 2) rfl lRX11_89 oX11_passes vX11_passes ⟨Nat.le_of_ble_eq_true rfl, Nat.le_of_ble_eq_true rfl⟩ rfl rfl (Nat.le_of_ble_eq_true rfl) (m_passes k r h hk hR) ?_
  refine a_iconst (k := 3) rfl ?_
  refine u_idiv (k := 4) rfl (by omega) (by omega) ?_
  refine a_ireturn (k := 5) rfl rfl ?_
  exact ⟨by congr 2; omega, rfl⟩
theorem m_isCrossing (k : Nat) (d : Int) (r : Rp) (h : HH) (hk : k < 5) (h8 : r.1 ≤ 8) (hR : RM (2 + 18 * k) r h) : SpI mX11_isCrossing [vr 40 0, vi k, vi d] h (b01 (decide (0 ≤ d ∧ d < r.1))) h := by
  refine Sp.of rfl kX11_isCrossing (Nat.le_of_ble_eq_true rfl) ?_
  have e : b01 (inb d 0 ((r.1 : Int) - 1)) = b01 (decide (0 ≤ d ∧ d < r.1)) := by
    congr 1
    by_cases hh : 0 ≤ d ∧ d < r.1
    · rw [decide_eq_true hh]; exact inb_iff.mpr (by omega)
    · rw [decide_eq_false hh]; exact Bool.eq_false_iff.mpr (fun z => hh (by have := inb_iff.mp z; omega))
  have z01 : b01 (inb d 0 ((r.1 : Int) - 1)) = 0 ∨ b01 (inb d 0 ((r.1 : Int) - 1)) = 1 := by cases inb d 0 ((r.1 : Int) - 1) <;> simp [b01]
  refine u_iloadn (k := 0) rfl rfl ?_
  refine a_i2l (k := 1) rfl ?_
  refine a_lconst (k := 2) rfl ?_
  refine u_aloadn (k := 3) rfl rfl ?_
  refine u_iloadn (k := 4) rfl rfl ?_
  refine i_virt1 (M' := mX11_crossings) (k := 5) rfl lRX11_92 oX11_crossings vX11_crossings ⟨Nat.le_of_ble_eq_true rfl, Nat.le_of_ble_eq_true rfl⟩ rfl rfl (Nat.le_of_ble_eq_true rfl) (m_crossings k r h hk hR) ?_
  refine a_iconst (k := 6) rfl ?_
  refine u_isub (k := 7) rfl (by omega) ?_
  refine a_i2l (k := 8) rfl ?_
  refine i_stat3 (M' := mX11_in) (k := 9) rfl lRX11_81 oX11_in vX11_in ⟨Nat.le_of_ble_eq_true rfl, Nat.le_of_ble_eq_true rfl⟩ rfl (Nat.le_of_ble_eq_true rfl) (m_in d 0 ((r.1 : Int) - 1) h) ?_
  refine a_zreturn (k := 10) rfl rfl (by omega) ?_
  exact ⟨by rw [e], rfl⟩
theorem m_copies (a b : Nat) (h : HH) (ha : a < 19) (hb : b < 19) (hne : a ≠ b) : Sp mX11_copies [vr 40 0, vi a, vi b] h (fun r g => r = none ∧ (∀ q, q < 92 → g 41 0 (92 * b + q) = h 41 0 (92 * a + q)) ∧ ∀ t i k, ¬ (t = 41 ∧ i = 0 ∧ 92 * b ≤ k ∧ k < 92 * b + 92) → g t i k = h t i k) := by
  refine Sp.of rfl kX11_copies (Nat.le_of_ble_eq_true rfl) ?_
  have Lp : ∀ (d q : Nat) (g : HH), q + d = 92 → (∀ z, z < q → g 41 0 (92 * b + z) = h 41 0 (92 * a + z)) → (∀ t i k, ¬ (t = 41 ∧ i = 0 ∧ 92 * b ≤ k ∧ k < 92 * b + 92) → g t i k = h t i k) → AW mX11_copies (fun r g => r = none ∧ (∀ q, q < 92 → g 41 0 (92 * b + q) = h 41 0 (92 * a + q)) ∧ ∀ t i k, ¬ (t = 41 ∧ i = 0 ∧ 92 * b ≤ k ∧ k < 92 * b + 92) → g t i k = h t i k) 2 [(0, vr 40 0), (1, vi a), (2, vi b), (3, vi q)] [] g := by
    intro d
    induction d with
    | zero =>
      intro q g hq h1 h2
      refine u_iloadn (k := 2) rfl rfl ?_
      refine a_bipush (k := 3) rfl ?_
      refine a_icmp_ge (k := 4) rfl (fun c_5 => ?_) (fun c_5 => ?_)
      · refine a_return (k := 23) rfl rfl ?_
        exact ⟨rfl, fun z hz => h1 z (by omega), h2⟩
      · omega
    | succ d ih =>
      intro q g hq h1 h2
      refine u_iloadn (k := 2) rfl rfl ?_
      refine a_bipush (k := 3) rfl ?_
      refine a_icmp_ge (k := 4) rfl (fun c_5 => ?_) (fun c_5 => ?_)
      · omega
      · refine u_aloadn (k := 5) rfl rfl ?_
        refine a_getr (k := 6) rfl fRX11_7 rfl rfl rfl ?_
        refine a_bipush (k := 7) rfl ?_
        refine u_iloadn (k := 8) rfl rfl ?_
        refine u_imul (k := 9) rfl (by omega) ?_
        refine u_iloadn (k := 10) rfl rfl ?_
        refine u_iadd (k := 11) rfl (by omega) ?_
        refine u_aloadn (k := 12) rfl rfl ?_
        refine a_getr (k := 13) rfl fRX11_7 rfl rfl rfl ?_
        refine a_bipush (k := 14) rfl ?_
        refine u_iloadn (k := 15) rfl rfl ?_
        refine u_imul (k := 16) rfl (by omega) ?_
        refine u_iloadn (k := 17) rfl rfl ?_
        refine u_iadd (k := 18) rfl (by omega) ?_
        refine u_ialdx (92 * a + q) (k := 19) rfl rfl rfl (by omega) (by omega) ?_
        refine u_iastx (92 * b + q) (k := 20) rfl rfl rfl (by omega) (by omega) ?_
        refine u_iinc (k := 21) (lv' := [(3, _), (0, _), (1, _), (2, _)]) rfl rfl (Nat.le_of_ble_eq_true rfl) (by omega) rfl ?_
        refine a_goto (k := 22) rfl ?_
        refine a_sub [1, 2, 3, 0] rfl ?_
        refine ih (q + 1) _ (by omega) (fun z hz => ?_) (fun t i k hn => ?_)
        · by_cases he : z = q
          · subst he; rw [put_eq]; exact h2 41 0 _ (by omega)
          · rw [put_ne (by omega)]; exact h1 z (by omega)
        · rw [put_ne (by omega)]; exact h2 t i k hn
  refine a_iconst (k := 0) rfl ?_
  refine a_istoren (k := 1) (lv' := [(3, _), (0, _), (1, _), (2, _)]) rfl (Nat.le_of_ble_eq_true rfl) rfl ?_
  refine a_sub [1, 2, 3, 0] rfl ?_
  exact Lp 92 0 h (by omega) (fun z hz => absurd hz (Nat.not_lt_zero z)) (fun _ _ _ _ => rfl)
