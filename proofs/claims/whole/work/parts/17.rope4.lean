def swf (f : Nat → Nat) (S : Nat) (q : Nat) : Nat := f q ^^^ (if S.testBit (f q / 2) then 1 else 0)
theorem tbi_nat (S m : Nat) : tbi S m = ((if S.testBit m then 1 else 0 : Nat) : Int) := by unfold tbi; split <;> rfl
theorem x_switchSet (j c S : Nat) (f : Nat → Nat) (h : HH) (hc : h 5 j 2 = (c : Int)) (h8 : c ≤ 8) (hf : ∀ i, i < 2 * c → h 6 j i = (f i : Int)) (hf2 : ∀ i, i < 2 * c → f i < 16) (hS : S < 2 ^ 31) :
    Sp mX6_switchSet [vr 5 j, vi S] h (fun r g => r = none ∧ (∀ i, i < 2 * c → g 6 j i = (swf f S i : Int)) ∧ Fr [(6, j)] [] h g) := by
  refine Sp.of rfl kX6_switchSet (Nat.le_of_ble_eq_true rfl) ?_
  have L : ∀ (m n : Nat) (g : HH), n + m = 2 * c → (∀ i, i < n → g 6 j i = (swf f S i : Int)) → (∀ i, n ≤ i → i < 2 * c → g 6 j i = (f i : Int)) → Fr [(6, j)] [] h g →
      AW mX6_switchSet (fun r g => r = none ∧ (∀ i, i < 2 * c → g 6 j i = (swf f S i : Int)) ∧ Fr [(6, j)] [] h g) 2 [(0, vr 5 j), (1, vi S), (2, vi n)] [] g := by
    intro m
    induction m with
    | zero =>
      intro n g hn hp hq hF
      have hn : n = 2 * c := by omega
      subst hn
      have hc' : g 5 j 2 = (c : Int) := by rw [hF 5 j 2 (by simp) (by simp)]; exact hc
      refine u_iloadn (k := 2) rfl rfl ?_
      refine u_aloadn (k := 3) rfl rfl ?_
      refine i_virt0 (M' := mX6_length) (k := 4) rfl lRX6_23 oX6_length vX6_length ⟨Nat.le_of_ble_eq_true rfl, Nat.le_of_ble_eq_true rfl⟩ rfl rfl (Nat.le_of_ble_eq_true rfl) (x_length j c g hc' h8) ?_
      refine a_icmp_ge (k := 5) rfl (fun c_7 => ?_) (fun c_7 => ?_)
      · refine a_return (k := 24) rfl rfl ?_
        exact ⟨rfl, hp, hF⟩
      · omega
    | succ m ih =>
      intro n g hn hp hq hF
      have hc' : g 5 j 2 = (c : Int) := by rw [hF 5 j 2 (by simp) (by simp)]; exact hc
      have hfn := hf2 n (by omega)
      have e8 : f n / 2 % 8 = f n / 2 := by omega
      refine u_iloadn (k := 2) rfl rfl ?_
      refine u_aloadn (k := 3) rfl rfl ?_
      refine i_virt0 (M' := mX6_length) (k := 4) rfl lRX6_23 oX6_length vX6_length ⟨Nat.le_of_ble_eq_true rfl, Nat.le_of_ble_eq_true rfl⟩ rfl rfl (Nat.le_of_ble_eq_true rfl) (x_length j c g hc' h8) ?_
      refine a_icmp_ge (k := 5) rfl (fun c_7 => ?_) (fun c_7 => ?_)
      · omega
      · refine u_aloadn (k := 6) rfl rfl ?_
        refine a_getr (k := 7) rfl fRX6_15 rfl rfl rfl ?_
        refine u_iloadn (k := 8) rfl rfl ?_
        refine a_dup2 (k := 9) rfl rfl rfl ?_
        refine u_iald (k := 10) rfl rfl rfl (by omega) ?_
        rw [hq n (by omega) (by omega)]
        refine u_iloadn (k := 11) rfl rfl ?_
        refine u_aloadn (k := 12) rfl rfl ?_
        refine a_getr (k := 13) rfl fRX6_15 rfl rfl rfl ?_
        refine u_iloadn (k := 14) rfl rfl ?_
        refine u_iald (k := 15) rfl rfl rfl (by omega) ?_
        rw [hq n (by omega) (by omega)]
        refine i_statN1 (M' := mX10_crossingOf) (k := 16) rfl lRX6_50 oX10_crossingOf vX10_crossingOf ⟨Nat.le_of_ble_eq_true rfl, Nat.le_of_ble_eq_true rfl⟩ rfl (Nat.le_of_ble_eq_true rfl) (x_crossingOf (f n) g (by omega)) ?_
        rw [e8]
        refine a_ishr (k := 17) rfl ?_
        refine a_iconst (k := 18) rfl ?_
        refine a_iand (k := 19) rfl ?_
        rw [sab hS (by omega), tbi_nat]
        refine a_ixor (k := 20) rfl ?_
        rw [ixor_nat (by omega) (by split <;> omega)]
        refine u_iast (k := 21) rfl rfl rfl (by omega) ?_
        refine u_iinc (k := 22) (lv' := [(2, _), (0, _), (1, _)]) rfl rfl (Nat.le_of_ble_eq_true rfl) (by omega) rfl ?_
        refine a_goto (k := 23) rfl ?_
        refine a_sub [1, 2, 0] rfl ?_
        exact ih (n + 1) _ (by omega) (fun i hi => by by_cases he : i = n; (subst he; rw [put_eq, swf]); (rw [put_ne (by simp [he])]; exact hp i (by omega))) (fun i h1 h2 => by rw [put_ne (by simp; omega)]; exact hq i (by omega) h2) (hF.p1 (by simp))
  refine a_iconst (k := 0) rfl ?_
  refine a_istoren (k := 1) (lv' := [(2, _), (0, _), (1, _)]) rfl (Nat.le_of_ble_eq_true rfl) rfl ?_
  refine a_sub [1, 2, 0] rfl ?_
  exact L (2 * c) 0 h (by omega) (fun i hi => absurd hi (Nat.not_lt_zero i)) (fun i _ hi => hf i hi) Fr.rf
def rvf (f : Nat → Nat) (n q : Nat) : Nat := f (n - 1 - q)
theorem x_otherWay (j c s : Nat) (f : Nat → Nat) (h : HH) (hc : h 5 j 2 = (c : Int)) (h8 : c ≤ 8) (hs : h 5 j 3 = (s : Int)) (hs2 : s < 256) (hf : ∀ i, i < 2 * c → h 6 j i = (f i : Int)) (hf2 : ∀ i, i < 2 * c → f i < 16) :
    Sp mX6_goTheOtherWay [vr 5 j] h (fun r g => r = none ∧ RN j c (rvf f (2 * c)) s g ∧ Fr [(1, 0), (2, 0), (6, j), (5, j)] [] h g) := by
  refine Sp.of rfl kX6_goTheOtherWay (Nat.le_of_ble_eq_true rfl) ?_
  have L : ∀ (m n : Nat) (g : HH), n + m = c → (∀ i, i < n → g 6 j i = (f (2 * c - 1 - i) : Int)) → (∀ i, n ≤ i → i < 2 * c - n → g 6 j i = (f i : Int)) → (∀ i, 2 * c - n ≤ i → i < 2 * c → g 6 j i = (f (2 * c - 1 - i) : Int)) → Fr [(6, j)] [] h g →
      AW mX6_goTheOtherWay (fun r g => r = none ∧ RN j c (rvf f (2 * c)) s g ∧ Fr [(1, 0), (2, 0), (6, j), (5, j)] [] h g) 9 [(0, vr 5 j), (1, vi ((2 * c : Nat) - 1 : Int)), (2, vi n)] [] g := by
    intro m
    induction m with
    | zero =>
      intro n g hn hp hq hr hF
      have hn : n = c := by omega
      subst hn
      have hc' : g 5 j 2 = (n : Int) := by rw [hF 5 j 2 (by simp) (by simp)]; exact hc
      have hs' : g 5 j 3 = (s : Int) := by rw [hF 5 j 3 (by simp) (by simp)]; exact hs
      refine u_iloadn (k := 7) rfl rfl ?_
      refine u_aloadn (k := 8) rfl rfl ?_
      refine a_geti (k := 9) rfl fRX6_19 rfl rfl ?_
      refine a_icmp_ge (k := 10) rfl (fun c_14 => ?_) (fun c_14 => ?_)
      · refine u_aloadn (k := 35) rfl rfl ?_
        refine uv_virt0 (M' := mX6_numberAnew) (k := 36) rfl lRX6_61 oX6_numberAnew vX6_numberAnew ⟨Nat.le_of_ble_eq_true rfl, Nat.le_of_ble_eq_true rfl⟩ rfl rfl (Nat.le_of_ble_eq_true rfl) (x_numberAnew j n s (rvf f (2 * n)) g hc' h8 hs' hs2 (fun i hi => by unfold rvf; rcases Nat.lt_or_ge i n with q | q; exact hp i q; exact hr i (by omega) hi) (fun i hi => hf2 _ (by omega))) (by intro r g hp; exact hp.1) (fun g1 hg1 => ?_)
        obtain ⟨-, a1, a2, a3, a4⟩ := hg1
        refine a_return (k := 37) rfl rfl ?_
        exact ⟨rfl, ⟨a1, a2, a3⟩, (hF.mono (by simp) (by simp)).tr a4 (by simp) (by simp)⟩
      · omega
    | succ m ih =>
      intro n g hn hp hq hr hF
      have hc' : g 5 j 2 = (c : Int) := by rw [hF 5 j 2 (by simp) (by simp)]; exact hc
      refine u_iloadn (k := 7) rfl rfl ?_
      refine u_aloadn (k := 8) rfl rfl ?_
      refine a_geti (k := 9) rfl fRX6_19 rfl rfl ?_
      refine a_icmp_ge (k := 10) rfl (fun c_14 => ?_) (fun c_14 => ?_)
      · omega
      · refine u_aloadn (k := 11) rfl rfl ?_
        refine a_getr (k := 12) rfl fRX6_15 rfl rfl rfl ?_
        refine u_iloadn (k := 13) rfl rfl ?_
        refine u_iald (k := 14) rfl rfl rfl (by omega) ?_
        rw [hq n (by omega) (by omega)]
        refine a_istoren (k := 15) (lv' := [(3, _), (0, _), (1, _), (2, _)]) rfl (Nat.le_of_ble_eq_true rfl) rfl ?_
        refine u_aloadn (k := 16) rfl rfl ?_
        refine a_getr (k := 17) rfl fRX6_15 rfl rfl rfl ?_
        refine u_iloadn (k := 18) rfl rfl ?_
        refine u_aloadn (k := 19) rfl rfl ?_
        refine a_getr (k := 20) rfl fRX6_15 rfl rfl rfl ?_
        refine u_iloadn (k := 21) rfl rfl ?_
        refine u_iloadn (k := 22) rfl rfl ?_
        refine u_isub (k := 23) rfl (by omega) ?_
        refine u_ialdx (2 * c - 1 - n) (k := 24) rfl rfl rfl (by omega) (by omega) ?_
        rw [hq (2 * c - 1 - n) (by omega) (by omega)]
        refine u_iast (k := 25) rfl rfl rfl (by omega) ?_
        refine u_aloadn (k := 26) rfl rfl ?_
        refine a_getr (k := 27) rfl fRX6_15 rfl rfl rfl ?_
        refine u_iloadn (k := 28) rfl rfl ?_
        refine u_iloadn (k := 29) rfl rfl ?_
        refine u_isub (k := 30) rfl (by omega) ?_
        refine u_iloadn (k := 31) rfl rfl ?_
        refine u_iastx (2 * c - 1 - n) (k := 32) rfl rfl rfl (by omega) (by omega) ?_
        refine u_iinc (k := 33) (lv' := [(2, _), (3, _), (0, _), (1, _)]) rfl rfl (Nat.le_of_ble_eq_true rfl) (by omega) rfl ?_
        refine a_goto (k := 34) rfl ?_
        refine a_sub [2, 3, 0] rfl ?_
        refine ih (n + 1) _ (by omega) (fun i hi => ?_) (fun i h1 h2 => ?_) (fun i h1 h2 => ?_) ((hF.p1 (by simp)).p1 (by simp))
        · rw [put_ne (by simp; omega)]
          by_cases he : i = n
          · subst he; rw [put_eq]
          · rw [put_ne (by simp [he])]; exact hp i (by omega)
        · rw [put_ne (by simp; omega), put_ne (by simp; omega)]; exact hq i (by omega) (by omega)
        · by_cases he : i = 2 * c - 1 - n
          · subst he; rw [put_eq]; congr 2; omega
          · rw [put_ne (by simp [he]), put_ne (by simp; omega)]; exact hr i (by omega) h2
  refine u_aloadn (k := 0) rfl rfl ?_
  refine i_virt0 (M' := mX6_length) (k := 1) rfl lRX6_23 oX6_length vX6_length ⟨Nat.le_of_ble_eq_true rfl, Nat.le_of_ble_eq_true rfl⟩ rfl rfl (Nat.le_of_ble_eq_true rfl) (x_length j c h hc h8) ?_
  refine a_iconst (k := 2) rfl ?_
  refine u_isub (k := 3) rfl (by omega) ?_
  refine a_istoren (k := 4) (lv' := [(1, _), (0, _)]) rfl (Nat.le_of_ble_eq_true rfl) rfl ?_
  refine a_iconst (k := 5) rfl ?_
  refine a_istoren (k := 6) (lv' := [(2, _), (1, _), (0, _)]) rfl (Nat.le_of_ble_eq_true rfl) rfl ?_
  refine a_sub [2, 1, 0] rfl ?_
  exact L c 0 h (by omega) (fun i hi => absurd hi (Nat.not_lt_zero i)) (fun i _ hi => hf i (by omega)) (fun i h1 h2 => by omega) Fr.rf
def rlf (f : Nat → Nat) (n q : Nat) : Nat := if q + 1 < n then f (q + 1) else f 0
theorem x_rollOnce (j c s : Nat) (f : Nat → Nat) (h : HH) (hc : h 5 j 2 = (c : Int)) (h8 : c ≤ 8) (hs : h 5 j 3 = (s : Int)) (hs2 : s < 256) (hf : ∀ i, i < 2 * c → h 6 j i = (f i : Int)) (hf2 : ∀ i, i < 2 * c → f i < 16) :
    Sp mX6_rollOnce [vr 5 j] h (fun r g => r = none ∧ RN j c (rlf f (2 * c)) s g ∧ Fr [(1, 0), (2, 0), (6, j), (5, j)] [] h g) := by
  refine Sp.of rfl kX6_rollOnce (Nat.le_of_ble_eq_true rfl) ?_
  have F1 : ∀ (g : HH), Fr [(6, j)] [] h g → (∀ i, i < 2 * c → g 6 j i = (rlf f (2 * c) i : Int)) → AW mX6_rollOnce (fun r g => r = none ∧ RN j c (rlf f (2 * c)) s g ∧ Fr [(1, 0), (2, 0), (6, j), (5, j)] [] h g) 56 [(0, vr 5 j)] [] g := by
    intro g hF hp
    have hc' : g 5 j 2 = (c : Int) := by rw [hF 5 j 2 (by simp) (by simp)]; exact hc
    have hs' : g 5 j 3 = (s : Int) := by rw [hF 5 j 3 (by simp) (by simp)]; exact hs
    refine u_aloadn (k := 34) rfl rfl ?_
    refine uv_virt0 (M' := mX6_numberAnew) (k := 35) rfl lRX6_61 oX6_numberAnew vX6_numberAnew ⟨Nat.le_of_ble_eq_true rfl, Nat.le_of_ble_eq_true rfl⟩ rfl rfl (Nat.le_of_ble_eq_true rfl) (x_numberAnew j c s (rlf f (2 * c)) g hc' h8 hs' hs2 hp (fun i hi => by unfold rlf; split <;> exact hf2 _ (by omega))) (by intro r g hp; exact hp.1) (fun g1 hg1 => ?_)
    obtain ⟨-, a1, a2, a3, a4⟩ := hg1
    refine a_return (k := 36) rfl rfl ?_
    exact ⟨rfl, ⟨a1, a2, a3⟩, (hF.mono (by simp) (by simp)).tr a4 (by simp) (by simp)⟩
  have L : ∀ (m n : Nat) (g : HH), n + m = 2 * c → 0 < n → (∀ i, i + 1 < n → g 6 j i = (f (i + 1) : Int)) → (∀ i, n ≤ i → i < 2 * c → g 6 j i = (f i : Int)) → Fr [(6, j)] [] h g →
      AW mX6_rollOnce (fun r g => r = none ∧ RN j c (rlf f (2 * c)) s g ∧ Fr [(1, 0), (2, 0), (6, j), (5, j)] [] h g) 9 [(0, vr 5 j), (1, vi (f 0)), (2, vi n)] [] g := by
    intro m
    induction m with
    | zero =>
      intro n g hn h0 hp hq hF
      have hn : n = 2 * c := by omega
      subst hn
      have hc' : g 5 j 2 = (c : Int) := by rw [hF 5 j 2 (by simp) (by simp)]; exact hc
      refine u_iloadn (k := 7) rfl rfl ?_
      refine u_aloadn (k := 8) rfl rfl ?_
      refine i_virt0 (M' := mX6_length) (k := 9) rfl lRX6_23 oX6_length vX6_length ⟨Nat.le_of_ble_eq_true rfl, Nat.le_of_ble_eq_true rfl⟩ rfl rfl (Nat.le_of_ble_eq_true rfl) (x_length j c g hc' h8) ?_
      refine a_icmp_ge (k := 10) rfl (fun c_14 => ?_) (fun c_14 => ?_)
      · refine u_aloadn (k := 23) rfl rfl ?_
        refine a_geti (k := 24) rfl fRX6_19 rfl rfl ?_
        refine a_if_le (k := 25) rfl (fun c_41 => ?_) (fun c_41 => ?_)
        · omega
        · refine u_aloadn (k := 26) rfl rfl ?_
          refine a_getr (k := 27) rfl fRX6_15 rfl rfl rfl ?_
          refine u_aloadn (k := 28) rfl rfl ?_
          refine i_virt0 (M' := mX6_length) (k := 29) rfl lRX6_23 oX6_length vX6_length ⟨Nat.le_of_ble_eq_true rfl, Nat.le_of_ble_eq_true rfl⟩ rfl rfl (Nat.le_of_ble_eq_true rfl) (x_length j c g hc' h8) ?_
          refine a_iconst (k := 30) rfl ?_
          refine u_isub (k := 31) rfl (by omega) ?_
          refine u_iloadn (k := 32) rfl rfl ?_
          refine u_iastx (2 * c - 1) (k := 33) rfl rfl rfl (by omega) (by omega) ?_
          refine a_sub [0] rfl ?_
          exact F1 _ (hF.p1 (by simp)) (fun i hi => by unfold rlf; by_cases he : i = 2 * c - 1; (subst he; rw [put_eq, if_neg (by omega)]); (rw [put_ne (by simp [he]), if_pos (by omega)]; exact hp i (by omega)))
      · omega
    | succ m ih =>
      intro n g hn h0 hp hq hF
      have hc' : g 5 j 2 = (c : Int) := by rw [hF 5 j 2 (by simp) (by simp)]; exact hc
      refine u_iloadn (k := 7) rfl rfl ?_
      refine u_aloadn (k := 8) rfl rfl ?_
      refine i_virt0 (M' := mX6_length) (k := 9) rfl lRX6_23 oX6_length vX6_length ⟨Nat.le_of_ble_eq_true rfl, Nat.le_of_ble_eq_true rfl⟩ rfl rfl (Nat.le_of_ble_eq_true rfl) (x_length j c g hc' h8) ?_
      refine a_icmp_ge (k := 10) rfl (fun c_14 => ?_) (fun c_14 => ?_)
      · omega
      · refine u_aloadn (k := 11) rfl rfl ?_
        refine a_getr (k := 12) rfl fRX6_15 rfl rfl rfl ?_
        refine u_iloadn (k := 13) rfl rfl ?_
        refine a_iconst (k := 14) rfl ?_
        refine u_isub (k := 15) rfl (by omega) ?_
        refine u_aloadn (k := 16) rfl rfl ?_
        refine a_getr (k := 17) rfl fRX6_15 rfl rfl rfl ?_
        refine u_iloadn (k := 18) rfl rfl ?_
        refine u_iald (k := 19) rfl rfl rfl (by omega) ?_
        rw [hq n (by omega) (by omega)]
        refine u_iastx (n - 1) (k := 20) rfl rfl rfl (by omega) (by omega) ?_
        refine u_iinc (k := 21) (lv' := [(2, _), (0, _), (1, _)]) rfl rfl (Nat.le_of_ble_eq_true rfl) (by omega) rfl ?_
        refine a_goto (k := 22) rfl ?_
        refine a_sub [1, 2, 0] rfl ?_
        exact ih (n + 1) _ (by omega) (by omega) (fun i hi => by by_cases he : i = n - 1; (subst he; rw [put_eq]; congr 2; omega); (rw [put_ne (by simp [he])]; exact hp i (by omega))) (fun i h1 h2 => by rw [put_ne (by simp; omega)]; exact hq i (by omega) h2) (hF.p1 (by simp))
  by_cases hc0 : c = 0
  · subst hc0
    refine u_aloadn (k := 0) rfl rfl ?_
    refine a_getr (k := 1) rfl fRX6_15 rfl rfl rfl ?_
    refine a_iconst (k := 2) rfl ?_
    refine u_ialdx 0 (k := 3) rfl rfl rfl (by omega) (by omega) ?_
    refine a_istoren (k := 4) (lv' := [(1, _), (0, _)]) rfl (Nat.le_of_ble_eq_true rfl) rfl ?_
    refine a_iconst (k := 5) rfl ?_
    refine a_istoren (k := 6) (lv' := [(2, _), (1, _), (0, _)]) rfl (Nat.le_of_ble_eq_true rfl) rfl ?_
    refine u_iloadn (k := 7) rfl rfl ?_
    refine u_aloadn (k := 8) rfl rfl ?_
    refine i_virt0 (M' := mX6_length) (k := 9) rfl lRX6_23 oX6_length vX6_length ⟨Nat.le_of_ble_eq_true rfl, Nat.le_of_ble_eq_true rfl⟩ rfl rfl (Nat.le_of_ble_eq_true rfl) (x_length j 0 h hc h8) ?_
    refine a_icmp_ge (k := 10) rfl (fun c_14 => ?_) (fun c_14 => ?_)
    · refine u_aloadn (k := 23) rfl rfl ?_
      refine a_geti (k := 24) rfl fRX6_19 rfl rfl ?_
      refine a_if_le (k := 25) rfl (fun c_41 => ?_) (fun c_41 => ?_)
      · refine a_sub [2] rfl ?_
        exact F1 h Fr.rf (fun i hi => by omega)
      · omega
    · omega
  · refine u_aloadn (k := 0) rfl rfl ?_
    refine a_getr (k := 1) rfl fRX6_15 rfl rfl rfl ?_
    refine a_iconst (k := 2) rfl ?_
    refine u_ialdx 0 (k := 3) rfl rfl rfl (by omega) (by omega) ?_
    rw [hf 0 (by omega)]
    refine a_istoren (k := 4) (lv' := [(1, _), (0, _)]) rfl (Nat.le_of_ble_eq_true rfl) rfl ?_
    refine a_iconst (k := 5) rfl ?_
    refine a_istoren (k := 6) (lv' := [(2, _), (1, _), (0, _)]) rfl (Nat.le_of_ble_eq_true rfl) rfl ?_
    refine a_sub [2, 1, 0] rfl ?_
    exact L (2 * c - 1) 1 h (by omega) (by omega) (fun i hi => by omega) (fun i _ hi => hf i hi) Fr.rf
def apf (f f2 : Nat → Nat) (c q : Nat) : Nat := if q < 2 * c then f q else f2 (q - 2 * c) + 2 * c
theorem x_append (j c s j2 c2 s2 : Nat) (f f2 : Nat → Nat) (h : HH) (hne : j ≠ j2) (hc : h 5 j 2 = (c : Int)) (hs : h 5 j 3 = (s : Int)) (hs2 : s < 256) (hf : ∀ i, i < 2 * c → h 6 j i = (f i : Int)) (hc2 : h 5 j2 2 = (c2 : Int)) (h82 : c + c2 ≤ 8) (hss : h 5 j2 3 = (s2 : Int)) (hss2 : s2 < 256) (hf2 : ∀ i, i < 2 * c2 → h 6 j2 i = (f2 i : Int)) (hf22 : ∀ i, i < 2 * c2 → f2 i < 16) :
    Sp mX6_append [vr 5 j, vr 5 j2] h (fun r g => r = none ∧ g 5 j 2 = ((c + c2 : Nat) : Int) ∧ g 5 j 3 = ((s ||| s2 <<< c : Nat) : Int) ∧ (∀ i, i < 2 * (c + c2) → g 6 j i = (apf f f2 c i : Int)) ∧ Fr [(6, j), (5, j)] [] h g) := by
  refine Sp.of rfl kX6_append (Nat.le_of_ble_eq_true rfl) ?_
  have hpw : 2 ^ c ≤ 2 ^ 8 := Nat.pow_le_pow_right (by omega) (by omega)
  have hsm : s2 * 2 ^ c < 2 ^ 31 := Nat.lt_of_lt_of_le (Nat.mul_lt_mul_of_lt_of_le hss2 hpw (by omega)) (by omega)
  have esl : ior (s : Int) (ishl (s2 : Int) (c : Int)) = ((s ||| s2 <<< c : Nat) : Int) := by
    rw [ishl_nat hsm (by omega), ior_nat (by omega) (by rw [Nat.shiftLeft_eq]; exact hsm)]
  have L : ∀ (m n : Nat) (g : HH), n + m = 2 * c2 → (∀ i, i < n → g 6 j (2 * c + i) = (f2 i + 2 * c : Int)) → (∀ i, i < 2 * c → g 6 j i = (f i : Int)) → Fr [(6, j)] [] h g →
      AW mX6_append (fun r g => r = none ∧ g 5 j 2 = ((c + c2 : Nat) : Int) ∧ g 5 j 3 = ((s ||| s2 <<< c : Nat) : Int) ∧ (∀ i, i < 2 * (c + c2) → g 6 j i = (apf f f2 c i : Int)) ∧ Fr [(6, j), (5, j)] [] h g) 17 [(0, vr 5 j), (1, vr 5 j2), (2, vi n)] [] g := by
    intro m
    induction m with
    | zero =>
      intro n g hn hp hq hF
      have hn : n = 2 * c2 := by omega
      subst hn
      have h1 : g 5 j 2 = (c : Int) := by rw [hF 5 j 2 (by simp) (by simp)]; exact hc
      have h2 : g 5 j2 2 = (c2 : Int) := by rw [hF 5 j2 2 (by simp) (by simp)]; exact hc2
      have h3 : g 5 j 3 = (s : Int) := by rw [hF 5 j 3 (by simp) (by simp)]; exact hs
      have h4 : g 5 j2 3 = (s2 : Int) := by rw [hF 5 j2 3 (by simp) (by simp)]; exact hss
      refine u_iloadn (k := 10) rfl rfl ?_
      refine u_aloadn (k := 11) rfl rfl ?_
      refine i_virt0 (M' := mX6_length) (k := 12) rfl lRX6_23 oX6_length vX6_length ⟨Nat.le_of_ble_eq_true rfl, Nat.le_of_ble_eq_true rfl⟩ rfl rfl (Nat.le_of_ble_eq_true rfl) (x_length j2 c2 g h2 (by omega)) ?_
      refine a_icmp_ge (k := 13) rfl (fun c_22 => ?_) (fun c_22 => ?_)
      · refine u_aloadn (k := 32) rfl rfl ?_
        refine a_dup (k := 33) rfl rfl ?_
        refine a_geti (k := 34) rfl fRX6_27 rfl rfl ?_
        refine u_aloadn (k := 35) rfl rfl ?_
        refine a_geti (k := 36) rfl fRX6_27 rfl rfl ?_
        refine u_aloadn (k := 37) rfl rfl ?_
        refine a_geti (k := 38) rfl fRX6_19 rfl rfl ?_
        refine a_ishl (k := 39) rfl ?_
        refine a_ior (k := 40) rfl ?_
        rw [h3, h4, h1, esl]
        refine a_puti (k := 41) rfl pRX6_27 rfl rfl ?_
        refine u_aloadn (k := 42) rfl rfl ?_
        refine a_dup (k := 43) rfl rfl ?_
        refine a_geti (k := 44) rfl fRX6_19 rfl rfl ?_
        refine u_aloadn (k := 45) rfl rfl ?_
        refine a_geti (k := 46) rfl fRX6_19 rfl rfl ?_
        rw [put_ne (by simp), put_ne (by simp), h1, h2]
        refine u_iadd (k := 47) rfl (by omega) ?_
        refine a_puti (k := 48) rfl pRX6_19 rfl rfl ?_
        refine a_return (k := 49) rfl rfl ?_
        refine ⟨rfl, by rw [put_eq]; rfl, by rw [put_ne (by simp), put_eq], fun i hi => ?_, ((hF.mono (by simp) (by simp)).p1 (by simp)).p1 (by simp)⟩
        rw [put_ne (by simp), put_ne (by simp)]
        unfold apf
        split
        · exact hq i (by omega)
        · have := hp (i - 2 * c) (by omega)
          rw [show 2 * c + (i - 2 * c) = i by omega] at this
          rw [this]; push_cast; rfl
      · omega
    | succ m ih =>
      intro n g hn hp hq hF
      have h1 : g 5 j 2 = (c : Int) := by rw [hF 5 j 2 (by simp) (by simp)]; exact hc
      have h2 : g 5 j2 2 = (c2 : Int) := by rw [hF 5 j2 2 (by simp) (by simp)]; exact hc2
      have h5 : g 6 j2 n = (f2 n : Int) := by rw [hF 6 j2 n (by simp; omega) (by simp)]; exact hf2 n (by omega)
      have h6 := hf22 n (by omega)
      refine u_iloadn (k := 10) rfl rfl ?_
      refine u_aloadn (k := 11) rfl rfl ?_
      refine i_virt0 (M' := mX6_length) (k := 12) rfl lRX6_23 oX6_length vX6_length ⟨Nat.le_of_ble_eq_true rfl, Nat.le_of_ble_eq_true rfl⟩ rfl rfl (Nat.le_of_ble_eq_true rfl) (x_length j2 c2 g h2 (by omega)) ?_
      refine a_icmp_ge (k := 13) rfl (fun c_22 => ?_) (fun c_22 => ?_)
      · omega
      · refine u_aloadn (k := 14) rfl rfl ?_
        refine a_getr (k := 15) rfl fRX6_15 rfl rfl rfl ?_
        refine u_aloadn (k := 16) rfl rfl ?_
        refine i_virt0 (M' := mX6_length) (k := 17) rfl lRX6_23 oX6_length vX6_length ⟨Nat.le_of_ble_eq_true rfl, Nat.le_of_ble_eq_true rfl⟩ rfl rfl (Nat.le_of_ble_eq_true rfl) (x_length j c g h1 (by omega)) ?_
        refine u_iloadn (k := 18) rfl rfl ?_
        refine u_iadd (k := 19) rfl (by omega) ?_
        refine u_aloadn (k := 20) rfl rfl ?_
        refine a_getr (k := 21) rfl fRX6_15 rfl rfl rfl ?_
        refine u_iloadn (k := 22) rfl rfl ?_
        refine u_iald (k := 23) rfl rfl rfl (by omega) ?_
        rw [h5]
        refine a_iconst (k := 24) rfl ?_
        refine u_aloadn (k := 25) rfl rfl ?_
        refine a_geti (k := 26) rfl fRX6_19 rfl rfl ?_
        rw [h1]
        refine u_imul (k := 27) rfl (by omega) ?_
        refine u_iadd (k := 28) rfl (by omega) ?_
        refine u_iastx (2 * c + n) (k := 29) rfl rfl rfl (by omega) (by omega) ?_
        refine u_iinc (k := 30) (lv' := [(2, _), (0, _), (1, _)]) rfl rfl (Nat.le_of_ble_eq_true rfl) (by omega) rfl ?_
        refine a_goto (k := 31) rfl ?_
        refine a_sub [1, 2, 0] rfl ?_
        exact ih (n + 1) _ (by omega) (fun i hi => by by_cases he : i = n; (subst he; rw [put_eq]); (rw [put_ne (by simp; omega)]; exact hp i (by omega))) (fun i hi => by rw [put_ne (by simp; omega)]; exact hq i hi) (hF.p1 (by simp))
  refine u_aloadn (k := 0) rfl rfl ?_
  refine a_geti (k := 1) rfl fRX6_19 rfl rfl ?_
  refine u_aloadn (k := 2) rfl rfl ?_
  refine a_geti (k := 3) rfl fRX6_19 rfl rfl ?_
  refine u_iadd (k := 4) rfl (by omega) ?_
  refine a_bipush (k := 5) rfl ?_
  refine a_icmp_le (k := 6) rfl (fun c_11 => ?_) (fun c_11 => ?_)
  · refine a_iconst (k := 8) rfl ?_
    refine a_istoren (k := 9) (lv' := [(2, _), (0, _), (1, _)]) rfl (Nat.le_of_ble_eq_true rfl) rfl ?_
    refine a_sub [1, 2, 0] rfl ?_
    exact L (2 * c2) 0 h (by omega) (fun i hi => absurd hi (Nat.not_lt_zero i)) hf Fr.rf
  · omega
/-- crossings that lie in d: n passes along, between (b) and the set -/
def lyb (f : Nat → Nat) (d : Nat) : Nat → Bool
  | 0 => false
  | n + 1 => if f n / 2 = d then !(lyb f d n) else lyb f d n
def lys (f : Nat → Nat) (d : Nat) : Nat → Nat
  | 0 => 0
  | n + 1 => if f n / 2 = d then lys f d n else if lyb f d n then lys f d n ^^^ 2 ^ (f n / 2) else lys f d n
theorem lys_lt {f : Nat → Nat} {d b : Nat} : ∀ {n : Nat}, (∀ i, i < n → f i < 2 * b) → lys f d n < 2 ^ b
  | 0, _ => Nat.pow_pos (by omega)
  | n + 1, h => by
    have h1 := lys_lt (d := d) (fun i hi => h i (Nat.lt_succ_of_lt hi))
    unfold lys
    split
    · exact h1
    · split
      · exact Nat.xor_lt_two_pow h1 (Nat.pow_lt_pow_right (by omega) (by have := h n (by omega); omega))
      · exact h1
def b01 (b : Bool) : Int := if b then 1 else 0
theorem x_lyingIn (j c d : Nat) (f : Nat → Nat) (h : HH) (hc : h 5 j 2 = (c : Int)) (h8 : c ≤ 8) (hf : ∀ i, i < 2 * c → h 6 j i = (f i : Int)) (hf2 : ∀ i, i < 2 * c → f i < 16) :
    SpI mX6_lyingIn [vr 5 j, vi d] h (lys f d (2 * c)) h := by
  refine Sp.of rfl kX6_lyingIn (Nat.le_of_ble_eq_true rfl) ?_
  have L : ∀ (m n : Nat), n + m = 2 * c → AW mX6_lyingIn (fun r g => r = some (vi (lys f d (2 * c))) ∧ g = h) 7 [(0, vr 5 j), (1, vi d), (2, vi (lys f d n)), (3, vi (b01 (lyb f d n))), (4, vi n)] [] h := by
    intro m
    induction m with
    | zero =>
      intro n hn
      have hn : n = 2 * c := by omega
      subst hn
      refine u_iload (k := 6) rfl rfl ?_
      refine u_aloadn (k := 7) rfl rfl ?_
      refine i_virt0 (M' := mX6_length) (k := 8) rfl lRX6_23 oX6_length vX6_length ⟨Nat.le_of_ble_eq_true rfl, Nat.le_of_ble_eq_true rfl⟩ rfl rfl (Nat.le_of_ble_eq_true rfl) (x_length j c h hc h8) ?_
      refine a_icmp_ge (k := 9) rfl (fun c_13 => ?_) (fun c_13 => ?_)
      · refine u_iloadn (k := 36) rfl rfl ?_
        refine a_ireturn (k := 37) rfl rfl ?_
        exact ⟨rfl, rfl⟩
      · omega
    | succ m ih =>
      intro n hn
      have hfn := hf2 n (by omega)
      have e8 : f n / 2 % 8 = f n / 2 := by omega
      have hl := lys_lt (f := f) (d := d) (b := 8) (n := n) (fun i hi => by have := hf2 i (by omega); omega)
      have ih := ih (n + 1) (by omega)
      refine u_iload (k := 6) rfl rfl ?_
      refine u_aloadn (k := 7) rfl rfl ?_
      refine i_virt0 (M' := mX6_length) (k := 8) rfl lRX6_23 oX6_length vX6_length ⟨Nat.le_of_ble_eq_true rfl, Nat.le_of_ble_eq_true rfl⟩ rfl rfl (Nat.le_of_ble_eq_true rfl) (x_length j c h hc h8) ?_
      refine a_icmp_ge (k := 9) rfl (fun c_13 => ?_) (fun c_13 => ?_)
      · omega
      · refine u_aloadn (k := 10) rfl rfl ?_
        refine a_getr (k := 11) rfl fRX6_15 rfl rfl rfl ?_
        refine u_iload (k := 12) rfl rfl ?_
        refine u_iald (k := 13) rfl rfl rfl (by omega) ?_
        rw [hf n (by omega)]
        refine i_statN1 (M' := mX10_crossingOf) (k := 14) rfl lRX6_50 oX10_crossingOf vX10_crossingOf ⟨Nat.le_of_ble_eq_true rfl, Nat.le_of_ble_eq_true rfl⟩ rfl (Nat.le_of_ble_eq_true rfl) (x_crossingOf (f n) h (by omega)) ?_
        rw [e8]
        refine a_istore (k := 15) (lv' := [(5, _), (0, _), (1, _), (2, _), (3, _), (4, _)]) rfl (Nat.le_of_ble_eq_true rfl) rfl ?_
        refine u_iload (k := 16) rfl rfl ?_
        refine u_iloadn (k := 17) rfl rfl ?_
        refine a_icmp_ne (k := 18) rfl (fun c_31 => ?_) (fun c_31 => ?_)
        · have hne : ¬ f n / 2 = d := by omega
          have e1 : lys f d (n + 1) = if lyb f d n then lys f d n ^^^ 2 ^ (f n / 2) else lys f d n := by simp [lys, hne]
          have e2 : lyb f d (n + 1) = lyb f d n := by simp [lyb, hne]
          rw [e1, e2] at ih
          refine u_iloadn (k := 26) rfl rfl ?_
          refine a_if_eq (k := 27) rfl (fun c_48 => ?_) (fun c_48 => ?_)
          · refine u_iinc (k := 34) (lv' := [(4, _), (5, _), (0, _), (1, _), (2, _), (3, _)]) rfl rfl (Nat.le_of_ble_eq_true rfl) (by omega) rfl ?_
            refine a_goto (k := 35) rfl ?_
            refine a_sub [2, 3, 4, 5, 0] rfl ?_
            cases hb : lyb f d n <;> simp only [hb, b01, Bool.not_true, Bool.not_false, Bool.false_eq_true, if_true, if_false, reduceIte, not_true_eq_false] at * <;> first | exact ih | omega
          · refine u_iloadn (k := 28) rfl rfl ?_
            refine a_iconst (k := 29) rfl ?_
            refine u_iload (k := 30) rfl rfl ?_
            refine a_ishl (k := 31) rfl ?_
            refine a_ixor (k := 32) rfl ?_
            rw [shl1 (by omega), ixor_nat (by omega) (Nat.pow_lt_pow_right (by omega) (by omega))]
            refine a_istoren (k := 33) (lv' := [(2, _), (5, _), (0, _), (1, _), (3, _), (4, _)]) rfl (Nat.le_of_ble_eq_true rfl) rfl ?_
            refine u_iinc (k := 34) (lv' := [(4, _), (2, _), (5, _), (0, _), (1, _), (3, _)]) rfl rfl (Nat.le_of_ble_eq_true rfl) (by omega) rfl ?_
            refine a_goto (k := 35) rfl ?_
            refine a_sub [3, 4, 1, 5, 0] rfl ?_
            cases hb : lyb f d n <;> simp only [hb, b01, Bool.not_true, Bool.not_false, Bool.false_eq_true, if_true, if_false, reduceIte, not_true_eq_false] at * <;> first | exact ih | omega
        · have heq : f n / 2 = d := by omega
          have e1 : lys f d (n + 1) = lys f d n := by simp [lys, heq]
          have e2 : lyb f d (n + 1) = !lyb f d n := by simp [lyb, heq]
          rw [e1, e2] at ih
          refine u_iloadn (k := 19) rfl rfl ?_
          refine a_if_ne (k := 20) rfl (fun c_35 => ?_) (fun c_35 => ?_)
          · refine a_iconst (k := 23) rfl ?_
            refine a_istoren (k := 24) (lv' := [(3, _), (5, _), (0, _), (1, _), (2, _), (4, _)]) rfl (Nat.le_of_ble_eq_true rfl) rfl ?_
            refine a_goto (k := 25) rfl ?_
            refine u_iinc (k := 34) (lv' := [(4, _), (3, _), (5, _), (0, _), (1, _), (2, _)]) rfl rfl (Nat.le_of_ble_eq_true rfl) (by omega) rfl ?_
            refine a_goto (k := 35) rfl ?_
            refine a_sub [3, 4, 5, 1, 0] rfl ?_
            cases hb : lyb f d n <;> simp only [hb, b01, Bool.not_true, Bool.not_false, Bool.false_eq_true, if_true, if_false, reduceIte, not_true_eq_false] at * <;> first | exact ih | omega
          · refine a_iconst (k := 21) rfl ?_
            refine a_goto (k := 22) rfl ?_
            refine a_istoren (k := 24) (lv' := [(3, _), (5, _), (0, _), (1, _), (2, _), (4, _)]) rfl (Nat.le_of_ble_eq_true rfl) rfl ?_
            refine a_goto (k := 25) rfl ?_
            refine u_iinc (k := 34) (lv' := [(4, _), (3, _), (5, _), (0, _), (1, _), (2, _)]) rfl rfl (Nat.le_of_ble_eq_true rfl) (by omega) rfl ?_
            refine a_goto (k := 35) rfl ?_
            refine a_sub [3, 4, 5, 1, 0] rfl ?_
            cases hb : lyb f d n <;> simp only [hb, b01, Bool.not_true, Bool.not_false, Bool.false_eq_true, if_true, if_false, reduceIte, not_true_eq_false] at * <;> first | exact ih | omega
  refine a_iconst (k := 0) rfl ?_
  refine a_istoren (k := 1) (lv' := [(2, _), (0, _), (1, _)]) rfl (Nat.le_of_ble_eq_true rfl) rfl ?_
  refine a_iconst (k := 2) rfl ?_
  refine a_istoren (k := 3) (lv' := [(3, _), (2, _), (0, _), (1, _)]) rfl (Nat.le_of_ble_eq_true rfl) rfl ?_
  refine a_iconst (k := 4) rfl ?_
  refine a_istore (k := 5) (lv' := [(4, _), (3, _), (2, _), (0, _), (1, _)]) rfl (Nat.le_of_ble_eq_true rfl) rfl ?_
  refine a_sub [3, 4, 2, 1, 0] rfl ?_
  exact L (2 * c) 0 (by omega)
