theorem cr_lt {f : Nat → Nat} (n : Nat) : cr f n < n + 1 := by
  have h1 := mny_le f n
  cases h : num f (f n / 2) n with
  | none => rw [cr_new h]; omega
  | some v =>
    rw [cr_old h]
    have := num_lt h
    omega
theorem rsl_lt (f : Nat → Nat) (s : Nat) : ∀ n, n ≤ 16 → rsl f s n < 2 ^ 16
  | 0, _ => by unfold rsl; omega
  | n + 1, hn => by
    unfold rsl
    have h1 := rsl_lt f s n (by omega)
    have h2 := cr_lt (f := f) n
    apply Nat.or_lt_two_pow h1
    split
    · exact Nat.pow_lt_pow_right (by omega) (by omega)
    · omega
theorem shl_tbi {S m k : Nat} (hk : k < 31) : ishl (tbi S m) k = ((if S.testBit m then 2 ^ k else 0 : Nat) : Int) := by
  unfold tbi
  split
  · exact shl1 hk
  · have := ishl_nat (n := 0) (k := k) (by omega) (by omega)
    rw [Nat.zero_shiftLeft] at this
    exact this
theorem iand1 {a : Nat} (ha : a < 2 ^ 31) : iand a 1 = ((a % 2 : Nat) : Int) := by
  have := iand_nat (a := a) (b := 1) ha
  rw [Nat.and_one_is_mod] at this
  exact this
/-- the numbering q stands n passes along f -/
def NM (q : Nat) (f : Nat → Nat) (n : Nat) (g : HH) : Prop := ∃ K : Nat, g 1 q 1 = (K : Int) ∧ K < 2 ^ 26 ∧ (∀ x, K.testBit x = (num f x n).isSome) ∧ g 1 q 2 = (mny f n : Int) ∧ ∀ x v, num f x n = some v → g 2 q x = (v : Int)
theorem NM.keep {q : Nat} {f : Nat → Nat} {n : Nat} {g g' : HH} (h : NM q f n g) (h1 : ∀ k, g' 1 q k = g 1 q k) (h2 : ∀ k, g' 2 q k = g 2 q k) : NM q f n g' := by
  obtain ⟨K, a, b, c, d, e⟩ := h
  exact ⟨K, by rw [h1]; exact a, b, c, by rw [h1]; exact d, fun x v hv => by rw [h2]; exact e x v hv⟩
theorem NM.zero {q : Nat} {f : Nat → Nat} {g : HH} (h1 : g 1 q 1 = 0) (h2 : g 1 q 2 = 0) : NM q f 0 g := ⟨0, h1, by omega, fun x => by simp [num], h2, fun x v hv => by cases hv⟩
theorem NM.cong {q : Nat} {f f' : Nat → Nat} {n : Nat} {g : HH} (h : NM q f n g) (h1 : ∀ x, num f x n = num f' x n) (h2 : mny f n = mny f' n) : NM q f' n g := by
  obtain ⟨K, a, b, c, d, e⟩ := h
  exact ⟨K, a, b, fun x => by rw [c, h1], by rw [d, h2], fun x v hv => e x v (by rw [h1]; exact hv)⟩
theorem x_numberOf (q : Nat) (f : Nat → Nat) (n : Nat) (g : HH) (hN : NM q f n g) (hx : f n / 2 < 26) (hn : n < 900) : Sp mX4_numberOf [vr 1 q, vi ((f n / 2 : Nat) : Int)] g (fun r g' => r = some (vi (cr f n)) ∧ NM q f (n + 1) g' ∧ Fr [(1, q), (2, q)] [] g g') := by
  obtain ⟨K, hK, hK2, hb, hg, hnum⟩ := hN
  have hml := mny_le f n
  cases hc : num f (f n / 2) n with
  | some v =>
    have hbt : K.testBit (f n / 2) = true := by rw [hb, hc]; rfl
    refine Sp.weak (x_numOld q K (f n / 2) g hK (by omega) hx hbt) ?_
    rintro r g' ⟨rfl, rfl⟩
    refine ⟨by rw [hnum _ _ hc, cr_old hc], ⟨K, hK, hK2, fun x => ?_, by rw [hg, mny_old hc], fun x w hw => ?_⟩, Fr.rf⟩
    · by_cases he : f n / 2 = x
      · subst he
        rw [hbt, num_old hc]; rfl
      · rw [hb, num_oth he]
    · by_cases he : f n / 2 = x
      · subst he
        rw [num_old hc] at hw
        cases hw
        exact hnum _ _ hc
      · rw [num_oth he] at hw
        exact hnum _ _ hw
  | none =>
    have hbt : K.testBit (f n / 2) = false := by rw [hb, hc]; rfl
    refine Sp.weak (x_numNew q K (f n / 2) (mny f n) g hK (by omega) hx hbt hg (by omega)) ?_
    rintro r g' ⟨rfl, rfl⟩
    refine ⟨by rw [cr_new hc], ⟨K ||| 2 ^ (f n / 2), by simp only [put_apply, Nat.reduceEqDiff, reduceIte, false_and, and_false, true_and, and_true, and_self, if_false, if_true, not_false_eq_true, not_true_eq_false, ne_eq], Nat.or_lt_two_pow hK2 (Nat.pow_lt_pow_right (by omega) hx), fun x => ?_, by rw [put_eq, mny_new hc], fun x w hw => ?_⟩, ?_⟩
    · rw [Nat.testBit_or, Nat.testBit_two_pow, hb]
      by_cases he : f n / 2 = x
      · subst he
        rw [num_new hc]; simp
      · rw [num_oth he]; simp [he]
    · by_cases he : f n / 2 = x
      · subst he
        rw [num_new hc] at hw
        cases hw
        simp only [put_apply, Nat.reduceEqDiff, reduceIte, false_and, and_false, true_and, and_true, and_self, if_false, if_true, not_false_eq_true, not_true_eq_false, ne_eq]
      · rw [num_oth he] at hw
        rw [put_ne (by simp), put_ne (by simp [Ne.symm he]), put_ne (by simp)]
        exact hnum _ _ hw
    · exact ((Fr.rf.p1 (by simp)).p1 (by simp)).p1 (by simp)
theorem x_numberAnew (j c s : Nat) (f : Nat → Nat) (h : HH) (hc : h 5 j 2 = (c : Int)) (h8 : c ≤ 8) (hs : h 5 j 3 = (s : Int)) (hs2 : s < 256) (hf : ∀ i, i < 2 * c → h 6 j i = (f i : Int)) (hf2 : ∀ i, i < 2 * c → f i < 16) :
    Sp mX6_numberAnew [vr 5 j] h (fun r g => r = none ∧ g 5 j 2 = (c : Int) ∧ g 5 j 3 = (rsl f s (2 * c) : Int) ∧ (∀ i, i < 2 * c → g 6 j i = (rn f i : Int)) ∧ Fr [(1, 0), (2, 0), (6, j)] [(5, j, 3)] h g) := by
  refine Sp.of rfl kX6_numberAnew (Nat.le_of_ble_eq_true rfl) ?_
  have L : ∀ (m n : Nat) (g : HH), n + m = 2 * c → NM 0 f n g → (∀ i, i < n → g 6 j i = (rn f i : Int)) → (∀ i, n ≤ i → i < 2 * c → g 6 j i = (f i : Int)) → Fr [(1, 0), (2, 0), (6, j)] [] h g →
      AW mX6_numberAnew (fun r g => r = none ∧ g 5 j 2 = (c : Int) ∧ g 5 j 3 = (rsl f s (2 * c) : Int) ∧ (∀ i, i < 2 * c → g 6 j i = (rn f i : Int)) ∧ Fr [(1, 0), (2, 0), (6, j)] [(5, j, 3)] h g) 11 [(0, vr 5 j), (1, vi (rsl f s n)), (2, vi n)] [] g := by
    intro m
    induction m with
    | zero =>
      intro n g hn hN hp hq hF
      have hn : n = 2 * c := by omega
      subst hn
      have hc' : g 5 j 2 = (c : Int) := by rw [hF 5 j 2 (by simp) (by simp)]; exact hc
      refine u_iloadn (k := 7) rfl rfl ?_
      refine u_aloadn (k := 8) rfl rfl ?_
      refine i_virt0 (M' := mX6_length) (k := 9) rfl lRX6_23 oX6_length vX6_length ⟨Nat.le_of_ble_eq_true rfl, Nat.le_of_ble_eq_true rfl⟩ rfl rfl (Nat.le_of_ble_eq_true rfl) (x_length j c g hc' h8) ?_
      refine a_icmp_ge (k := 10) rfl (fun c_16 => ?_) (fun c_16 => ?_)
      · refine u_aloadn (k := 49) rfl rfl ?_
        refine u_iloadn (k := 50) rfl rfl ?_
        refine a_puti (k := 51) rfl pRX6_27 rfl rfl ?_
        refine a_return (k := 52) rfl rfl ?_
        exact ⟨rfl, by simp only [put_apply, Nat.reduceEqDiff, reduceIte, false_and, and_false, true_and, and_true, and_self, if_false, if_true, not_false_eq_true, not_true_eq_false, ne_eq]; exact hc', by rw [put_eq], fun i hi => by simp only [put_apply, Nat.reduceEqDiff, reduceIte, false_and, and_false, true_and, and_true, and_self, if_false, if_true, not_false_eq_true, not_true_eq_false, ne_eq]; exact hp i hi, (hF.mono (by simp) (by simp)).p2 (by simp)⟩
      · omega
    | succ m ih =>
      intro n g hn hN hp hq hF
      have hc' : g 5 j 2 = (c : Int) := by rw [hF 5 j 2 (by simp) (by simp)]; exact hc
      have hs' : g 5 j 3 = (s : Int) := by rw [hF 5 j 3 (by simp) (by simp)]; exact hs
      have hfn := hf2 n (by omega)
      have e8 : f n / 2 % 8 = f n / 2 := by omega
      have hrs := rsl_lt f s n (by omega)
      have hcr := cr_lt (f := f) n
      refine u_iloadn (k := 7) rfl rfl ?_
      refine u_aloadn (k := 8) rfl rfl ?_
      refine i_virt0 (M' := mX6_length) (k := 9) rfl lRX6_23 oX6_length vX6_length ⟨Nat.le_of_ble_eq_true rfl, Nat.le_of_ble_eq_true rfl⟩ rfl rfl (Nat.le_of_ble_eq_true rfl) (x_length j c g hc' h8) ?_
      refine a_icmp_ge (k := 10) rfl (fun c_16 => ?_) (fun c_16 => ?_)
      · omega
      · refine u_aloadn (k := 11) rfl rfl ?_
        refine a_getr (k := 12) rfl fRX6_15 rfl rfl rfl ?_
        refine u_iloadn (k := 13) rfl rfl ?_
        refine u_iald (k := 14) rfl rfl rfl (by omega) ?_
        rw [hq n (by omega) (by omega)]
        refine i_statN1 (M' := mX10_crossingOf) (k := 15) rfl lRX6_50 oX10_crossingOf vX10_crossingOf ⟨Nat.le_of_ble_eq_true rfl, Nat.le_of_ble_eq_true rfl⟩ rfl (Nat.le_of_ble_eq_true rfl) (x_crossingOf (f n) g (by omega)) ?_
        refine a_istoren (k := 16) (lv' := [(3, _), (0, _), (1, _), (2, _)]) rfl (Nat.le_of_ble_eq_true rfl) rfl ?_
        refine u_aloadn (k := 17) rfl rfl ?_
        refine a_getr (k := 18) rfl fRX6_9 rfl rfl rfl ?_
        refine u_iloadn (k := 19) rfl rfl ?_
        rw [e8]
        refine ui_virt1 (M' := mX4_numberOf) (k := 20) rfl lRX6_54 oX4_numberOf vX4_numberOf ⟨Nat.le_of_ble_eq_true rfl, Nat.le_of_ble_eq_true rfl⟩ rfl rfl (Nat.le_of_ble_eq_true rfl) (x_numberOf 0 f n g hN (by omega) (by omega)) (by intro r g hp; exact ⟨_, hp.1⟩) (fun r g1 hg1 => ?_)
        obtain ⟨e1, hN1, hF1⟩ := hg1; cases e1
        refine a_istore (k := 21) (lv' := [(4, _), (3, _), (0, _), (1, _), (2, _)]) rfl (Nat.le_of_ble_eq_true rfl) rfl ?_
        refine u_iloadn (k := 22) rfl rfl ?_
        refine u_aloadn (k := 23) rfl rfl ?_
        refine a_geti (k := 24) rfl fRX6_27 rfl rfl ?_
        refine u_iloadn (k := 25) rfl rfl ?_
        refine a_ishr (k := 26) rfl ?_
        refine a_iconst (k := 27) rfl ?_
        refine a_iand (k := 28) rfl ?_
        rw [hF1 5 j 3 (by simp) (by simp), hs', sab (by omega) (by omega)]
        refine u_iload (k := 29) rfl rfl ?_
        refine a_ishl (k := 30) rfl ?_
        rw [shl_tbi (by omega)]
        refine a_ior (k := 31) rfl ?_
        rw [ior_nat (by omega) (by split; exact Nat.pow_lt_pow_right (by omega) (by omega); omega)]
        refine a_istoren (k := 32) (lv' := [(1, _), (4, _), (3, _), (0, _), (2, _)]) rfl (Nat.le_of_ble_eq_true rfl) rfl ?_
        refine u_aloadn (k := 33) rfl rfl ?_
        refine a_getr (k := 34) rfl fRX6_15 rfl rfl rfl ?_
        refine u_iloadn (k := 35) rfl rfl ?_
        refine a_iconst (k := 36) rfl ?_
        refine u_iload (k := 37) rfl rfl ?_
        refine u_imul (k := 38) rfl (by omega) ?_
        refine u_aloadn (k := 39) rfl rfl ?_
        refine a_getr (k := 40) rfl fRX6_15 rfl rfl rfl ?_
        refine u_iloadn (k := 41) rfl rfl ?_
        refine u_iald (k := 42) rfl rfl rfl (by omega) ?_
        rw [hF1 6 j n (by simp) (by simp), hq n (by omega) (by omega)]
        refine a_iconst (k := 43) rfl ?_
        refine a_iand (k := 44) rfl ?_
        rw [iand1 (by omega)]
        refine u_iadd (k := 45) rfl (by omega) ?_
        refine u_iast (k := 46) rfl rfl rfl (by omega) ?_
        refine u_iinc (k := 47) (lv' := [(2, _), (1, _), (4, _), (3, _), (0, _)]) rfl rfl (Nat.le_of_ble_eq_true rfl) (by omega) rfl ?_
        refine a_goto (k := 48) rfl ?_
        refine a_sub [4, 1, 0] rfl ?_
        refine ih (n + 1) _ (by omega) (hN1.keep (fun k => by simp only [put_apply, Nat.reduceEqDiff, reduceIte, false_and, and_false, true_and, and_true, and_self, if_false, if_true, not_false_eq_true, not_true_eq_false, ne_eq]) (fun k => by simp only [put_apply, Nat.reduceEqDiff, reduceIte, false_and, and_false, true_and, and_true, and_self, if_false, if_true, not_false_eq_true, not_true_eq_false, ne_eq])) (fun i hi => ?_) (fun i h1 h2 => ?_) ((hF.tr hF1 (by simp) (by simp)).p1 (by simp))
        · by_cases he : i = n
          · subst he; rw [put_eq, rn]; push_cast; rfl
          · rw [put_ne (by simp [he]), hF1 6 j i (by simp) (by simp)]; exact hp i (by omega)
        · rw [put_ne (by simp; omega), hF1 6 j i (by simp) (by simp)]; exact hq i (by omega) h2
  refine a_iconst (k := 0) rfl ?_
  refine a_istoren (k := 1) (lv' := [(1, _), (0, _)]) rfl (Nat.le_of_ble_eq_true rfl) rfl ?_
  refine u_aloadn (k := 2) rfl rfl ?_
  refine a_getr (k := 3) rfl fRX6_9 rfl rfl rfl ?_
  refine v_virt0 (M' := mX4_begin) (k := 4) rfl lRX6_45 oX4_begin vX4_begin ⟨Nat.le_of_ble_eq_true rfl, Nat.le_of_ble_eq_true rfl⟩ rfl rfl (Nat.le_of_ble_eq_true rfl) (x_begin 0 h) ?_
  refine a_iconst (k := 5) rfl ?_
  refine a_istoren (k := 6) (lv' := [(2, _), (1, _), (0, _)]) rfl (Nat.le_of_ble_eq_true rfl) rfl ?_
  refine a_sub [2, 1, 0] rfl ?_
  exact L (2 * c) 0 _ (by omega) (NM.zero (by simp only [put_apply, Nat.reduceEqDiff, reduceIte, false_and, and_false, true_and, and_true, and_self, if_false, if_true, not_false_eq_true, not_true_eq_false, ne_eq]) (by simp only [put_apply, Nat.reduceEqDiff, reduceIte, false_and, and_false, true_and, and_true, and_self, if_false, if_true, not_false_eq_true, not_true_eq_false, ne_eq])) (fun i hi => absurd hi (Nat.not_lt_zero i)) (fun i _ hi => by simp only [put_apply, Nat.reduceEqDiff, reduceIte, false_and, and_false, true_and, and_true, and_self, if_false, if_true, not_false_eq_true, not_true_eq_false, ne_eq]; exact hf i hi) ((Fr.rf.p1 (by simp)).p1 (by simp))
