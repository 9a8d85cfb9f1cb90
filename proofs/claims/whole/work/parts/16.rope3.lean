/-- the passes that stay when the crossings of S go -/
def kp (f : Nat → Nat) (S : Nat) : Nat → List Nat
  | 0 => []
  | n + 1 => if S.testBit (f n / 2) then kp f S n else kp f S n ++ [f n]
def fn (l : List Nat) (q : Nat) : Nat := l.getD q 0
theorem kp_len (f : Nat → Nat) (S : Nat) : ∀ n, (kp f S n).length ≤ n
  | 0 => Nat.le_refl 0
  | n + 1 => by
    have := kp_len f S n
    unfold kp
    split
    · omega
    · rw [List.length_append]; simp; omega
theorem fn_app1 {l : List Nat} {a q : Nat} (h : q < l.length) : fn (l ++ [a]) q = fn l q := by
  simp [fn, List.getD, List.getElem?_append_left h]
theorem fn_app2 {l : List Nat} {a : Nat} : fn (l ++ [a]) l.length = a := by
  simp [fn, List.getD]
theorem kp_lt {f : Nat → Nat} {S b : Nat} : ∀ {n : Nat}, (∀ i, i < n → f i < b) → ∀ q, q < (kp f S n).length → fn (kp f S n) q < b
  | 0, _, q, hq => absurd hq (Nat.not_lt_zero q)
  | n + 1, h, q, hq => by
    unfold kp at hq ⊢
    split at hq
    · rename_i hc
      rw [if_pos hc]
      exact kp_lt (fun i hi => h i (by omega)) q hq
    · rename_i hc
      rw [if_neg hc]
      rw [List.length_append] at hq
      simp at hq
      rcases Nat.lt_or_ge q (kp f S n).length with h1 | h1
      · rw [fn_app1 h1]
        exact kp_lt (fun i hi => h i (by omega)) q h1
      · have : q = (kp f S n).length := by omega
        subst this
        rw [fn_app2]
        exact h n (by omega)
/-- what Rope holds behind numberAnew: c crossings, the raw thread f, salt s -/
def RN (j c : Nat) (f : Nat → Nat) (s : Nat) (g : HH) : Prop := g 5 j 2 = (c : Int) ∧ g 5 j 3 = (rsl f s (2 * c) : Int) ∧ ∀ i, i < 2 * c → g 6 j i = (rn f i : Int)
theorem x_takeAway (j c s S : Nat) (f : Nat → Nat) (h : HH) (hc : h 5 j 2 = (c : Int)) (h8 : c ≤ 8) (hs : h 5 j 3 = (s : Int)) (hs2 : s < 256) (hf : ∀ i, i < 2 * c → h 6 j i = (f i : Int)) (hf2 : ∀ i, i < 2 * c → f i < 16) (hS : S < 2 ^ 31) :
    Sp mX6_takeAway [vr 5 j, vi S] h (fun r g => r = none ∧ RN j ((kp f S (2 * c)).length / 2) (fn (kp f S (2 * c))) s g ∧ Fr [(1, 0), (2, 0), (6, j), (5, j)] [] h g) := by
  refine Sp.of rfl kX6_takeAway (Nat.le_of_ble_eq_true rfl) ?_
  have L : ∀ (m n : Nat) (g : HH), n + m = 2 * c → (∀ i, i < (kp f S n).length → g 6 j i = (fn (kp f S n) i : Int)) → (∀ i, n ≤ i → i < 2 * c → g 6 j i = (f i : Int)) → Fr [(6, j)] [] h g →
      AW mX6_takeAway (fun r g => r = none ∧ RN j ((kp f S (2 * c)).length / 2) (fn (kp f S (2 * c))) s g ∧ Fr [(1, 0), (2, 0), (6, j), (5, j)] [] h g) 4 [(0, vr 5 j), (1, vi S), (2, vi ((kp f S n).length : Int)), (3, vi n)] [] g := by
    intro m
    induction m with
    | zero =>
      intro n g hn hp hq hF
      have hn : n = 2 * c := by omega
      subst hn
      have hc' : g 5 j 2 = (c : Int) := by rw [hF 5 j 2 (by simp) (by simp)]; exact hc
      have hs' : g 5 j 3 = (s : Int) := by rw [hF 5 j 3 (by simp) (by simp)]; exact hs
      have hl := kp_len f S (2 * c)
      refine u_iloadn (k := 4) rfl rfl ?_
      refine u_aloadn (k := 5) rfl rfl ?_
      refine i_virt0 (M' := mX6_length) (k := 6) rfl lRX6_23 oX6_length vX6_length ⟨Nat.le_of_ble_eq_true rfl, Nat.le_of_ble_eq_true rfl⟩ rfl rfl (Nat.le_of_ble_eq_true rfl) (x_length j c g hc' h8) ?_
      refine a_icmp_ge (k := 7) rfl (fun c_9 => ?_) (fun c_9 => ?_)
      · refine u_aloadn (k := 27) rfl rfl ?_
        refine u_iloadn (k := 28) rfl rfl ?_
        refine a_iconst (k := 29) rfl ?_
        refine u_idiv (k := 30) rfl (by omega) (by omega) ?_
        refine a_puti (k := 31) rfl pRX6_19 rfl rfl ?_
        refine u_aloadn (k := 32) rfl rfl ?_
        refine uv_virt0 (M' := mX6_numberAnew) (k := 33) rfl lRX6_61 oX6_numberAnew vX6_numberAnew ⟨Nat.le_of_ble_eq_true rfl, Nat.le_of_ble_eq_true rfl⟩ rfl rfl (Nat.le_of_ble_eq_true rfl) (x_numberAnew j ((kp f S (2 * c)).length / 2) s (fn (kp f S (2 * c))) _ (by rw [put_eq]; omega) (by omega) (by simp only [put_apply, Nat.reduceEqDiff, reduceIte, false_and, and_false, true_and, and_true, and_self, if_false, if_true, not_false_eq_true, not_true_eq_false, ne_eq]; exact hs') hs2 (fun i hi => by simp only [put_apply, Nat.reduceEqDiff, reduceIte, false_and, and_false, true_and, and_true, and_self, if_false, if_true, not_false_eq_true, not_true_eq_false, ne_eq]; exact hp i (by omega)) (fun i hi => kp_lt hf2 i (by omega))) (by intro r g hp; exact hp.1) (fun g1 hg1 => ?_)
        obtain ⟨-, a1, a2, a3, a4⟩ := hg1
        refine a_return (k := 34) rfl rfl ?_
        exact ⟨rfl, ⟨a1, a2, a3⟩, ((hF.mono (by simp) (by simp)).p1 (by simp)).tr a4 (by simp) (by simp)⟩
      · omega
    | succ m ih =>
      intro n g hn hp hq hF
      have hc' : g 5 j 2 = (c : Int) := by rw [hF 5 j 2 (by simp) (by simp)]; exact hc
      have hl := kp_len f S n
      have hfn := hf2 n (by omega)
      have e8 : f n / 2 % 8 = f n / 2 := by omega
      have e0 : tbi S (f n / 2) = if S.testBit (f n / 2) then 1 else 0 := rfl
      refine u_iloadn (k := 4) rfl rfl ?_
      refine u_aloadn (k := 5) rfl rfl ?_
      refine i_virt0 (M' := mX6_length) (k := 6) rfl lRX6_23 oX6_length vX6_length ⟨Nat.le_of_ble_eq_true rfl, Nat.le_of_ble_eq_true rfl⟩ rfl rfl (Nat.le_of_ble_eq_true rfl) (x_length j c g hc' h8) ?_
      refine a_icmp_ge (k := 7) rfl (fun c_9 => ?_) (fun c_9 => ?_)
      · omega
      · refine u_iloadn (k := 8) rfl rfl ?_
        refine u_aloadn (k := 9) rfl rfl ?_
        refine a_getr (k := 10) rfl fRX6_15 rfl rfl rfl ?_
        refine u_iloadn (k := 11) rfl rfl ?_
        refine u_iald (k := 12) rfl rfl rfl (by omega) ?_
        rw [hq n (by omega) (by omega)]
        refine i_statN1 (M' := mX10_crossingOf) (k := 13) rfl lRX6_50 oX10_crossingOf vX10_crossingOf ⟨Nat.le_of_ble_eq_true rfl, Nat.le_of_ble_eq_true rfl⟩ rfl (Nat.le_of_ble_eq_true rfl) (x_crossingOf (f n) g (by omega)) ?_
        rw [e8]
        refine i_statN2 (M' := mX10_isIn) (k := 14) rfl lRX6_57 oX10_isIn vX10_isIn ⟨Nat.le_of_ble_eq_true rfl, Nat.le_of_ble_eq_true rfl⟩ rfl (Nat.le_of_ble_eq_true rfl) (x_isIn S (f n / 2) g hS (by omega)) ?_
        refine a_if_ne (k := 15) rfl (fun c_25 => ?_) (fun c_25 => ?_)
        · have hb : S.testBit (f n / 2) = true := by rw [e0] at c_25; split at c_25 <;> simp_all
          have ek : kp f S (n + 1) = kp f S n := by simp [kp, hb]
          refine u_iinc (k := 25) (lv' := [(3, _), (0, _), (1, _), (2, _)]) rfl rfl (Nat.le_of_ble_eq_true rfl) (by omega) rfl ?_
          refine a_goto (k := 26) rfl ?_
          refine a_sub [1, 2, 3, 0] rfl ?_
          first | (have := ih (n + 1) g (by omega) (by rw [ek]; exact hp) (fun i h1 h2 => hq i (by omega) h2) hF; rw [ek] at this; exact this) | (have := ih (n + 1) (put g 6 j (kp f S n).length (f n : Int)) (by omega) (fun i hi => by rw [ek] at hi ⊢; rw [List.length_append] at hi; simp at hi; by_cases he : i = (kp f S n).length; (subst he; rw [put_eq, fn_app2]); (rw [put_ne (by simp [he]), fn_app1 (by omega)]; exact hp i (by omega))) (fun i h1 h2 => by rw [put_ne (by simp; omega)]; exact hq i (by omega) h2) (hF.p1 (by simp)); rw [ek, List.length_append] at this; exact this)
        · have hb : ¬ S.testBit (f n / 2) = true := by rw [e0] at c_25; split at c_25 <;> simp_all
          have ek : kp f S (n + 1) = kp f S n ++ [f n] := by simp [kp, hb]
          refine u_aloadn (k := 16) rfl rfl ?_
          refine a_getr (k := 17) rfl fRX6_15 rfl rfl rfl ?_
          refine u_iloadn (k := 18) rfl rfl ?_
          refine u_aloadn (k := 19) rfl rfl ?_
          refine a_getr (k := 20) rfl fRX6_15 rfl rfl rfl ?_
          refine u_iloadn (k := 21) rfl rfl ?_
          refine u_iald (k := 22) rfl rfl rfl (by omega) ?_
          rw [hq n (by omega) (by omega)]
          refine u_iast (k := 23) rfl rfl rfl (by omega) ?_
          refine u_iinc (k := 24) (lv' := [(2, _), (0, _), (1, _), (3, _)]) rfl rfl (Nat.le_of_ble_eq_true rfl) (by omega) rfl ?_
          refine u_iinc (k := 25) (lv' := [(3, _), (2, _), (0, _), (1, _)]) rfl rfl (Nat.le_of_ble_eq_true rfl) (by omega) rfl ?_
          refine a_goto (k := 26) rfl ?_
          refine a_sub [2, 3, 1, 0] rfl ?_
          first | (have := ih (n + 1) g (by omega) (by rw [ek]; exact hp) (fun i h1 h2 => hq i (by omega) h2) hF; rw [ek] at this; exact this) | (have := ih (n + 1) (put g 6 j (kp f S n).length (f n : Int)) (by omega) (fun i hi => by rw [ek] at hi ⊢; rw [List.length_append] at hi; simp at hi; by_cases he : i = (kp f S n).length; (subst he; rw [put_eq, fn_app2]); (rw [put_ne (by simp [he]), fn_app1 (by omega)]; exact hp i (by omega))) (fun i h1 h2 => by rw [put_ne (by simp; omega)]; exact hq i (by omega) h2) (hF.p1 (by simp)); rw [ek, List.length_append] at this; exact this)
  refine a_iconst (k := 0) rfl ?_
  refine a_istoren (k := 1) (lv' := [(2, _), (0, _), (1, _)]) rfl (Nat.le_of_ble_eq_true rfl) rfl ?_
  refine a_iconst (k := 2) rfl ?_
  refine a_istoren (k := 3) (lv' := [(3, _), (2, _), (0, _), (1, _)]) rfl (Nat.le_of_ble_eq_true rfl) rfl ?_
  refine a_sub [2, 3, 1, 0] rfl ?_
  exact L (2 * c) 0 h (by omega) (fun i hi => absurd hi (Nat.not_lt_zero i)) (fun i _ hi => hf i hi) Fr.rf
/-- a new crossing's passes ahead of pass a -/
def insf (f : Nat → Nat) (c a o : Nat) (q : Nat) : Nat := if q < a then f q else if q = a then 2 * c + o else if q = a + 1 then 2 * c + (1 - o) else f (q - 2)
theorem x_addCurl (j c s a o : Nat) (f : Nat → Nat) (h : HH) (hc : h 5 j 2 = (c : Int)) (h8 : c < 8) (hs : h 5 j 3 = (s : Int)) (hs2 : s < 256) (hf : ∀ i, i < 2 * c → h 6 j i = (f i : Int)) (hf2 : ∀ i, i < 2 * c → f i < 16) (ha : a ≤ 2 * c) (ho : o < 2) :
    Sp mX6_addCurl [vr 5 j, vi a, vi o] h (fun r g => r = none ∧ RN j (c + 1) (insf f c a o) s g ∧ Fr [(1, 0), (2, 0), (6, j), (5, j)] [] h g) := by
  refine Sp.of rfl kX6_addCurl (Nat.le_of_ble_eq_true rfl) ?_
  have fin : ∀ (g : HH), Fr [(6, j)] [] h g → (∀ i, i < a → g 6 j i = (f i : Int)) → (∀ i, a ≤ i → i < 2 * c → g 6 j (i + 2) = (f i : Int)) → AW mX6_addCurl (fun r g => r = none ∧ RN j (c + 1) (insf f c a o) s g ∧ Fr [(1, 0), (2, 0), (6, j), (5, j)] [] h g) 54 [(0, vr 5 j), (1, vi a), (2, vi o)] [] g := by
    intro g hF hp hq
    have hc' : g 5 j 2 = (c : Int) := by rw [hF 5 j 2 (by simp) (by simp)]; exact hc
    have hs' : g 5 j 3 = (s : Int) := by rw [hF 5 j 3 (by simp) (by simp)]; exact hs
    have fin2 : ∀ (g : HH), Fr [(6, j)] [] h g → (∀ i, i < 2 * (c + 1) → g 6 j i = (insf f c a o i : Int)) → AW mX6_addCurl (fun r g => r = none ∧ RN j (c + 1) (insf f c a o) s g ∧ Fr [(1, 0), (2, 0), (6, j), (5, j)] [] h g) 100 [(0, vr 5 j)] [] g := by
      intro g hF hp
      have hc' : g 5 j 2 = (c : Int) := by rw [hF 5 j 2 (by simp) (by simp)]; exact hc
      have hs' : g 5 j 3 = (s : Int) := by rw [hF 5 j 3 (by simp) (by simp)]; exact hs
      refine u_aloadn (k := 61) rfl rfl ?_
      refine a_dup (k := 62) rfl rfl ?_
      refine a_geti (k := 63) rfl fRX6_19 rfl rfl ?_
      refine a_iconst (k := 64) rfl ?_
      refine u_iadd (k := 65) rfl (by omega) ?_
      refine a_puti (k := 66) rfl pRX6_19 rfl rfl ?_
      refine u_aloadn (k := 67) rfl rfl ?_
      refine uv_virt0 (M' := mX6_numberAnew) (k := 68) rfl lRX6_61 oX6_numberAnew vX6_numberAnew ⟨Nat.le_of_ble_eq_true rfl, Nat.le_of_ble_eq_true rfl⟩ rfl rfl (Nat.le_of_ble_eq_true rfl) (x_numberAnew j (c + 1) s (insf f c a o) _ (by rw [put_eq]; omega) (by omega) (by simp only [put_apply, Nat.reduceEqDiff, reduceIte, false_and, and_false, true_and, and_true, and_self, if_false, if_true, not_false_eq_true, not_true_eq_false, ne_eq]; exact hs') hs2 (fun i hi => by simp only [put_apply, Nat.reduceEqDiff, reduceIte, false_and, and_false, true_and, and_true, and_self, if_false, if_true, not_false_eq_true, not_true_eq_false, ne_eq]; exact hp i hi) (fun i hi => by unfold insf; split; exact hf2 _ (by omega); split; omega; split; omega; exact hf2 _ (by omega))) (by intro r g hp; exact hp.1) (fun g1 hg1 => ?_)
      obtain ⟨-, a1, a2, a3, a4⟩ := hg1
      refine a_return (k := 69) rfl rfl ?_
      exact ⟨rfl, ⟨a1, a2, a3⟩, ((hF.mono (by simp) (by simp)).p1 (by simp)).tr a4 (by simp) (by simp)⟩
    have key : ∀ (v w : Int), v = 2 * c + o → w = 2 * c + (1 - o) → AW mX6_addCurl (fun r g => r = none ∧ RN j (c + 1) (insf f c a o) s g ∧ Fr [(1, 0), (2, 0), (6, j), (5, j)] [] h g) 100 [(0, vr 5 j)] [] (put (put g 6 j a v) 6 j (a + 1) w) := by
      intro v w hv hw
      refine fin2 _ ((hF.p1 (by simp)).p1 (by simp)) (fun i hi => ?_)
      unfold insf
      by_cases h1 : i = a + 1
      · subst h1; rw [put_eq, if_neg (by omega), if_neg (by omega), if_pos rfl]; omega
      · rw [put_ne (by simp [h1])]
        by_cases h2 : i = a
        · subst h2; rw [put_eq, if_neg (by omega), if_pos rfl]; omega
        · rw [put_ne (by simp [h2])]
          by_cases h3 : i < a
          · rw [if_pos h3]; exact hp i h3
          · rw [if_neg h3, if_neg h2, if_neg h1]
            have := hq (i - 2) (by omega) (by omega)
            rw [show i - 2 + 2 = i by omega] at this
            exact this
    refine u_aloadn (k := 31) rfl rfl ?_
    refine a_getr (k := 32) rfl fRX6_15 rfl rfl rfl ?_
    refine u_iloadn (k := 33) rfl rfl ?_
    refine a_iconst (k := 34) rfl ?_
    refine u_aloadn (k := 35) rfl rfl ?_
    refine a_geti (k := 36) rfl fRX6_19 rfl rfl ?_
    refine u_imul (k := 37) rfl (by omega) ?_
    refine u_iloadn (k := 38) rfl rfl ?_
    refine a_if_eq (k := 39) rfl (fun c_66 => ?_) (fun c_66 => ?_)
    · refine a_iconst (k := 42) rfl ?_
      refine u_iadd (k := 43) rfl (by omega) ?_
      refine u_iast (k := 44) rfl rfl rfl (by omega) ?_
      refine u_aloadn (k := 45) rfl rfl ?_
      refine a_getr (k := 46) rfl fRX6_15 rfl rfl rfl ?_
      refine u_iloadn (k := 47) rfl rfl ?_
      refine a_iconst (k := 48) rfl ?_
      refine u_iadd (k := 49) rfl (by omega) ?_
      refine a_iconst (k := 50) rfl ?_
      skip
      refine u_aloadn (k := 51) rfl rfl ?_
      skip
      refine a_geti (k := 52) rfl fRX6_19 rfl rfl ?_
      rw [put_ne (by simp)]
      refine u_imul (k := 53) rfl (by omega) ?_
      refine u_iloadn (k := 54) rfl rfl ?_
      refine a_if_eq (k := 55) rfl (fun c_90 => ?_) (fun c_90 => ?_)
      · refine a_iconst (k := 58) rfl ?_
        refine u_iadd (k := 59) rfl (by omega) ?_
        refine u_iastx (a + 1) (k := 60) rfl rfl rfl (by omega) (by omega) ?_
        refine a_sub [0] rfl ?_
        exact key _ _ (by omega) (by omega)
      · refine a_iconst (k := 56) rfl ?_
        refine a_goto (k := 57) rfl ?_
        refine u_iadd (k := 59) rfl (by omega) ?_
        refine u_iastx (a + 1) (k := 60) rfl rfl rfl (by omega) (by omega) ?_
        refine a_sub [0] rfl ?_
        exact key _ _ (by omega) (by omega)
    · refine a_iconst (k := 40) rfl ?_
      refine a_goto (k := 41) rfl ?_
      refine u_iadd (k := 43) rfl (by omega) ?_
      refine u_iast (k := 44) rfl rfl rfl (by omega) ?_
      refine u_aloadn (k := 45) rfl rfl ?_
      refine a_getr (k := 46) rfl fRX6_15 rfl rfl rfl ?_
      refine u_iloadn (k := 47) rfl rfl ?_
      refine a_iconst (k := 48) rfl ?_
      refine u_iadd (k := 49) rfl (by omega) ?_
      refine a_iconst (k := 50) rfl ?_
      skip
      refine u_aloadn (k := 51) rfl rfl ?_
      skip
      refine a_geti (k := 52) rfl fRX6_19 rfl rfl ?_
      rw [put_ne (by simp)]
      refine u_imul (k := 53) rfl (by omega) ?_
      refine u_iloadn (k := 54) rfl rfl ?_
      refine a_if_eq (k := 55) rfl (fun c_90 => ?_) (fun c_90 => ?_)
      · refine a_iconst (k := 58) rfl ?_
        refine u_iadd (k := 59) rfl (by omega) ?_
        refine u_iastx (a + 1) (k := 60) rfl rfl rfl (by omega) (by omega) ?_
        refine a_sub [0] rfl ?_
        exact key _ _ (by omega) (by omega)
      · refine a_iconst (k := 56) rfl ?_
        refine a_goto (k := 57) rfl ?_
        refine u_iadd (k := 59) rfl (by omega) ?_
        refine u_iastx (a + 1) (k := 60) rfl rfl rfl (by omega) (by omega) ?_
        refine a_sub [0] rfl ?_
        exact key _ _ (by omega) (by omega)
  have L : ∀ (m : Nat) (g : HH), m ≤ 2 * c → a ≤ m → Fr [(6, j)] [] h g → (∀ i, i < m → g 6 j i = (f i : Int)) → (∀ i, m ≤ i → i < 2 * c → g 6 j (i + 2) = (f i : Int)) → AW mX6_addCurl (fun r g => r = none ∧ RN j (c + 1) (insf f c a o) s g ∧ Fr [(1, 0), (2, 0), (6, j), (5, j)] [] h g) 29 [(0, vr 5 j), (1, vi a), (2, vi o), (3, vi ((m : Int) - 1))] [] g := by
    intro m
    induction m with
    | zero =>
      intro g h1 h2 hF hp hq
      refine u_iloadn (k := 16) rfl rfl ?_
      refine u_iloadn (k := 17) rfl rfl ?_
      refine a_icmp_lt (k := 18) rfl (fun c_31 => ?_) (fun c_31 => ?_)
      · refine a_sub [0, 1, 2] rfl ?_
        exact fin g hF (fun i hi => by omega) (fun i h3 h4 => hq i (by omega) h4)
      · omega
    | succ m ih =>
      intro g h1 h2 hF hp hq
      by_cases he : a = m + 1
      · refine u_iloadn (k := 16) rfl rfl ?_
        refine u_iloadn (k := 17) rfl rfl ?_
        refine a_icmp_lt (k := 18) rfl (fun c_31 => ?_) (fun c_31 => ?_)
        · refine a_sub [0, 1, 2] rfl ?_
          exact fin g hF (fun i hi => hp i (by omega)) (fun i h3 h4 => hq i (by omega) h4)
        · omega
      · have em : ((m + 1 : Nat) : Int) - 1 = (m : Int) := by omega
        rw [em]
        refine u_iloadn (k := 16) rfl rfl ?_
        refine u_iloadn (k := 17) rfl rfl ?_
        refine a_icmp_lt (k := 18) rfl (fun c_31 => ?_) (fun c_31 => ?_)
        · omega
        · refine u_aloadn (k := 19) rfl rfl ?_
          refine a_getr (k := 20) rfl fRX6_15 rfl rfl rfl ?_
          refine u_iloadn (k := 21) rfl rfl ?_
          refine a_iconst (k := 22) rfl ?_
          refine u_iadd (k := 23) rfl (by omega) ?_
          refine u_aloadn (k := 24) rfl rfl ?_
          refine a_getr (k := 25) rfl fRX6_15 rfl rfl rfl ?_
          refine u_iloadn (k := 26) rfl rfl ?_
          refine u_iald (k := 27) rfl rfl rfl (by omega) ?_
          rw [hp m (by omega)]
          refine u_iastx (m + 2) (k := 28) rfl rfl rfl (by omega) (by omega) ?_
          refine u_iinc (k := 29) (lv' := [(3, _), (0, _), (1, _), (2, _)]) rfl rfl (Nat.le_of_ble_eq_true rfl) (by omega) rfl ?_
          refine a_goto (k := 30) rfl ?_
          refine a_sub [1, 2, 3, 0] rfl ?_
          exact ih (put g 6 j (m + 2) (f m : Int)) (by omega) (by omega) (hF.p1 (by simp)) (fun i hi => by rw [put_ne (by simp; omega)]; exact hp i (by omega)) (fun i h3 h4 => by by_cases hm : i = m; (subst hm; rw [put_eq]); (rw [put_ne (by simp; omega)]; exact hq i (by omega) h4))
  refine u_iloadn (k := 0) rfl rfl ?_
  refine a_if_lt (k := 1) rfl (fun c_1 => ?_) (fun c_1 => ?_)
  · omega
  · refine u_iloadn (k := 2) rfl rfl ?_
    refine u_aloadn (k := 3) rfl rfl ?_
    refine i_virt0 (M' := mX6_length) (k := 4) rfl lRX6_23 oX6_length vX6_length ⟨Nat.le_of_ble_eq_true rfl, Nat.le_of_ble_eq_true rfl⟩ rfl rfl (Nat.le_of_ble_eq_true rfl) (x_length j c h hc (by omega)) ?_
    refine a_icmp_gt (k := 5) rfl (fun c_9 => ?_) (fun c_9 => ?_)
    · omega
    · refine u_aloadn (k := 6) rfl rfl ?_
      refine a_geti (k := 7) rfl fRX6_19 rfl rfl ?_
      refine a_bipush (k := 8) rfl ?_
      refine a_icmp_lt (k := 9) rfl (fun c_18 => ?_) (fun c_18 => ?_)
      · refine u_aloadn (k := 11) rfl rfl ?_
        refine i_virt0 (M' := mX6_length) (k := 12) rfl lRX6_23 oX6_length vX6_length ⟨Nat.le_of_ble_eq_true rfl, Nat.le_of_ble_eq_true rfl⟩ rfl rfl (Nat.le_of_ble_eq_true rfl) (x_length j c h hc (by omega)) ?_
        refine a_iconst (k := 13) rfl ?_
        refine u_isub (k := 14) rfl (by omega) ?_
        refine a_istoren (k := 15) (lv' := [(3, _), (0, _), (1, _), (2, _)]) rfl (Nat.le_of_ble_eq_true rfl) rfl ?_
        refine a_sub [1, 2, 3, 0] rfl ?_
        exact L (2 * c) h (Nat.le_refl _) ha Fr.rf hf (fun i h3 h4 => by omega)
      · omega
