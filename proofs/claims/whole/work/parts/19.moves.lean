/-! MoveList -/
theorem j_fill (t n : Nat) (v : Int) (h : HH) (ho : ko t = none) (hk : ka t = some (0, n)) (hn : n < 65536) (i : Nat) : Sp mJ7_fill_53178 [vr t i, vi v] h (fun r g => r = none ∧ (∀ k, k < n → g t i k = v) ∧ Fr [(t, i)] [] h g) := by
  refine Sp.ofF (by decide +kernel) kJ7_fill_53178 (Nat.le_of_ble_eq_true rfl) ?_
  have L : ∀ (m q : Nat) (g : HH), q + m = n → (∀ k, k < q → g t i k = v) → Fr [(t, i)] [] h g → AW mJ7_fill_53178 (fun r g => r = none ∧ (∀ k, k < n → g t i k = v) ∧ Fr [(t, i)] [] h g) 5 [(0, vr t i), (1, vi v), (2, vi q), (3, vi n)] [] g := by
    intro m
    induction m with
    | zero =>
      intro q g hq hp hF
      have hq : q = n := by omega
      subst hq
      refine u_iloadn (k := 5) rfl rfl ?_
      refine u_iloadn (k := 6) rfl rfl ?_
      refine a_icmp_ge (k := 7) rfl (fun c_7 => ?_) (fun c_7 => ?_)
      · refine a_return (k := 14) rfl rfl ?_
        exact ⟨rfl, hp, hF⟩
      · omega
    | succ m ih =>
      intro q g hq hp hF
      refine u_iloadn (k := 5) rfl rfl ?_
      refine u_iloadn (k := 6) rfl rfl ?_
      refine a_icmp_ge (k := 7) rfl (fun c_7 => ?_) (fun c_7 => ?_)
      · omega
      · refine u_aloadn (k := 8) rfl rfl ?_
        refine u_iloadn (k := 9) rfl rfl ?_
        refine u_iloadn (k := 10) rfl rfl ?_
        refine u_iast (k := 11) rfl ho hk (by omega) ?_
        refine u_iinc (k := 12) (lv' := [(2, _), (0, _), (1, _), (3, _)]) rfl rfl (Nat.le_of_ble_eq_true rfl) (by omega) rfl ?_
        refine a_goto (k := 13) rfl ?_
        refine a_sub [1, 2, 0, 3] rfl ?_
        exact ih (q + 1) _ (by omega) (fun k hk => by by_cases he : k = q; (subst he; rw [put_eq]); (rw [put_ne (by simp [he])]; exact hp k (by omega))) (hF.p1 (by simp))
  refine a_iconst (k := 0) rfl ?_
  refine a_istoren (k := 1) (lv' := [(2, _), (0, _), (1, _)]) rfl (Nat.le_of_ble_eq_true rfl) rfl ?_
  refine u_aloadn (k := 2) rfl rfl ?_
  refine a_alen (k := 3) rfl ho hk (by decide) hn ?_
  refine a_istoren (k := 4) (lv' := [(3, _), (2, _), (0, _), (1, _)]) rfl (Nat.le_of_ble_eq_true rfl) rfl ?_
  refine a_sub [2, 3, 1, 0] rfl ?_
  exact L n 0 h (by omega) (fun k hk => absurd hk (Nat.not_lt_zero k)) Fr.rf
/-- the passes of f with crossings in S, switched by W -/
def tr_ (f : Nat → Nat) (S W : Nat) : Nat → List Nat
  | 0 => []
  | n + 1 => if S.testBit (f n / 2) then tr_ f S W n ++ [swf f W n] else tr_ f S W n
theorem tr_len (f : Nat → Nat) (S W : Nat) : ∀ n, (tr_ f S W n).length ≤ n
  | 0 => Nat.le_refl 0
  | n + 1 => by
    have := tr_len f S W n
    unfold tr_
    split
    · rw [List.length_append]; simp; omega
    · omega
theorem swf_lt : ∀ a, a < 16 → a ^^^ 1 < 16 ∧ (a ^^^ 1) / 2 = a / 2 := by decide
theorem swf_lt2 {f : Nat → Nat} {W q : Nat} (h : f q < 16) : swf f W q < 16 ∧ swf f W q / 2 = f q / 2 := by
  unfold swf
  split
  · exact swf_lt _ h
  · simp [h]
theorem tr_lt {f : Nat → Nat} {S W : Nat} : ∀ {n : Nat}, (∀ i, i < n → f i < 16) → ∀ q, fn (tr_ f S W n) q < 16
  | 0, _, q => by simp [fn, tr_]
  | n + 1, h, q => by
    unfold tr_
    split
    · rcases Nat.lt_trichotomy q (tr_ f S W n).length with h1 | h1 | h1
      · rw [fn_app1 h1]
        exact tr_lt (fun i hi => h i (by omega)) q
      · subst h1
        rw [fn_app2]
        exact (swf_lt2 (h n (by omega))).1
      · simp [fn, List.getD]
        rw [List.getElem?_eq_none (by simp; omega)]
        simp
    · exact tr_lt (fun i hi => h i (by omega)) q
theorem x_takeRow (j c S W : Nat) (f : Nat → Nat) (h : HH) (hc : h 5 j 2 = (c : Int)) (h8 : c ≤ 8) (hf : ∀ i, i < 2 * c → h 6 j i = (f i : Int)) (hf2 : ∀ i, i < 2 * c → f i < 16) (hS : S < 2 ^ 31) (hW : W < 2 ^ 31) :
    Sp mX3_takeRow [vr 17 0, vr 5 j, vi S, vi W] h (fun r g => r = some (vi ((tr_ f S W (2 * c)).length : Int)) ∧ (∀ i, i < (tr_ f S W (2 * c)).length → g 18 0 i = (fn (tr_ f S W (2 * c)) i : Int)) ∧ Fr [(18, 0)] [] h g) := by
  refine Sp.of rfl kX3_takeRow (Nat.le_of_ble_eq_true rfl) ?_
  have L : ∀ (m n : Nat) (g : HH), n + m = 2 * c → (∀ i, i < (tr_ f S W n).length → g 18 0 i = (fn (tr_ f S W n) i : Int)) → Fr [(18, 0)] [] h g →
      AW mX3_takeRow (fun r g => r = some (vi ((tr_ f S W (2 * c)).length : Int)) ∧ (∀ i, i < (tr_ f S W (2 * c)).length → g 18 0 i = (fn (tr_ f S W (2 * c)) i : Int)) ∧ Fr [(18, 0)] [] h g) 6 [(0, vr 17 0), (1, vr 5 j), (2, vi S), (3, vi W), (4, vi ((tr_ f S W n).length : Int)), (5, vi n)] [] g := by
    intro m
    induction m with
    | zero =>
      intro n g hn hp hF
      have hn : n = 2 * c := by omega
      subst hn
      have hc' : g 5 j 2 = (c : Int) := by rw [hF 5 j 2 (by simp) (by simp)]; exact hc
      refine u_iload (k := 4) rfl rfl ?_
      refine u_aloadn (k := 5) rfl rfl ?_
      refine i_virt0 (M' := mX6_length) (k := 6) rfl lRX3_59 oX6_length vX6_length ⟨Nat.le_of_ble_eq_true rfl, Nat.le_of_ble_eq_true rfl⟩ rfl rfl (Nat.le_of_ble_eq_true rfl) (x_length j c g hc' h8) ?_
      refine a_icmp_ge (k := 7) rfl (fun c_12 => ?_) (fun c_12 => ?_)
      · refine u_iload (k := 34) rfl rfl ?_
        refine a_ireturn (k := 35) rfl rfl ?_
        exact ⟨rfl, hp, hF⟩
      · omega
    | succ m ih =>
      intro n g hn hp hF
      have hc' : g 5 j 2 = (c : Int) := by rw [hF 5 j 2 (by simp) (by simp)]; exact hc
      have hfn' : g 6 j n = (f n : Int) := by rw [hF 6 j n (by simp) (by simp)]; exact hf n (by omega)
      have hl := tr_len f S W n
      have hfn := hf2 n (by omega)
      have e8 : f n / 2 % 8 = f n / 2 := by omega
      have e0 : tbi S (f n / 2) = if S.testBit (f n / 2) then 1 else 0 := rfl
      refine u_iload (k := 4) rfl rfl ?_
      refine u_aloadn (k := 5) rfl rfl ?_
      refine i_virt0 (M' := mX6_length) (k := 6) rfl lRX3_59 oX6_length vX6_length ⟨Nat.le_of_ble_eq_true rfl, Nat.le_of_ble_eq_true rfl⟩ rfl rfl (Nat.le_of_ble_eq_true rfl) (x_length j c g hc' h8) ?_
      refine a_icmp_ge (k := 7) rfl (fun c_12 => ?_) (fun c_12 => ?_)
      · omega
      · refine u_aloadn (k := 8) rfl rfl ?_
        refine a_getr (k := 9) rfl fRX3_62 rfl rfl rfl ?_
        refine u_iload (k := 10) rfl rfl ?_
        refine u_iald (k := 11) rfl rfl rfl (by omega) ?_
        rw [hfn']
        refine a_istore (k := 12) (lv' := [(6, _), (0, _), (1, _), (2, _), (3, _), (4, _), (5, _)]) rfl (Nat.le_of_ble_eq_true rfl) rfl ?_
        refine u_iload (k := 13) rfl rfl ?_
        refine i_statN1 (M' := mX10_crossingOf) (k := 14) rfl lRX3_65 oX10_crossingOf vX10_crossingOf ⟨Nat.le_of_ble_eq_true rfl, Nat.le_of_ble_eq_true rfl⟩ rfl (Nat.le_of_ble_eq_true rfl) (x_crossingOf (f n) g (by omega)) ?_
        rw [e8]
        refine a_istore (k := 15) (lv' := [(7, _), (6, _), (0, _), (1, _), (2, _), (3, _), (4, _), (5, _)]) rfl (Nat.le_of_ble_eq_true rfl) rfl ?_
        refine u_iloadn (k := 16) rfl rfl ?_
        refine u_iload (k := 17) rfl rfl ?_
        refine i_statN2 (M' := mX10_isIn) (k := 18) rfl lRX3_68 oX10_isIn vX10_isIn ⟨Nat.le_of_ble_eq_true rfl, Nat.le_of_ble_eq_true rfl⟩ rfl (Nat.le_of_ble_eq_true rfl) (x_isIn S (f n / 2) g hS (by omega)) ?_
        refine a_if_eq (k := 19) rfl (fun c_37 => ?_) (fun c_37 => ?_)
        · have hb : ¬ S.testBit (f n / 2) = true := by rw [e0] at c_37; split at c_37 <;> simp_all
          have ek : tr_ f S W (n + 1) = tr_ f S W n := by simp [tr_, hb]
          refine u_iinc (k := 32) (lv' := [(5, _), (7, _), (6, _), (0, _), (1, _), (2, _), (3, _), (4, _)]) rfl rfl (Nat.le_of_ble_eq_true rfl) (by omega) rfl ?_
          refine a_goto (k := 33) rfl ?_
          refine a_sub [3, 4, 5, 6, 7, 0] rfl ?_
          first | (have := ih (n + 1) g (by omega) (by rw [ek]; exact hp) hF; rw [ek] at this; exact this) | (have := ih (n + 1) (put g 18 0 (tr_ f S W n).length (swf f W n : Int)) (by omega) (fun i hi => by rw [ek] at hi ⊢; rw [List.length_append] at hi; simp at hi; by_cases he : i = (tr_ f S W n).length; (subst he; rw [put_eq, fn_app2]); (rw [put_ne (by simp [he]), fn_app1 (by omega)]; exact hp i (by omega))) (hF.p1 (by simp)); rw [ek, List.length_append] at this; exact this)
        · have hb : S.testBit (f n / 2) = true := by rw [e0] at c_37; split at c_37 <;> simp_all
          have ek : tr_ f S W (n + 1) = tr_ f S W n ++ [swf f W n] := by simp [tr_, hb]
          refine u_aloadn (k := 20) rfl rfl ?_
          refine a_getr (k := 21) rfl fRX3_9 rfl rfl rfl ?_
          refine u_iload (k := 22) rfl rfl ?_
          refine u_iload (k := 23) rfl rfl ?_
          refine u_iloadn (k := 24) rfl rfl ?_
          refine u_iload (k := 25) rfl rfl ?_
          refine a_ishr (k := 26) rfl ?_
          refine a_iconst (k := 27) rfl ?_
          refine a_iand (k := 28) rfl ?_
          rw [sab hW (by omega), tbi_nat]
          refine a_ixor (k := 29) rfl ?_
          rw [ixor_nat (by omega) (by split <;> omega)]
          refine u_iast (k := 30) rfl rfl rfl (by omega) ?_
          refine u_iinc (k := 31) (lv' := [(4, _), (7, _), (6, _), (0, _), (1, _), (2, _), (3, _), (5, _)]) rfl rfl (Nat.le_of_ble_eq_true rfl) (by omega) rfl ?_
          refine u_iinc (k := 32) (lv' := [(5, _), (4, _), (7, _), (6, _), (0, _), (1, _), (2, _), (3, _)]) rfl rfl (Nat.le_of_ble_eq_true rfl) (by omega) rfl ?_
          refine a_goto (k := 33) rfl ?_
          refine a_sub [4, 5, 6, 7, 1, 0] rfl ?_
          first | (have := ih (n + 1) g (by omega) (by rw [ek]; exact hp) hF; rw [ek] at this; exact this) | (have := ih (n + 1) (put g 18 0 (tr_ f S W n).length (swf f W n : Int)) (by omega) (fun i hi => by rw [ek] at hi ⊢; rw [List.length_append] at hi; simp at hi; by_cases he : i = (tr_ f S W n).length; (subst he; rw [put_eq, fn_app2]); (rw [put_ne (by simp [he]), fn_app1 (by omega)]; exact hp i (by omega))) (hF.p1 (by simp)); rw [ek, List.length_append] at this; exact this)
  refine a_iconst (k := 0) rfl ?_
  refine a_istore (k := 1) (lv' := [(4, _), (0, _), (1, _), (2, _), (3, _)]) rfl (Nat.le_of_ble_eq_true rfl) rfl ?_
  refine a_iconst (k := 2) rfl ?_
  refine a_istore (k := 3) (lv' := [(5, _), (4, _), (0, _), (1, _), (2, _), (3, _)]) rfl (Nat.le_of_ble_eq_true rfl) rfl ?_
  refine a_sub [2, 3, 4, 5, 1, 0] rfl ?_
  exact L (2 * c) 0 h (by omega) (fun i hi => absurd hi (Nat.not_lt_zero i)) Fr.rf
/-! neighbours in a row that goes round -/
def pa (L : List Nat) (i : Nat) : Nat := fn L i
def pb (L : List Nat) (i : Nat) : Nat := fn L (if i + 1 < L.length then i + 1 else 0)
def nk (L : List Nat) : Nat → Nat
  | 0 => 0
  | i + 1 => if pa L i / 2 = pb L i / 2 then nk L i ||| 2 ^ (pa L i / 2) else nk L i
def nq (r : Nat) (L : List Nat) : Nat → Nat → Nat
  | 0, _ => 0
  | i + 1, x => if ¬ pa L i / 2 = pb L i / 2 ∧ pa L i % 2 = r ∧ pb L i % 2 = r then (if x = pa L i / 2 then nq r L i x ||| 2 ^ (pb L i / 2) else if x = pb L i / 2 then nq r L i x ||| 2 ^ (pa L i / 2) else nq r L i x) else nq r L i x
theorem nk_lt {L : List Nat} (hL : ∀ q, fn L q < 16) : ∀ i, nk L i < 2 ^ 8
  | 0 => by unfold nk; omega
  | i + 1 => by
    have h1 := nk_lt hL i
    have h2 := hL i
    unfold nk
    split
    · exact Nat.or_lt_two_pow h1 (Nat.pow_lt_pow_right (by omega) (by unfold pa; omega))
    · exact h1
theorem nq_lt {r : Nat} {L : List Nat} (hL : ∀ q, fn L q < 16) : ∀ i x, nq r L i x < 2 ^ 8
  | 0, x => by unfold nq; omega
  | i + 1, x => by
    have h1 := nq_lt (r := r) hL i x
    have h2 := hL i
    have h3 := hL (if i + 1 < L.length then i + 1 else 0)
    unfold nq
    split
    · split
      · exact Nat.or_lt_two_pow h1 (Nat.pow_lt_pow_right (by omega) (by unfold pb; omega))
      · split
        · exact Nat.or_lt_two_pow h1 (Nat.pow_lt_pow_right (by omega) (by unfold pa; omega))
        · exact h1
    · exact h1
theorem and_1 : ∀ a, a < 16 → ∀ b, b < 16 → iand (iand (a : Nat) (b : Nat)) 1 = if a % 2 = 1 ∧ b % 2 = 1 then 1 else 0 := by decide +kernel
theorem or_1 : ∀ a, a < 16 → ∀ b, b < 16 → iand (ior (a : Nat) (b : Nat)) 1 = if a % 2 = 0 ∧ b % 2 = 0 then 0 else 1 := by decide +kernel
