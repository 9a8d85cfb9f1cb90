/-! the list of moves: c up to d, by a test p -/
def mrow (p : Nat → Nat → Bool) (c n : Nat) : List Nat := ((List.range n).filter (fun d => decide (c ≤ d) && p c d)).map (fun d => 10 * c + d)
def mpre (p : Nat → Nat → Bool) : Nat → List Nat
  | 0 => []
  | c + 1 => mpre p c ++ mrow p c 8
theorem mrow_s (p : Nat → Nat → Bool) (c n : Nat) : mrow p c (n + 1) = mrow p c n ++ (if c ≤ n ∧ p c n = true then [10 * c + n] else []) := by
  unfold mrow
  rw [List.range_succ, List.filter_append, List.map_append]
  congr 1
  by_cases h1 : c ≤ n <;> by_cases h2 : p c n = true <;> simp [h1, h2]
theorem mrow_0 (p : Nat → Nat → Bool) (c : Nat) : ∀ n, n ≤ c → mrow p c n = []
  | 0, _ => rfl
  | n + 1, h => by
    rw [mrow_s, mrow_0 p c n (by omega), if_neg (by omega)]
    rfl
theorem mrow_len (p : Nat → Nat → Bool) (c : Nat) : ∀ n, (mrow p c n).length ≤ n - c
  | 0 => by simp [mrow]
  | n + 1 => by
    rw [mrow_s, List.length_append]
    have := mrow_len p c n
    split
    · simp; omega
    · simp; omega
theorem mrow_stay (p : Nat → Nat → Bool) (c : Nat) : ∀ (k n : Nat), (∀ d, n ≤ d → d < n + k → p c d = false) → mrow p c (n + k) = mrow p c n
  | 0, n, _ => rfl
  | k + 1, n, h => by
    rw [← Nat.add_assoc, mrow_s, mrow_stay p c k n (fun d h1 h2 => h d h1 (by omega)), if_neg (fun z => by rw [h (n + k) (by omega) (by omega)] at z; cases z.2)]
    simp
def tri : Nat → Nat
  | 0 => 0
  | c + 1 => tri c + (8 - c)
theorem mpre_len (p : Nat → Nat → Bool) : ∀ c, (mpre p c).length ≤ tri c
  | 0 => Nat.le_refl 0
  | c + 1 => by
    have h1 := mpre_len p c
    have h2 := mrow_len p c 8
    unfold mpre tri
    rw [List.length_append]
    omega
theorem tri_ok : ∀ c, c < 8 → ∀ d, d < 8 → c ≤ d → tri c + (d - c) < 36 := by decide
/-- numbers that the list holds -/
def NL (l : List Nat) (g : HH) : Prop := g 17 0 5 = (l.length : Int) ∧ ∀ i, i < l.length → g 21 0 i = (fn l i : Int)
theorem NL.add {l : List Nat} {g : HH} {v : Nat} {w : Int} (h : NL l g) (hw : w = (v : Int)) : NL (l ++ [v]) (put (put g 21 0 l.length w) 17 0 5 ((l.length : Int) + 1)) := by
  subst hw
  refine ⟨by rw [put_eq]; simp, fun i hi => ?_⟩
  rw [List.length_append] at hi
  simp at hi
  rw [put_ne (by simp)]
  by_cases he : i = l.length
  · subst he; rw [put_eq, fn_app2]
  · rw [put_ne (by simp [he]), fn_app1 (by omega)]; exact h.2 i (by omega)
/-- which moves there are, by curls k, overs o, unders u, with free crossings F -/
def mvp (k : Nat) (o u : Nat → Nat) (F : Nat) (c d : Nat) : Bool := F.testBit c && ((k &&& 2 ^ c ||| o c &&& u c) &&& F).testBit d
theorem mpre_no (p : Nat → Nat → Bool) (c : Nat) (h : ∀ d, p c d = false) : mpre p (c + 1) = mpre p c := by
  have := mrow_stay p c 8 0 (fun d _ _ => h d)
  rw [mpre, show (8 : Nat) = 0 + 8 from rfl, this, mrow_0 p c 0 (by omega), List.append_nil]
theorem x_listMoves (k : Nat) (o u : Nat → Nat) (F : Nat) (h : HH) (hk : h 17 0 4 = (k : Int)) (ho : ∀ x, x < 8 → h 19 0 x = (o x : Int)) (hu : ∀ x, x < 8 → h 20 0 x = (u x : Int)) (k8 : k < 2 ^ 8) (o8 : ∀ x, o x < 2 ^ 8) (u8 : ∀ x, u x < 2 ^ 8) (hF2 : F < 2 ^ 31) :
    Sp mX3_listMoves [vr 17 0, vi F] h (fun r g => r = none ∧ NL (mpre (mvp k o u F) 8) g ∧ Fr [(21, 0)] [(17, 0, 5)] h g) := by
  refine Sp.of rfl kX3_listMoves (Nat.le_of_ble_eq_true rfl) ?_
  have A : ∀ (m c : Nat) (g : HH), c + m = 8 → NL (mpre (mvp k o u F) c) g → Fr [(21, 0)] [(17, 0, 5)] h g → AW mX3_listMoves (fun r g => r = none ∧ NL (mpre (mvp k o u F) 8) g ∧ Fr [(21, 0)] [(17, 0, 5)] h g) 7 [(0, vr 17 0), (1, vi F), (2, vi c)] [] g := by
    intro m
    induction m with
    | zero =>
      intro c g hc hN hF
      have hc : c = 8 := by omega
      subst hc
      refine u_iloadn (k := 5) rfl rfl ?_
      refine a_bipush (k := 6) rfl ?_
      refine a_icmp_ge (k := 7) rfl (fun c_10 => ?_) (fun c_10 => ?_)
      · refine a_return (k := 69) rfl rfl ?_
        exact ⟨rfl, hN, hF⟩
      · omega
    | succ m ih =>
      intro c g hc hN hF
      have e0 : tbi F c = if F.testBit c then 1 else 0 := rfl
      have pw : 2 ^ c < 2 ^ 31 := Nat.pow_lt_pow_right (by omega) (by omega)
      have epar : iand (ior (iand (k : Int) ((2 ^ c : Nat) : Int)) (iand (o c : Int) (u c : Int))) (F : Int) = (((k &&& 2 ^ c ||| o c &&& u c) &&& F : Nat) : Int) := by
        have l1 : k &&& 2 ^ c < 2 ^ 31 := Nat.lt_of_le_of_lt Nat.and_le_left (by omega)
        have l2 : o c &&& u c < 2 ^ 31 := Nat.lt_of_le_of_lt Nat.and_le_left (by have := o8 c; omega)
        rw [iand_nat (by omega), iand_nat (by have := o8 c; omega), ior_nat l1 l2, iand_nat (Nat.or_lt_two_pow l1 l2)]
      have lpar : (k &&& 2 ^ c ||| o c &&& u c) &&& F < 2 ^ 8 := Nat.lt_of_le_of_lt Nat.and_le_left (Nat.or_lt_two_pow (Nat.lt_of_le_of_lt Nat.and_le_left k8) (Nat.lt_of_le_of_lt Nat.and_le_left (o8 c)))
      have hk' : g 17 0 4 = (k : Int) := (hF 17 0 4 (by simp) (by simp)).trans hk
      have ho' : g 19 0 c = (o c : Int) := (hF 19 0 c (by simp) (by simp)).trans (ho c (by omega))
      have hu' : g 20 0 c = (u c : Int) := (hF 20 0 c (by simp) (by simp)).trans (hu c (by omega))
      generalize hpar : (k &&& 2 ^ c ||| o c &&& u c) &&& F = pr at epar lpar
      have B : F.testBit c = true → ∀ (m2 d : Nat) (g : HH), d + m2 = 8 → c ≤ d → NL (mpre (mvp k o u F) c ++ mrow (mvp k o u F) c d) g → Fr [(21, 0)] [(17, 0, 5)] h g → AW mX3_listMoves (fun r g => r = none ∧ NL (mpre (mvp k o u F) 8) g ∧ Fr [(21, 0)] [(17, 0, 5)] h g) 52 [(0, vr 17 0), (1, vi F), (2, vi c), (3, vi pr), (4, vi d)] [] g := by
        intro hFc m2
        have hpd : ∀ d, mvp k o u F c d = pr.testBit d := fun d => by simp [mvp, hFc, hpar]
        induction m2 with
        | zero =>
          intro d g hd hcd hN hF
          have hd : d = 8 := by omega
          subst hd
          refine u_iload (k := 34) rfl rfl ?_
          refine a_bipush (k := 35) rfl ?_
          refine a_icmp_ge (k := 36) rfl (fun c_56 => ?_) (fun c_56 => ?_)
          · refine u_iinc (k := 67) (lv' := [(2, _), (0, _), (1, _), (3, _), (4, _)]) rfl rfl (Nat.le_of_ble_eq_true rfl) (by omega) rfl ?_
            refine a_goto (k := 68) rfl ?_
            refine a_sub [1, 2, 0] rfl ?_
            exact ih (c + 1) g (by omega) hN hF
          · omega
        | succ m2 ih2 =>
          intro d g hd hcd hN hF
          have e1 : tbi pr d = if pr.testBit d then 1 else 0 := rfl
          have hml := mpre_len (mvp k o u F) c
          have hrl := mrow_len (mvp k o u F) c d
          have htr := tri_ok c (by omega) d (by omega) hcd
          have hlen : (mpre (mvp k o u F) c ++ mrow (mvp k o u F) c d).length < 36 := by rw [List.length_append]; omega
          have hN1 := hN.1
          refine u_iload (k := 34) rfl rfl ?_
          refine a_bipush (k := 35) rfl ?_
          refine a_icmp_ge (k := 36) rfl (fun c_56 => ?_) (fun c_56 => ?_)
          · omega
          · refine u_iloadn (k := 37) rfl rfl ?_
            refine u_iload (k := 38) rfl rfl ?_
            refine a_ishr (k := 39) rfl ?_
            rw [ishr_nat (by omega) (by omega)]
            refine a_if_eq (k := 40) rfl (fun c_63 => ?_) (fun c_63 => ?_)
            · refine u_iinc (k := 67) (lv' := [(2, _), (0, _), (1, _), (3, _), (4, _)]) rfl rfl (Nat.le_of_ble_eq_true rfl) (by omega) rfl ?_
              refine a_goto (k := 68) rfl ?_
              refine a_sub [1, 2, 0] rfl ?_
              refine ih (c + 1) g (by omega) ?_ hF
              have hz : pr >>> d = 0 := by omega
              have := mrow_stay (mvp k o u F) c (8 - d) d (fun d2 h1 h2 => by
                rw [hpd, show d2 = d + (d2 - d) by omega, ← Nat.testBit_shiftRight, hz, Nat.zero_testBit])
              rw [show d + (8 - d) = 8 by omega] at this
              rw [mpre, this]
              exact hN
            · refine u_iloadn (k := 41) rfl rfl ?_
              refine u_iload (k := 42) rfl rfl ?_
              refine i_statN2 (M' := mX10_isIn) (k := 43) rfl lRX3_68 oX10_isIn vX10_isIn ⟨Nat.le_of_ble_eq_true rfl, Nat.le_of_ble_eq_true rfl⟩ rfl (Nat.le_of_ble_eq_true rfl) (x_isIn pr d g (by omega) (by omega)) ?_
              refine a_if_eq (k := 44) rfl (fun c_72 => ?_) (fun c_72 => ?_)
              · have hb : ¬ pr.testBit d = true := by rw [e1] at c_72; split at c_72 <;> simp_all
                have er : mrow (mvp k o u F) c (d + 1) = mrow (mvp k o u F) c d := by rw [mrow_s, if_neg (fun z => hb (by rw [← hpd]; exact z.2)), List.append_nil]
                refine u_iinc (k := 65) (lv' := [(4, _), (0, _), (1, _), (2, _), (3, _)]) rfl rfl (Nat.le_of_ble_eq_true rfl) (by omega) rfl ?_
                refine a_goto (k := 66) rfl ?_
                refine a_sub [1, 2, 3, 4, 0] rfl ?_
                first
                  | exact ih2 (d + 1) g (by omega) (by omega) (by rw [er]; exact hN) hF
                  | exact ih2 (d + 1) _ (by omega) (by omega) (by rw [er, ← List.append_assoc]; exact hN.add (by push_cast; rfl)) ((hF.p1 (by simp)).p2 (by simp))
              · have hb : pr.testBit d = true := by rw [e1] at c_72; split at c_72 <;> simp_all
                have er : mrow (mvp k o u F) c (d + 1) = mrow (mvp k o u F) c d ++ [10 * c + d] := by rw [mrow_s, if_pos ⟨hcd, by rw [hpd]; exact hb⟩]
                refine u_aloadn (k := 45) rfl rfl ?_
                refine a_geti (k := 46) rfl fRX3_49 rfl rfl ?_
                refine a_bipush (k := 47) rfl ?_
                refine a_icmp_ge (k := 48) rfl (fun c_81 => ?_) (fun c_81 => ?_)
                · omega
                · refine u_aloadn (k := 49) rfl rfl ?_
                  refine a_getr (k := 50) rfl fRX3_21 rfl rfl rfl ?_
                  refine u_aloadn (k := 51) rfl rfl ?_
                  refine a_geti (k := 52) rfl fRX3_49 rfl rfl ?_
                  rw [hN1]
                  refine a_bipush (k := 53) rfl ?_
                  refine u_iloadn (k := 54) rfl rfl ?_
                  refine u_imul (k := 55) rfl (by omega) ?_
                  refine u_iload (k := 56) rfl rfl ?_
                  refine u_iadd (k := 57) rfl (by omega) ?_
                  refine u_iast (k := 58) rfl rfl rfl (by omega) ?_
                  refine u_aloadn (k := 59) rfl rfl ?_
                  refine a_dup (k := 60) rfl rfl ?_
                  refine a_geti (k := 61) rfl fRX3_49 rfl rfl ?_
                  rw [put_ne (by simp), hN1]
                  refine a_iconst (k := 62) rfl ?_
                  refine u_iadd (k := 63) rfl (by omega) ?_
                  refine a_puti (k := 64) rfl pRX3_49 rfl rfl ?_
                  refine u_iinc (k := 65) (lv' := [(4, _), (0, _), (1, _), (2, _), (3, _)]) rfl rfl (Nat.le_of_ble_eq_true rfl) (by omega) rfl ?_
                  refine a_goto (k := 66) rfl ?_
                  refine a_sub [1, 2, 3, 4, 0] rfl ?_
                  first
                    | exact ih2 (d + 1) g (by omega) (by omega) (by rw [er]; exact hN) hF
                    | exact ih2 (d + 1) _ (by omega) (by omega) (by rw [er, ← List.append_assoc]; exact hN.add (by push_cast; rfl)) ((hF.p1 (by simp)).p2 (by simp))
      refine u_iloadn (k := 5) rfl rfl ?_
      refine a_bipush (k := 6) rfl ?_
      refine a_icmp_ge (k := 7) rfl (fun c_10 => ?_) (fun c_10 => ?_)
      · omega
      · refine u_iloadn (k := 8) rfl rfl ?_
        refine u_iloadn (k := 9) rfl rfl ?_
        refine i_statN2 (M' := mX10_isIn) (k := 10) rfl lRX3_68 oX10_isIn vX10_isIn ⟨Nat.le_of_ble_eq_true rfl, Nat.le_of_ble_eq_true rfl⟩ rfl (Nat.le_of_ble_eq_true rfl) (x_isIn F c g hF2 (by omega)) ?_
        refine a_if_ne (k := 11) rfl (fun c_18 => ?_) (fun c_18 => ?_)
        · have hb : F.testBit c = true := by rw [e0] at c_18; split at c_18 <;> simp_all
          refine u_aloadn (k := 13) rfl rfl ?_
          refine a_geti (k := 14) rfl fRX3_52 rfl rfl ?_
          refine a_iconst (k := 15) rfl ?_
          refine u_iloadn (k := 16) rfl rfl ?_
          refine a_ishl (k := 17) rfl ?_
          rw [hk', shl1 (by omega)]
          refine a_iand (k := 18) rfl ?_
          refine u_aloadn (k := 19) rfl rfl ?_
          refine a_getr (k := 20) rfl fRX3_15 rfl rfl rfl ?_
          refine u_iloadn (k := 21) rfl rfl ?_
          refine u_iald (k := 22) rfl rfl rfl (by omega) ?_
          rw [ho']
          refine u_aloadn (k := 23) rfl rfl ?_
          refine a_getr (k := 24) rfl fRX3_18 rfl rfl rfl ?_
          refine u_iloadn (k := 25) rfl rfl ?_
          refine u_iald (k := 26) rfl rfl rfl (by omega) ?_
          rw [hu']
          refine a_iand (k := 27) rfl ?_
          refine a_ior (k := 28) rfl ?_
          refine u_iloadn (k := 29) rfl rfl ?_
          refine a_iand (k := 30) rfl ?_
          rw [epar]
          refine a_istoren (k := 31) (lv' := [(3, _), (0, _), (1, _), (2, _)]) rfl (Nat.le_of_ble_eq_true rfl) rfl ?_
          refine u_iloadn (k := 32) rfl rfl ?_
          refine a_istore (k := 33) (lv' := [(4, _), (3, _), (0, _), (1, _), (2, _)]) rfl (Nat.le_of_ble_eq_true rfl) rfl ?_
          refine a_sub [2, 3, 4, 1, 0] rfl ?_
          exact B hb (8 - c) c g (by omega) (Nat.le_refl c) (by rw [mrow_0 _ _ _ (Nat.le_refl c), List.append_nil]; exact hN) hF
        · have hb : ¬ F.testBit c = true := by rw [e0] at c_18; split at c_18 <;> simp_all
          refine a_goto (k := 12) rfl ?_
          refine u_iinc (k := 67) (lv' := [(2, _), (0, _), (1, _)]) rfl rfl (Nat.le_of_ble_eq_true rfl) (by omega) rfl ?_
          refine a_goto (k := 68) rfl ?_
          refine a_sub [1, 2, 0] rfl ?_
          exact ih (c + 1) g (by omega) (by rw [mpre_no _ _ (fun d => by simp [mvp, hb])]; exact hN) hF
  refine u_aloadn (k := 0) rfl rfl ?_
  refine a_iconst (k := 1) rfl ?_
  refine a_puti (k := 2) rfl pRX3_49 rfl rfl ?_
  refine a_iconst (k := 3) rfl ?_
  refine a_istoren (k := 4) (lv' := [(2, _), (0, _), (1, _)]) rfl (Nat.le_of_ble_eq_true rfl) rfl ?_
  refine a_sub [1, 2, 0] rfl ?_
  exact A 8 0 _ (by omega) ⟨by rw [put_eq]; rfl, fun i hi => absurd hi (Nat.not_lt_zero i)⟩ (Fr.rf.p2 (by simp))
