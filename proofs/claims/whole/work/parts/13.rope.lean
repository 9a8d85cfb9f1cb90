theorem put_apply (h : HH) (t i k : Nat) (v : Int) (t' i' k' : Nat) : put h t i k v t' i' k' = if t' = t ∧ i' = i ∧ k' = k then v else h t' i' k' := rfl
theorem Sp.ofF {M : MD} {av : List AV} {h : HH} {P : Option AV → HH → Prop} (hy : plainFor M.1 = true) (hok : okc M.2.1 (tb M) = true) (hn : aw_ av ≤ M.2.2.1) (kk : AW M P 0 (la 0 av) [] h) : Sp M av h P := by
  intro hr hw l G sz
  refine va_MetF (cc := M.2.1) (maxL := M.2.2.1) (ret := M.2.2.2.1) hy rfl ?_
  intro p e s m args below meth c s₁ B hml hv
  obtain ⟨rfl, hsz, hK, hP, hD0⟩ := hv
  subst hsz
  have hts := atoms_spec (ws := wq M) B.pre
  have hown : s.vm.findClass M.1.cls = some m.cls := findClass_of_methodNamed B.named
  have hl := lv_entry (av.map (cv G.2.2)) (n := M.2.2.1) (by rw [aw_len]; exact hn)
  rw [lg_entry_eq]
  generalize (lg_sl (av.map (cv G.2.2)) ++ List.replicate (M.2.2.1 - (lg_sl (av.map (cv G.2.2))).length) Slot.unset).toArray = ls at hl ⊢
  rw [la_cv] at hl
  exact kk l p e s m _ below meth c G (va_A (ws_ G h) s.heap.size) ⟨B.exec, B.bytes, B.returns, hml, hown, hts, B.notSynchronized, hK, hok, fun q hq => Or.inr hq⟩ (la_rg av 0 hr) (fun v hv => by cases hv) hw s.heap [] ls hP hD0.self va_S.rf hl
theorem x_begin (q : Nat) (h : HH) : SpV mX4_begin [vr 1 q] h (put (put h 1 q 1 0) 1 q 2 0) := by
  refine Sp.of rfl kX4_begin (Nat.le_of_ble_eq_true rfl) ?_
  refine u_aloadn (k := 0) rfl rfl ?_
  refine a_iconst (k := 1) rfl ?_
  refine a_puti (k := 2) rfl pRX4_15 rfl rfl ?_
  refine u_aloadn (k := 3) rfl rfl ?_
  refine a_iconst (k := 4) rfl ?_
  refine a_puti (k := 5) rfl pRX4_19 rfl rfl ?_
  refine a_return (k := 6) rfl rfl ?_
  exact ⟨rfl, rfl⟩
theorem x_knows (q K x : Nat) (h : HH) (hK : h 1 q 1 = (K : Int)) (hk : K < 2 ^ 31) (hx : x < 32) : SpI mX4_knows [vr 1 q, vi x] h (tbi K x) h := by
  refine Sp.of rfl kX4_knows (Nat.le_of_ble_eq_true rfl) ?_
  have e01 := tbi_01 K x
  refine u_aloadn (k := 0) rfl rfl ?_
  refine a_geti (k := 1) rfl fRX4_15 rfl rfl ?_
  rw [hK]
  refine u_iloadn (k := 2) rfl rfl ?_
  refine i_statN2 (M' := mX10_isIn) (k := 3) rfl lRX4_22 oX10_isIn vX10_isIn ⟨Nat.le_of_ble_eq_true rfl, Nat.le_of_ble_eq_true rfl⟩ rfl (Nat.le_of_ble_eq_true rfl) (x_isIn K x h hk hx) ?_
  refine a_zreturn (k := 4) rfl rfl (by omega) ?_
  exact ⟨rfl, rfl⟩
theorem x_numOld (q K x : Nat) (h : HH) (hK : h 1 q 1 = (K : Int)) (hk : K < 2 ^ 31) (hx : x < 26) (hb : K.testBit x = true) : SpI mX4_numberOf [vr 1 q, vi x] h (h 2 q x) h := by
  refine Sp.of rfl kX4_numberOf (Nat.le_of_ble_eq_true rfl) ?_
  have e1 : tbi K x = 1 := by simp [tbi, hb]
  refine u_iloadn (k := 0) rfl rfl ?_
  refine a_if_lt (k := 1) rfl (fun c_1 => ?_) (fun c_1 => ?_)
  · omega
  · refine u_iloadn (k := 2) rfl rfl ?_
    refine a_bipush (k := 3) rfl ?_
    refine a_icmp_lt (k := 4) rfl (fun c_7 => ?_) (fun c_7 => ?_)
    · refine u_aloadn (k := 7) rfl rfl ?_
      refine u_iloadn (k := 8) rfl rfl ?_
      refine i_virt1 (M' := mX4_knows) (k := 9) rfl lRX4_26 oX4_knows vX4_knows ⟨Nat.le_of_ble_eq_true rfl, Nat.le_of_ble_eq_true rfl⟩ rfl rfl (Nat.le_of_ble_eq_true rfl) (x_knows q K x h hK hk (by omega)) ?_
      refine a_if_ne (k := 10) rfl (fun c_17 => ?_) (fun c_17 => ?_)
      · refine u_aloadn (k := 31) rfl rfl ?_
        refine a_getr (k := 32) rfl fRX4_9 rfl rfl rfl ?_
        refine u_iloadn (k := 33) rfl rfl ?_
        refine u_iald (k := 34) rfl rfl rfl (by omega) ?_
        refine a_ireturn (k := 35) rfl rfl ?_
        exact ⟨rfl, rfl⟩
      · omega
    · omega
theorem x_numNew (q K x n : Nat) (h : HH) (hK : h 1 q 1 = (K : Int)) (hk : K < 2 ^ 31) (hx : x < 26) (hb : K.testBit x = false) (hn : h 1 q 2 = (n : Int)) (hn2 : n < 1000) : SpI mX4_numberOf [vr 1 q, vi x] h n (put (put (put h 1 q 1 ((K ||| 2 ^ x : Nat) : Int)) 2 q x n) 1 q 2 ((n + 1 : Nat) : Int)) := by
  refine Sp.of rfl kX4_numberOf (Nat.le_of_ble_eq_true rfl) ?_
  have e1 : tbi K x = 0 := by simp [tbi, hb]
  have e2 : ior (h 1 q 1) (ishl 1 x) = ((K ||| 2 ^ x : Nat) : Int) := by
    rw [hK, shl1 (by omega), ior_nat hk (Nat.pow_lt_pow_right (by omega) (by omega))]
  refine u_iloadn (k := 0) rfl rfl ?_
  refine a_if_lt (k := 1) rfl (fun c_1 => ?_) (fun c_1 => ?_)
  · omega
  · refine u_iloadn (k := 2) rfl rfl ?_
    refine a_bipush (k := 3) rfl ?_
    refine a_icmp_lt (k := 4) rfl (fun c_7 => ?_) (fun c_7 => ?_)
    · refine u_aloadn (k := 7) rfl rfl ?_
      refine u_iloadn (k := 8) rfl rfl ?_
      refine i_virt1 (M' := mX4_knows) (k := 9) rfl lRX4_26 oX4_knows vX4_knows ⟨Nat.le_of_ble_eq_true rfl, Nat.le_of_ble_eq_true rfl⟩ rfl rfl (Nat.le_of_ble_eq_true rfl) (x_knows q K x h hK hk (by omega)) ?_
      refine a_if_ne (k := 10) rfl (fun c_17 => ?_) (fun c_17 => ?_)
      · omega
      · refine u_aloadn (k := 11) rfl rfl ?_
        refine a_dup (k := 12) rfl rfl ?_
        refine a_geti (k := 13) rfl fRX4_15 rfl rfl ?_
        refine a_iconst (k := 14) rfl ?_
        refine u_iloadn (k := 15) rfl rfl ?_
        refine a_ishl (k := 16) rfl ?_
        refine a_ior (k := 17) rfl ?_
        rw [e2]
        refine a_puti (k := 18) rfl pRX4_15 rfl rfl ?_
        refine u_aloadn (k := 19) rfl rfl ?_
        refine a_getr (k := 20) rfl fRX4_9 rfl rfl rfl ?_
        refine u_iloadn (k := 21) rfl rfl ?_
        refine u_aloadn (k := 22) rfl rfl ?_
        refine a_geti (k := 23) rfl fRX4_19 rfl rfl ?_
        simp only [put_apply, Nat.reduceEqDiff, reduceIte, false_and, and_false, true_and, and_true, and_self, if_false, if_true, not_false_eq_true, not_true_eq_false, ne_eq]
        rw [hn]
        refine u_iast (k := 24) rfl rfl rfl (by omega) ?_
        refine u_aloadn (k := 25) rfl rfl ?_
        refine a_dup (k := 26) rfl rfl ?_
        refine a_geti (k := 27) rfl fRX4_19 rfl rfl ?_
        simp only [put_apply, Nat.reduceEqDiff, reduceIte, false_and, and_false, true_and, and_true, and_self, if_false, if_true, not_false_eq_true, not_true_eq_false, ne_eq]
        rw [hn]
        refine a_iconst (k := 28) rfl ?_
        refine u_iadd (k := 29) rfl (by omega) ?_
        refine a_puti (k := 30) rfl pRX4_19 rfl rfl ?_
        refine u_aloadn (k := 31) rfl rfl ?_
        refine a_getr (k := 32) rfl fRX4_9 rfl rfl rfl ?_
        refine u_iloadn (k := 33) rfl rfl ?_
        refine u_iald (k := 34) rfl rfl rfl (by omega) ?_
        simp only [put_apply, Nat.reduceEqDiff, reduceIte, false_and, and_false, true_and, and_true, and_self, if_false, if_true, not_false_eq_true, not_true_eq_false, ne_eq]
        refine a_ireturn (k := 35) rfl rfl ?_
        exact ⟨rfl, rfl⟩
    · omega
theorem x_every (j c : Nat) (h : HH) (hc : h 5 j 2 = (c : Int)) (h8 : c ≤ 8) : SpI mX6_everyCrossing [vr 5 j] h ((2 ^ c - 1 : Nat) : Int) h := by
  refine Sp.of rfl kX6_everyCrossing (Nat.le_of_ble_eq_true rfl) ?_
  have hp : 0 < 2 ^ c := Nat.pow_pos (by omega)
  have hq : 2 ^ c ≤ 2 ^ 8 := Nat.pow_le_pow_right (by omega) h8
  refine a_iconst (k := 0) rfl ?_
  refine u_aloadn (k := 1) rfl rfl ?_
  refine a_geti (k := 2) rfl fRX6_19 rfl rfl ?_
  refine a_ishl (k := 3) rfl ?_
  rw [hc, shl1 (by omega)]
  refine a_iconst (k := 4) rfl ?_
  refine u_isub (k := 5) rfl (by omega) ?_
  refine a_ireturn (k := 6) rfl rfl ?_
  exact ⟨by congr 2; omega, rfl⟩
theorem x_has (j c : Nat) (d : Int) (h : HH) (hc : h 5 j 2 = (c : Int)) : SpI mX6_has [vr 5 j, vi d] h (if 0 ≤ d ∧ d < c then 1 else 0) h := by
  refine Sp.of rfl kX6_has (Nat.le_of_ble_eq_true rfl) ?_
  refine u_iloadn (k := 0) rfl rfl ?_
  refine a_if_lt (k := 1) rfl (fun c_1 => ?_) (fun c_1 => ?_)
  · refine a_iconst (k := 8) rfl ?_
    refine a_zreturn (k := 9) rfl rfl (by omega) ?_
    exact ⟨by congr 2; split <;> omega, rfl⟩
  · refine u_iloadn (k := 2) rfl rfl ?_
    refine u_aloadn (k := 3) rfl rfl ?_
    refine a_geti (k := 4) rfl fRX6_19 rfl rfl ?_
    refine a_icmp_ge (k := 5) rfl (fun c_9 => ?_) (fun c_9 => ?_)
    · refine a_iconst (k := 8) rfl ?_
      refine a_zreturn (k := 9) rfl rfl (by omega) ?_
      exact ⟨by congr 2; split <;> omega, rfl⟩
    · refine a_iconst (k := 6) rfl ?_
      refine a_goto (k := 7) rfl ?_
      refine a_zreturn (k := 9) rfl rfl (by omega) ?_
      exact ⟨by congr 2; split <;> omega, rfl⟩
theorem x_passAt (j c : Nat) (d : Int) (h : HH) (hc : h 5 j 2 = (c : Int)) (h8 : c ≤ 8) : SpI mX6_passAt [vr 5 j, vi d] h (if 0 ≤ d ∧ d < 2 * c then h 6 j d.toNat else -1) h := by
  refine Sp.of rfl kX6_passAt (Nat.le_of_ble_eq_true rfl) ?_
  refine u_iloadn (k := 0) rfl rfl ?_
  refine a_if_lt (k := 1) rfl (fun c_1 => ?_) (fun c_1 => ?_)
  · refine a_iconst (k := 11) rfl ?_
    refine a_ireturn (k := 12) rfl rfl ?_
    exact ⟨by congr 2; split <;> omega, rfl⟩
  · refine u_iloadn (k := 2) rfl rfl ?_
    refine u_aloadn (k := 3) rfl rfl ?_
    refine i_virt0 (M' := mX6_length) (k := 4) rfl lRX6_23 oX6_length vX6_length ⟨Nat.le_of_ble_eq_true rfl, Nat.le_of_ble_eq_true rfl⟩ rfl rfl (Nat.le_of_ble_eq_true rfl) (x_length j c h hc h8) ?_
    refine a_icmp_ge (k := 5) rfl (fun c_9 => ?_) (fun c_9 => ?_)
    · refine a_iconst (k := 11) rfl ?_
      refine a_ireturn (k := 12) rfl rfl ?_
      exact ⟨by congr 2; split <;> omega, rfl⟩
    · refine u_aloadn (k := 6) rfl rfl ?_
      refine a_getr (k := 7) rfl fRX6_15 rfl rfl rfl ?_
      refine u_iloadn (k := 8) rfl rfl ?_
      refine a_iald (k := 9) rfl rfl rfl (by omega) (by omega) ?_
      refine a_goto (k := 10) rfl ?_
      refine a_ireturn (k := 12) rfl rfl ?_
      exact ⟨by congr 2; split <;> omega, rfl⟩
theorem x_makePlain (j : Nat) (h : HH) : SpV mX6_makePlain [vr 5 j] h (put (put h 5 j 2 0) 5 j 3 0) := by
  refine Sp.of rfl kX6_makePlain (Nat.le_of_ble_eq_true rfl) ?_
  refine u_aloadn (k := 0) rfl rfl ?_
  refine a_iconst (k := 1) rfl ?_
  refine a_puti (k := 2) rfl pRX6_19 rfl rfl ?_
  refine u_aloadn (k := 3) rfl rfl ?_
  refine a_iconst (k := 4) rfl ?_
  refine a_puti (k := 5) rfl pRX6_27 rfl rfl ?_
  refine a_return (k := 6) rfl rfl ?_
  exact ⟨rfl, rfl⟩
theorem x_min (a b : Int) (h : HH) : SpI mJ9_min_7cf53 [vi a, vi b] h (if a ≤ b then a else b) h := by
  refine Sp.ofF (by decide +kernel) kJ9_min_7cf53 (Nat.le_of_ble_eq_true rfl) ?_
  refine u_iloadn (k := 0) rfl rfl ?_
  refine u_iloadn (k := 1) rfl rfl ?_
  refine a_icmp_gt (k := 2) rfl (fun c_2 => ?_) (fun c_2 => ?_)
  · refine u_iloadn (k := 5) rfl rfl ?_
    refine a_ireturn (k := 6) rfl rfl ?_
    exact ⟨by congr 2; split <;> omega, rfl⟩
  · refine u_iloadn (k := 3) rfl rfl ?_
    refine a_goto (k := 4) rfl ?_
    refine a_ireturn (k := 6) rfl rfl ?_
    exact ⟨by congr 2; split <;> omega, rfl⟩
theorem x_max (a b : Int) (h : HH) : SpI mJ9_max_7cf53 [vi a, vi b] h (if b ≤ a then a else b) h := by
  refine Sp.ofF (by decide +kernel) kJ9_max_7cf53 (Nat.le_of_ble_eq_true rfl) ?_
  refine u_iloadn (k := 0) rfl rfl ?_
  refine u_iloadn (k := 1) rfl rfl ?_
  refine a_icmp_lt (k := 2) rfl (fun c_2 => ?_) (fun c_2 => ?_)
  · refine u_iloadn (k := 5) rfl rfl ?_
    refine a_ireturn (k := 6) rfl rfl ?_
    exact ⟨by congr 2; split <;> omega, rfl⟩
  · refine u_iloadn (k := 3) rfl rfl ?_
    refine a_goto (k := 4) rfl ?_
    refine a_ireturn (k := 6) rfl rfl ?_
    exact ⟨by congr 2; split <;> omega, rfl⟩
theorem x_takenBy (a b : Nat) (h : HH) (ha : a < 8) (hb : b < 8) : SpI mX10_takenBy [vi ((10 * a + b : Nat) : Int)] h ((2 ^ a ||| 2 ^ b : Nat) : Int) h := by
  refine Sp.of rfl kX10_takenBy (Nat.le_of_ble_eq_true rfl) ?_
  have e1 : ((10 * a + b : Nat) : Int) / 10 = (a : Int) := by omega
  have e2 : ((10 * a + b : Nat) : Int) % 10 = (b : Int) := by omega
  refine u_iloadn (k := 0) rfl rfl ?_
  refine a_if_ge (k := 1) rfl (fun c_1 => ?_) (fun c_1 => ?_)
  · refine a_iconst (k := 4) rfl ?_
    refine u_iloadn (k := 5) rfl rfl ?_
    refine a_bipush (k := 6) rfl ?_
    refine u_idiv (k := 7) rfl (by omega) (by omega) ?_
    refine a_ishl (k := 8) rfl ?_
    refine a_iconst (k := 9) rfl ?_
    refine u_iloadn (k := 10) rfl rfl ?_
    refine a_bipush (k := 11) rfl ?_
    refine u_irem (k := 12) rfl (by omega) (by omega) ?_
    refine a_ishl (k := 13) rfl ?_
    rw [e1, e2, shl1 (by omega), shl1 (by omega)]
    refine a_ior (k := 14) rfl ?_
    rw [ior_nat (Nat.pow_lt_pow_right (by omega) (by omega)) (Nat.pow_lt_pow_right (by omega) (by omega))]
    refine a_ireturn (k := 15) rfl rfl ?_
    exact ⟨rfl, rfl⟩
  · omega
