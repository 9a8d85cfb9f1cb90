/-! the reference: what is left, moves -/
def ofd (p q : Nat) : Nat := if p < q then q - p else p - q
def bes (n p q : Nat) : Bool := decide (ofd p q = 1 ∨ ofd p q + 1 = n)
theorem m_isBeside (n p q : Nat) (h : HH) (hn : h 40 0 25 = (n : Int)) (hp : p ≤ 16) (hq : q ≤ 16) (h16 : n ≤ 16) : SpI mX11_isBeside [vr 40 0, vi p, vi q] h (b01 (bes n p q)) h := by
  refine Sp.of rfl kX11_isBeside (Nat.le_of_ble_eq_true rfl) ?_
  have T15 : ∀ v : Int, v = (ofd p q : Int) → AW mX11_isBeside (fun r g => r = some (vi (b01 (bes n p q))) ∧ g = h) 15 [(3, vi v), (0, vr 40 0), (1, vi p), (2, vi q)] [] h := by
    intro v hv
    have h3 : ofd p q ≤ 16 := by unfold ofd; split <;> omega
    have e : bes n p q = decide (ofd p q = 1 ∨ ofd p q + 1 = n) := rfl
    generalize ofd p q = x at *
    subst hv
    refine u_iloadn (k := 11) rfl rfl ?_
    refine a_iconst (k := 12) rfl ?_
    refine a_icmp_eq (k := 13) rfl (fun c_17 => ?_) (fun c_17 => ?_)
    · refine a_iconst (k := 20) rfl ?_
      refine a_goto (k := 21) rfl ?_
      refine a_zreturn (k := 23) rfl rfl (by omega) ?_
      first | exact ⟨by rw [e, decide_eq_true (by omega)]; rfl, rfl⟩ | exact ⟨by rw [e, decide_eq_false (by omega)]; rfl, rfl⟩
    · refine u_iloadn (k := 14) rfl rfl ?_
      refine u_aloadn (k := 15) rfl rfl ?_
      refine a_geti (k := 16) rfl fRX11_179 rfl rfl ?_
      refine a_iconst (k := 17) rfl ?_
      rw [hn]
      refine u_isub (k := 18) rfl (by omega) ?_
      refine a_icmp_ne (k := 19) rfl (fun c_27 => ?_) (fun c_27 => ?_)
      · refine a_iconst (k := 22) rfl ?_
        refine a_zreturn (k := 23) rfl rfl (by omega) ?_
        first | exact ⟨by rw [e, decide_eq_true (by omega)]; rfl, rfl⟩ | exact ⟨by rw [e, decide_eq_false (by omega)]; rfl, rfl⟩
      · refine a_iconst (k := 20) rfl ?_
        refine a_goto (k := 21) rfl ?_
        refine a_zreturn (k := 23) rfl rfl (by omega) ?_
        first | exact ⟨by rw [e, decide_eq_true (by omega)]; rfl, rfl⟩ | exact ⟨by rw [e, decide_eq_false (by omega)]; rfl, rfl⟩
  refine u_iloadn (k := 0) rfl rfl ?_
  refine u_iloadn (k := 1) rfl rfl ?_
  refine a_icmp_ge (k := 2) rfl (fun c_2 => ?_) (fun c_2 => ?_)
  · refine u_iloadn (k := 7) rfl rfl ?_
    refine u_iloadn (k := 8) rfl rfl ?_
    refine u_isub (k := 9) rfl (by omega) ?_
    refine a_istoren (k := 10) (lv' := [(3, _), (0, _), (1, _), (2, _)]) rfl (Nat.le_of_ble_eq_true rfl) rfl ?_
    first | exact T15 _ (by unfold ofd; rw [if_pos (by omega)]; omega) | exact T15 _ (by unfold ofd; rw [if_neg (by omega)]; omega)
  · refine u_iloadn (k := 3) rfl rfl ?_
    refine u_iloadn (k := 4) rfl rfl ?_
    refine u_isub (k := 5) rfl (by omega) ?_
    refine a_goto (k := 6) rfl ?_
    refine a_istoren (k := 10) (lv' := [(3, _), (0, _), (1, _), (2, _)]) rfl (Nat.le_of_ble_eq_true rfl) rfl ?_
    first | exact T15 _ (by unfold ofd; rw [if_pos (by omega)]; omega) | exact T15 _ (by unfold ofd; rw [if_neg (by omega)]; omega)
def imv (n : Nat) (o u : Nat → Nat) (S H c d : Nat) : Bool := (S.testBit c && S.testBit d && !H.testBit c && !H.testBit d) && (if c = d then bes n (o c) (u c) else bes n (o c) (o d) && bes n (u c) (u d))
def OU (o u : Nat → Nat) (x : Nat) (h : HH) : Prop := h 56 0 x = (o x : Int) ∧ h 57 0 x = (u x : Int) ∧ o x ≤ 16 ∧ u x ≤ 16
theorem m_isMove (n S H c d : Nat) (o u : Nat → Nat) (h : HH) (hn : h 40 0 25 = (n : Int)) (h16 : n ≤ 16) (hS : S < 2 ^ 31) (hH : H < 2 ^ 31) (hc : c < 8) (hd : d < 8) (hoc : S.testBit c = true → OU o u c h) (hod : S.testBit d = true → OU o u d h) :
    SpI mX11_isMove [vr 40 0, vi S, vi H, vi c, vi d] h (b01 (imv n o u S H c d)) h := by
  refine Sp.of rfl kX11_isMove (Nat.le_of_ble_eq_true rfl) ?_
  have T41 : ∀ v : Int, v = b01 (S.testBit c && S.testBit d && !H.testBit c && !H.testBit d) → AW mX11_isMove (fun r g => r = some (vi (b01 (imv n o u S H c d))) ∧ g = h) 41 [(5, vi v), (0, vr 40 0), (1, vi S), (2, vi H), (3, vi c), (4, vi d)] [] h := by
    intro v hv
    subst hv
    by_cases hcan : (S.testBit c && S.testBit d && !H.testBit c && !H.testBit d) = true
    · have e : imv n o u S H c d = (if c = d then bes n (o c) (u c) else bes n (o c) (o d) && bes n (u c) (u d)) := by unfold imv; rw [hcan, Bool.true_and]
      have hsc : S.testBit c = true := by revert hcan; cases S.testBit c <;> simp
      have hsd : S.testBit d = true := by revert hcan; cases S.testBit d <;> simp
      obtain ⟨c1, c2, c3, c4⟩ := hoc hsc
      obtain ⟨d1, d2, d3, d4⟩ := hod hsd
      rw [hcan]
      refine u_iload (k := 20) rfl rfl ?_
      refine a_if_eq (k := 21) rfl (fun c_43 => ?_) (fun c_43 => ?_)
      · exact absurd c_43 (by decide)
      · refine u_iloadn (k := 22) rfl rfl ?_
        refine u_iload (k := 23) rfl rfl ?_
        refine a_icmp_ne (k := 24) rfl (fun c_49 => ?_) (fun c_49 => ?_)
        · refine u_aloadn (k := 37) rfl rfl ?_
          refine u_aloadn (k := 38) rfl rfl ?_
          refine a_getr (k := 39) rfl fRX11_60 rfl rfl rfl ?_
          refine u_iloadn (k := 40) rfl rfl ?_
          refine u_iald (k := 41) rfl rfl rfl (by omega) ?_
          refine u_aloadn (k := 42) rfl rfl ?_
          refine a_getr (k := 43) rfl fRX11_60 rfl rfl rfl ?_
          refine u_iload (k := 44) rfl rfl ?_
          refine u_iald (k := 45) rfl rfl rfl (by omega) ?_
          rw [c1, d1]
          refine i_virt2 (M' := mX11_isBeside) (k := 46) rfl lRX11_182 oX11_isBeside vX11_isBeside ⟨Nat.le_of_ble_eq_true rfl, Nat.le_of_ble_eq_true rfl⟩ rfl rfl (Nat.le_of_ble_eq_true rfl) (m_isBeside n _ _ h hn c3 d3 h16) ?_
          refine a_if_eq (k := 47) rfl (fun c_91 => ?_) (fun c_91 => ?_)
          · have e91 := b01_f c_91
            refine a_iconst (k := 61) rfl ?_
            refine a_zreturn (k := 62) rfl rfl (by omega) ?_
            first
              | exact ⟨by rw [e, if_pos (by omega), e68]; rfl, rfl⟩
              | exact ⟨by rw [e, if_neg (by omega), e91, e111]; rfl, rfl⟩
              | exact ⟨by rw [e, if_neg (by omega), e91]; rfl, rfl⟩
          · have e91 := b01_t c_91
            refine u_aloadn (k := 48) rfl rfl ?_
            refine u_aloadn (k := 49) rfl rfl ?_
            refine a_getr (k := 50) rfl fRX11_63 rfl rfl rfl ?_
            refine u_iloadn (k := 51) rfl rfl ?_
            refine u_iald (k := 52) rfl rfl rfl (by omega) ?_
            refine u_aloadn (k := 53) rfl rfl ?_
            refine a_getr (k := 54) rfl fRX11_63 rfl rfl rfl ?_
            refine u_iload (k := 55) rfl rfl ?_
            refine u_iald (k := 56) rfl rfl rfl (by omega) ?_
            rw [c2, d2]
            refine i_virt2 (M' := mX11_isBeside) (k := 57) rfl lRX11_182 oX11_isBeside vX11_isBeside ⟨Nat.le_of_ble_eq_true rfl, Nat.le_of_ble_eq_true rfl⟩ rfl rfl (Nat.le_of_ble_eq_true rfl) (m_isBeside n _ _ h hn c4 d4 h16) ?_
            refine a_if_eq (k := 58) rfl (fun c_111 => ?_) (fun c_111 => ?_)
            · have e111 := b01_f c_111
              refine a_iconst (k := 61) rfl ?_
              refine a_zreturn (k := 62) rfl rfl (by omega) ?_
              first
                | exact ⟨by rw [e, if_pos (by omega), e68]; rfl, rfl⟩
                | exact ⟨by rw [e, if_neg (by omega), e91, e111]; rfl, rfl⟩
                | exact ⟨by rw [e, if_neg (by omega), e91]; rfl, rfl⟩
            · have e111 := b01_t c_111
              refine a_iconst (k := 59) rfl ?_
              refine a_goto (k := 60) rfl ?_
              refine a_zreturn (k := 62) rfl rfl (by omega) ?_
              first
                | exact ⟨by rw [e, if_pos (by omega), e68]; rfl, rfl⟩
                | exact ⟨by rw [e, if_neg (by omega), e91, e111]; rfl, rfl⟩
                | exact ⟨by rw [e, if_neg (by omega), e91]; rfl, rfl⟩
        · refine u_aloadn (k := 25) rfl rfl ?_
          refine u_aloadn (k := 26) rfl rfl ?_
          refine a_getr (k := 27) rfl fRX11_60 rfl rfl rfl ?_
          refine u_iloadn (k := 28) rfl rfl ?_
          refine u_iald (k := 29) rfl rfl rfl (by omega) ?_
          refine u_aloadn (k := 30) rfl rfl ?_
          refine a_getr (k := 31) rfl fRX11_63 rfl rfl rfl ?_
          refine u_iloadn (k := 32) rfl rfl ?_
          refine u_iald (k := 33) rfl rfl rfl (by omega) ?_
          rw [c1, c2]
          refine i_virt2 (M' := mX11_isBeside) (k := 34) rfl lRX11_182 oX11_isBeside vX11_isBeside ⟨Nat.le_of_ble_eq_true rfl, Nat.le_of_ble_eq_true rfl⟩ rfl rfl (Nat.le_of_ble_eq_true rfl) (m_isBeside n _ _ h hn c3 c4 h16) ?_
          refine a_if_eq (k := 35) rfl (fun c_68 => ?_) (fun c_68 => ?_)
          · have e68 := b01_f c_68
            refine a_iconst (k := 61) rfl ?_
            refine a_zreturn (k := 62) rfl rfl (by omega) ?_
            first
              | exact ⟨by rw [e, if_pos (by omega), e68]; rfl, rfl⟩
              | exact ⟨by rw [e, if_neg (by omega), e91, e111]; rfl, rfl⟩
              | exact ⟨by rw [e, if_neg (by omega), e91]; rfl, rfl⟩
          · have e68 := b01_t c_68
            refine a_goto (k := 36) rfl ?_
            refine a_iconst (k := 59) rfl ?_
            refine a_goto (k := 60) rfl ?_
            refine a_zreturn (k := 62) rfl rfl (by omega) ?_
            first
              | exact ⟨by rw [e, if_pos (by omega), e68]; rfl, rfl⟩
              | exact ⟨by rw [e, if_neg (by omega), e91, e111]; rfl, rfl⟩
              | exact ⟨by rw [e, if_neg (by omega), e91]; rfl, rfl⟩
    · have hcan : (S.testBit c && S.testBit d && !H.testBit c && !H.testBit d) = false := by revert hcan; cases (S.testBit c && S.testBit d && !H.testBit c && !H.testBit d) <;> simp
      have e : imv n o u S H c d = false := by unfold imv; rw [hcan, Bool.false_and]
      rw [hcan]
      refine u_iload (k := 20) rfl rfl ?_
      refine a_if_eq (k := 21) rfl (fun c_43 => ?_) (fun c_43 => ?_)
      · refine a_iconst (k := 61) rfl ?_
        refine a_zreturn (k := 62) rfl rfl (by omega) ?_
        exact ⟨by rw [e]; rfl, rfl⟩
      · exact absurd rfl c_43
  refine u_iloadn (k := 0) rfl rfl ?_
  refine u_iloadn (k := 1) rfl rfl ?_
  refine i_stat2 (M' := mX11_has) (k := 2) rfl lRX11_172 oX11_has vX11_has ⟨Nat.le_of_ble_eq_true rfl, Nat.le_of_ble_eq_true rfl⟩ rfl (Nat.le_of_ble_eq_true rfl) (m_has S c h hS (by omega)) ?_
  refine a_if_eq (k := 3) rfl (fun c_5 => ?_) (fun c_5 => ?_)
  · have e5 := b01_f (b := S.testBit c) c_5
    refine a_iconst (k := 18) rfl ?_
    refine a_istore (k := 19) (lv' := [(5, _), (0, _), (1, _), (2, _), (3, _), (4, _)]) rfl (Nat.le_of_ble_eq_true rfl) rfl ?_
    first
      | exact T41 _ (by rw [e5, e14, e22, e31]; rfl)
      | exact T41 _ (by rw [e5, e14, e22]; rfl)
      | exact T41 _ (by rw [e5, e14]; rfl)
      | exact T41 _ (by rw [e5]; rfl)
  · have e5 := b01_t (b := S.testBit c) c_5
    refine u_iloadn (k := 4) rfl rfl ?_
    refine u_iload (k := 5) rfl rfl ?_
    refine i_stat2 (M' := mX11_has) (k := 6) rfl lRX11_172 oX11_has vX11_has ⟨Nat.le_of_ble_eq_true rfl, Nat.le_of_ble_eq_true rfl⟩ rfl (Nat.le_of_ble_eq_true rfl) (m_has S d h hS (by omega)) ?_
    refine a_if_eq (k := 7) rfl (fun c_14 => ?_) (fun c_14 => ?_)
    · have e14 := b01_f (b := S.testBit d) c_14
      refine a_iconst (k := 18) rfl ?_
      refine a_istore (k := 19) (lv' := [(5, _), (0, _), (1, _), (2, _), (3, _), (4, _)]) rfl (Nat.le_of_ble_eq_true rfl) rfl ?_
      first
        | exact T41 _ (by rw [e5, e14, e22, e31]; rfl)
        | exact T41 _ (by rw [e5, e14, e22]; rfl)
        | exact T41 _ (by rw [e5, e14]; rfl)
        | exact T41 _ (by rw [e5]; rfl)
    · have e14 := b01_t (b := S.testBit d) c_14
      refine u_iloadn (k := 8) rfl rfl ?_
      refine u_iloadn (k := 9) rfl rfl ?_
      refine i_stat2 (M' := mX11_has) (k := 10) rfl lRX11_172 oX11_has vX11_has ⟨Nat.le_of_ble_eq_true rfl, Nat.le_of_ble_eq_true rfl⟩ rfl (Nat.le_of_ble_eq_true rfl) (m_has H c h hH (by omega)) ?_
      refine a_if_ne (k := 11) rfl (fun c_22 => ?_) (fun c_22 => ?_)
      · have e22 := b01_t (b := H.testBit c) c_22
        refine a_iconst (k := 18) rfl ?_
        refine a_istore (k := 19) (lv' := [(5, _), (0, _), (1, _), (2, _), (3, _), (4, _)]) rfl (Nat.le_of_ble_eq_true rfl) rfl ?_
        first
          | exact T41 _ (by rw [e5, e14, e22, e31]; rfl)
          | exact T41 _ (by rw [e5, e14, e22]; rfl)
          | exact T41 _ (by rw [e5, e14]; rfl)
          | exact T41 _ (by rw [e5]; rfl)
      · have e22 := b01_f (b := H.testBit c) c_22
        refine u_iloadn (k := 12) rfl rfl ?_
        refine u_iload (k := 13) rfl rfl ?_
        refine i_stat2 (M' := mX11_has) (k := 14) rfl lRX11_172 oX11_has vX11_has ⟨Nat.le_of_ble_eq_true rfl, Nat.le_of_ble_eq_true rfl⟩ rfl (Nat.le_of_ble_eq_true rfl) (m_has H d h hH (by omega)) ?_
        refine a_if_ne (k := 15) rfl (fun c_31 => ?_) (fun c_31 => ?_)
        · have e31 := b01_t (b := H.testBit d) c_31
          refine a_iconst (k := 18) rfl ?_
          refine a_istore (k := 19) (lv' := [(5, _), (0, _), (1, _), (2, _), (3, _), (4, _)]) rfl (Nat.le_of_ble_eq_true rfl) rfl ?_
          first
            | exact T41 _ (by rw [e5, e14, e22, e31]; rfl)
            | exact T41 _ (by rw [e5, e14, e22]; rfl)
            | exact T41 _ (by rw [e5, e14]; rfl)
            | exact T41 _ (by rw [e5]; rfl)
        · have e31 := b01_f (b := H.testBit d) c_31
          refine a_iconst (k := 16) rfl ?_
          refine a_goto (k := 17) rfl ?_
          refine a_istore (k := 19) (lv' := [(5, _), (0, _), (1, _), (2, _), (3, _), (4, _)]) rfl (Nat.le_of_ble_eq_true rfl) rfl ?_
          first
            | exact T41 _ (by rw [e5, e14, e22, e31]; rfl)
            | exact T41 _ (by rw [e5, e14, e22]; rfl)
            | exact T41 _ (by rw [e5, e14]; rfl)
            | exact T41 _ (by rw [e5]; rfl)
def LH (G : Nat → Nat) (S n : Nat) (g : HH) : Prop := g 40 0 25 = ((tr_ G S 0 n).length : Int) ∧ ∀ q, q < n → S.testBit (G q / 2) = true → (G q % 2 = 1 → g 56 0 (G q / 2) = ((tr_ G S 0 q).length : Int)) ∧ (G q % 2 = 0 → g 57 0 (G q / 2) = ((tr_ G S 0 q).length : Int))
theorem LH.no {G : Nat → Nat} {S q : Nat} {g : HH} (hL : LH G S q g) (hb : ¬ S.testBit (G q / 2) = true) : LH G S (q + 1) g := by
  have ek : tr_ G S 0 (q + 1) = tr_ G S 0 q := if_neg hb
  refine ⟨by rw [ek]; exact hL.1, fun z hz hz2 => ?_⟩
  by_cases he : z = q
  · subst he; exact absurd hz2 hb
  · exact hL.2 z (by omega) hz2
theorem LH.step {G : Nat → Nat} {S q t : Nat} {v : Int} {g : HH} (hL : LH G S q g) (hinj : inj2 G (q + 1)) (hb : S.testBit (G q / 2) = true) (ht : (G q % 2 = 1 ∧ t = 56) ∨ (G q % 2 = 0 ∧ t = 57)) : LH G S (q + 1) (put (put (put g t 0 (G q / 2) ((tr_ G S 0 q).length : Int)) 53 0 (tr_ G S 0 q).length v) 40 0 25 (((tr_ G S 0 q).length : Int) + 1)) := by
  have ek : tr_ G S 0 (q + 1) = tr_ G S 0 q ++ [swf G 0 q] := if_pos hb
  have el : (tr_ G S 0 (q + 1)).length = (tr_ G S 0 q).length + 1 := by rw [ek, List.length_append]; rfl
  refine ⟨by rw [put_eq, el]; omega, fun z hz hz2 => ?_⟩
  by_cases he : z = q
  · subst he
    refine ⟨fun h1 => ?_, fun h1 => ?_⟩
    · have ht : t = 56 := by omega
      subst ht
      rw [put_ne (by omega), put_ne (by omega), put_eq]
    · have ht : t = 57 := by omega
      subst ht
      rw [put_ne (by omega), put_ne (by omega), put_eq]
  · have h0 := hL.2 z (by omega) hz2
    have hne : G z ≠ G q := fun e => he (hinj z q (by omega) (by omega) e)
    refine ⟨fun h1 => ?_, fun h1 => ?_⟩
    · rw [put_ne (by omega), put_ne (by omega), put_ne (by omega)]; exact h0.1 h1
    · rw [put_ne (by omega), put_ne (by omega), put_ne (by omega)]; exact h0.2 h1
theorem inj2.le {f : Nat → Nat} {n m : Nat} (h : inj2 f n) (hm : m ≤ n) : inj2 f m := fun i k hi hk => h i k (by omega) (by omega)
theorem m_leaves (n s S : Nat) (G : Nat → Nat) (h : HH) (hn : n ≤ 16) (hS : S < 2 ^ 31) (hR : RW n G s h) (h16 : ∀ i, i < n → G i < 16) (hinj : inj2 G n) :
    Sp mX11_leaves [vr 40 0, vi S] h (fun z g => z = none ∧ LH G S n g ∧ Fr [(53, 0), (56, 0), (57, 0)] [(40, 0, 25)] h g) := by
  refine Sp.of rfl kX11_leaves (Nat.le_of_ble_eq_true rfl) ?_
  have Lp : ∀ (d q : Nat) (g : HH), q + d = n → LH G S q g → Fr [(53, 0), (56, 0), (57, 0)] [(40, 0, 25)] h g → AW mX11_leaves (fun z g => z = none ∧ LH G S n g ∧ Fr [(53, 0), (56, 0), (57, 0)] [(40, 0, 25)] h g) 7 [(2, vi q), (0, vr 40 0), (1, vi S)] [] g := by
    intro d
    induction d with
    | zero =>
      intro q g hq hL hF
      have hq : q = n := by omega
      subst hq
      have hz : g 40 0 20 = (q : Int) := by rw [hF 40 0 20 (by simp) (by simp)]; exact hR.1
      refine u_iloadn (k := 5) rfl rfl ?_
      refine u_aloadn (k := 6) rfl rfl ?_
      refine a_geti (k := 7) rfl fRX11_156 rfl rfl ?_
      rw [hz]
      refine a_icmp_ge (k := 8) rfl (fun c_12 => ?_) (fun c_12 => ?_)
      · refine a_return (k := 66) rfl rfl ?_
        exact ⟨rfl, hL, hF⟩
      · omega
    | succ d ih =>
      intro q g hq hL hF
      have hz : g 40 0 20 = (n : Int) := by rw [hF 40 0 20 (by simp) (by simp)]; exact hR.1
      have hv : g 50 0 q = (G q : Int) := by rw [hF 50 0 q (by simp) (by simp)]; exact hR.2.2 q (by omega)
      have hlt := h16 q (by omega)
      have hlen := tr_len G S 0 q
      by_cases hb : S.testBit (G q / 2) = true
      · have fin : ∀ (t : Nat) (v : Int), (G q % 2 = 1 ∧ t = 56) ∨ (G q % 2 = 0 ∧ t = 57) → AW mX11_leaves (fun z g => z = none ∧ LH G S n g ∧ Fr [(53, 0), (56, 0), (57, 0)] [(40, 0, 25)] h g) 104 [(2, vi q), (0, vr 40 0), (1, vi S)] [] (put (put (put g t 0 (G q / 2) ((tr_ G S 0 q).length : Int)) 53 0 (tr_ G S 0 q).length v) 40 0 25 (((tr_ G S 0 q).length : Int) + 1)) := by
          intro t v ht
          refine u_iinc (k := 64) (lv' := [(2, _), (0, _), (1, _)]) rfl rfl (Nat.le_of_ble_eq_true rfl) (by omega) rfl ?_
          refine a_goto (k := 65) rfl ?_
          exact ih (q + 1) _ (by omega) (hL.step (hinj.le (by omega)) hb ht) (((hF.p1 (by rcases ht with ⟨_, rfl⟩ | ⟨_, rfl⟩ <;> simp)).p1 (by simp)).p2 (by simp))
        refine u_iloadn (k := 5) rfl rfl ?_
        refine u_aloadn (k := 6) rfl rfl ?_
        refine a_geti (k := 7) rfl fRX11_156 rfl rfl ?_
        rw [hz]
        refine a_icmp_ge (k := 8) rfl (fun c_12 => ?_) (fun c_12 => ?_)
        · omega
        · refine u_iloadn (k := 9) rfl rfl ?_
          refine u_aloadn (k := 10) rfl rfl ?_
          refine a_getr (k := 11) rfl fRX11_42 rfl rfl rfl ?_
          refine u_iloadn (k := 12) rfl rfl ?_
          refine u_iald (k := 13) rfl rfl rfl (by omega) ?_
          refine a_iconst (k := 14) rfl ?_
          refine u_idiv (k := 15) rfl (by omega) (by omega) ?_
          rw [hv, show ((G q : Int) / 2) = ((G q / 2 : Nat) : Int) by omega]
          refine i_stat2 (M' := mX11_has) (k := 16) rfl lRX11_172 oX11_has vX11_has ⟨Nat.le_of_ble_eq_true rfl, Nat.le_of_ble_eq_true rfl⟩ rfl (Nat.le_of_ble_eq_true rfl) (m_has S _ g hS (by omega)) ?_
          refine a_if_eq (k := 17) rfl (fun c_27 => ?_) (fun c_27 => ?_)
          · unfold tbi at c_27; rw [hb] at c_27; simp at c_27
          · refine u_aloadn (k := 18) rfl rfl ?_
            refine a_getr (k := 19) rfl fRX11_42 rfl rfl rfl ?_
            refine u_iloadn (k := 20) rfl rfl ?_
            refine u_iald (k := 21) rfl rfl rfl (by omega) ?_
            refine a_iconst (k := 22) rfl ?_
            refine u_irem (k := 23) rfl (by omega) (by omega) ?_
            refine a_iconst (k := 24) rfl ?_
            refine a_icmp_ne (k := 25) rfl (fun c_39 => ?_) (fun c_39 => ?_)
            · refine u_aloadn (k := 38) rfl rfl ?_
              refine a_getr (k := 39) rfl fRX11_63 rfl rfl rfl ?_
              refine u_aloadn (k := 40) rfl rfl ?_
              refine a_getr (k := 41) rfl fRX11_42 rfl rfl rfl ?_
              refine u_iloadn (k := 42) rfl rfl ?_
              refine u_iald (k := 43) rfl rfl rfl (by omega) ?_
              refine a_iconst (k := 44) rfl ?_
              refine u_idiv (k := 45) rfl (by omega) (by omega) ?_
              refine u_aloadn (k := 46) rfl rfl ?_
              refine a_geti (k := 47) rfl fRX11_179 rfl rfl ?_
              rw [hL.1]
              refine u_iastx (G q / 2) (k := 48) rfl rfl rfl (by omega) (by omega) ?_
              refine u_aloadn (k := 49) rfl rfl ?_
              refine a_getr (k := 50) rfl fRX11_51 rfl rfl rfl ?_
              refine u_aloadn (k := 51) rfl rfl ?_
              refine a_geti (k := 52) rfl fRX11_179 rfl rfl ?_
              refine u_aloadn (k := 53) rfl rfl ?_
              refine a_getr (k := 54) rfl fRX11_42 rfl rfl rfl ?_
              refine u_iloadn (k := 55) rfl rfl ?_
              refine u_iald (k := 56) rfl rfl rfl (by omega) ?_
              rw [put_ne (by simp), put_ne (by simp), hL.1]
              refine u_iast (k := 57) rfl rfl rfl (by omega) ?_
              refine u_aloadn (k := 58) rfl rfl ?_
              refine a_dup (k := 59) rfl rfl ?_
              refine a_geti (k := 60) rfl fRX11_179 rfl rfl ?_
              refine a_iconst (k := 61) rfl ?_
              rw [put_ne (by simp), put_ne (by simp), hL.1]
              refine u_iadd (k := 62) rfl (by omega) ?_
              refine a_puti (k := 63) rfl pRX11_179 rfl rfl ?_
              first | exact fin 56 _ (by omega) | exact fin 57 _ (by omega)
            · refine u_aloadn (k := 26) rfl rfl ?_
              refine a_getr (k := 27) rfl fRX11_60 rfl rfl rfl ?_
              refine u_aloadn (k := 28) rfl rfl ?_
              refine a_getr (k := 29) rfl fRX11_42 rfl rfl rfl ?_
              refine u_iloadn (k := 30) rfl rfl ?_
              refine u_iald (k := 31) rfl rfl rfl (by omega) ?_
              refine a_iconst (k := 32) rfl ?_
              refine u_idiv (k := 33) rfl (by omega) (by omega) ?_
              refine u_aloadn (k := 34) rfl rfl ?_
              refine a_geti (k := 35) rfl fRX11_179 rfl rfl ?_
              rw [hL.1]
              refine u_iastx (G q / 2) (k := 36) rfl rfl rfl (by omega) (by omega) ?_
              refine a_goto (k := 37) rfl ?_
              refine u_aloadn (k := 49) rfl rfl ?_
              refine a_getr (k := 50) rfl fRX11_51 rfl rfl rfl ?_
              refine u_aloadn (k := 51) rfl rfl ?_
              refine a_geti (k := 52) rfl fRX11_179 rfl rfl ?_
              refine u_aloadn (k := 53) rfl rfl ?_
              refine a_getr (k := 54) rfl fRX11_42 rfl rfl rfl ?_
              refine u_iloadn (k := 55) rfl rfl ?_
              refine u_iald (k := 56) rfl rfl rfl (by omega) ?_
              rw [put_ne (by simp), put_ne (by simp), hL.1]
              refine u_iast (k := 57) rfl rfl rfl (by omega) ?_
              refine u_aloadn (k := 58) rfl rfl ?_
              refine a_dup (k := 59) rfl rfl ?_
              refine a_geti (k := 60) rfl fRX11_179 rfl rfl ?_
              refine a_iconst (k := 61) rfl ?_
              rw [put_ne (by simp), put_ne (by simp), hL.1]
              refine u_iadd (k := 62) rfl (by omega) ?_
              refine a_puti (k := 63) rfl pRX11_179 rfl rfl ?_
              first | exact fin 56 _ (by omega) | exact fin 57 _ (by omega)
      · refine u_iloadn (k := 5) rfl rfl ?_
        refine u_aloadn (k := 6) rfl rfl ?_
        refine a_geti (k := 7) rfl fRX11_156 rfl rfl ?_
        rw [hz]
        refine a_icmp_ge (k := 8) rfl (fun c_12 => ?_) (fun c_12 => ?_)
        · omega
        · refine u_iloadn (k := 9) rfl rfl ?_
          refine u_aloadn (k := 10) rfl rfl ?_
          refine a_getr (k := 11) rfl fRX11_42 rfl rfl rfl ?_
          refine u_iloadn (k := 12) rfl rfl ?_
          refine u_iald (k := 13) rfl rfl rfl (by omega) ?_
          refine a_iconst (k := 14) rfl ?_
          refine u_idiv (k := 15) rfl (by omega) (by omega) ?_
          rw [hv, show ((G q : Int) / 2) = ((G q / 2 : Nat) : Int) by omega]
          refine i_stat2 (M' := mX11_has) (k := 16) rfl lRX11_172 oX11_has vX11_has ⟨Nat.le_of_ble_eq_true rfl, Nat.le_of_ble_eq_true rfl⟩ rfl (Nat.le_of_ble_eq_true rfl) (m_has S _ g hS (by omega)) ?_
          refine a_if_eq (k := 17) rfl (fun c_27 => ?_) (fun c_27 => ?_)
          · refine u_iinc (k := 64) (lv' := [(2, _), (0, _), (1, _)]) rfl rfl (Nat.le_of_ble_eq_true rfl) (by omega) rfl ?_
            refine a_goto (k := 65) rfl ?_
            exact ih (q + 1) g (by omega) (hL.no hb) hF
          · unfold tbi at c_27; rw [if_neg hb] at c_27; exact absurd rfl c_27
  refine u_aloadn (k := 0) rfl rfl ?_
  refine a_iconst (k := 1) rfl ?_
  refine a_puti (k := 2) rfl pRX11_179 rfl rfl ?_
  refine a_iconst (k := 3) rfl ?_
  refine a_istoren (k := 4) (lv' := [(2, _), (0, _), (1, _)]) rfl (Nat.le_of_ble_eq_true rfl) rfl ?_
  exact Lp n 0 _ (by omega) ⟨by rw [put_eq]; rfl, fun q hq => absurd hq (Nat.not_lt_zero q)⟩ (Fr.rf.p2 (by simp))
theorem m_without (S c d : Nat) (h : HH) (hS : S < 2 ^ 31) (hc : c < 31) (hd : d < 31) : SpI mX11_without [vi S, vi c, vi d] h ((ndiff S (2 ^ c ||| 2 ^ d) : Nat) : Int) h := by
  have p1 : (2 ^ c : Nat) < 2 ^ 31 := Nat.pow_lt_pow_right (by omega) hc
  have p2 : (2 ^ d : Nat) < 2 ^ 31 := Nat.pow_lt_pow_right (by omega) hd
  have e : ndiff (ndiff S (2 ^ c)) (2 ^ d) = ndiff S (2 ^ c ||| 2 ^ d) := by
    refine Nat.eq_of_testBit_eq (fun i => ?_)
    rw [ndiff_bit, ndiff_bit, ndiff_bit, Nat.testBit_or]
    cases S.testBit i <;> cases (2 ^ c).testBit i <;> cases (2 ^ d).testBit i <;> rfl
  have hle := ndiff_le S (2 ^ c)
  refine Sp.of rfl kX11_without (Nat.le_of_ble_eq_true rfl) ?_
  refine u_iloadn (k := 0) rfl rfl ?_
  refine a_iconst (k := 1) rfl ?_
  refine u_iloadn (k := 2) rfl rfl ?_
  refine a_ishl (k := 3) rfl ?_
  rw [shl1 hc]
  refine a_iconst (k := 4) rfl ?_
  refine a_ixor (k := 5) rfl ?_
  refine a_iand (k := 6) rfl ?_
  rw [iandn_nat hS p1]
  refine a_iconst (k := 7) rfl ?_
  refine u_iloadn (k := 8) rfl rfl ?_
  refine a_ishl (k := 9) rfl ?_
  rw [shl1 hd]
  refine a_iconst (k := 10) rfl ?_
  refine a_ixor (k := 11) rfl ?_
  refine a_iand (k := 12) rfl ?_
  rw [iandn_nat (by omega) p2, e]
  refine a_ireturn (k := 13) rfl rfl ?_
  exact ⟨rfl, rfl⟩
