theorem n_salt {B : Nat} {σ : AS} {h : HH} (hW : WA B σ) (hB : B < 1000000) (hM : MR σ h) (k d : Int) (o : Bool) : Sp mX11_salt [vr 40 0, vi k, vi d, vi (b01 o)] h (MP (o_salt σ k d o) h) := by
  rcases kcase k σ.now.1 with hk | ⟨q, rfl, hk⟩
  · rw [show o_salt σ k d o = _ from on_no hk]
    refine Sp.of rfl kX11_salt (Nat.le_of_ble_eq_true rfl) ?_
    refine u_aloadn (k := 0) rfl rfl ?_
    refine u_iloadn (k := 1) rfl rfl ?_
    refine i_virt1 (M' := mX11_isOne) (k := 2) rfl lRX11_206 oX11_isOne vX11_isOne ⟨Nat.le_of_ble_eq_true rfl, Nat.le_of_ble_eq_true rfl⟩ rfl rfl (Nat.le_of_ble_eq_true rfl) (hM.one hW k) ?_
    rw [one_no hk]
    refine a_if_eq (k := 3) rfl (fun c_5 => ?_) (fun c_5 => ?_)
    · refine a_ldc (k := 9) rfl nRX11_210 ⟨by decide, by decide⟩ ?_
      refine a_ireturn (k := 10) rfl rfl ?_
      exact ⟨rfl, hM, FMo.rf⟩
    · exact absurd rfl c_5
  · have h5 := hW.now.1
    have hWr := hW.now.2.2 q hk
    have h8 := hWr.1
    have hs := (p8 h8).2
    have hs2 := hWr.2.1
    have hgB := hW.now.2.1
    have hg0 : h 41 0 0 = (σ.now.2.1 : Int) := hM.now.1
    have hsl : h 41 0 (2 + 18 * q + 1) = ((σ.now.2.2 q).2.1 : Int) := (hM.slot hk).2.1
    rw [show o_salt σ (q : Int) d o = _ from on_yes hk]
    by_cases hd : 0 ≤ d ∧ d < ((σ.now.2.2 q).1 : Int)
    · obtain ⟨e, rfl⟩ : ∃ e : Nat, d = (e : Int) := ⟨d.toNat, by omega⟩
      have he : (2 ^ e : Nat) < 2 ^ 31 := Nat.pow_lt_pow_right (by omega) (by omega)
      rw [if_pos hd, Int.toNat_natCast]
      have T61 : ¬ ((σ.now.2.2 q).2.1.testBit e = o ∨ (o = true ∧ σ.now.2.1 = 0)) → AW mX11_salt (MP (((if o then σ.now.2.1 - 1 else σ.now.2.1 + 1 : Nat) : Int), σ.rem.setG q ((σ.now.2.2 q).1, (σ.now.2.2 q).2.1 ^^^ 2 ^ e, (σ.now.2.2 q).2.2) (if o then σ.now.2.1 - 1 else σ.now.2.1 + 1)) h) 61 [(4, vi ((2 + 18 * q + 1 : Nat) : Int)), (0, vr 40 0), (1, vi q), (2, vi e), (3, vi (b01 o))] [] h := by
        intro hno
        have hgo : o = true → 0 < σ.now.2.1 := fun z => by
          have : ¬ σ.now.2.1 = 0 := fun y => hno (Or.inr ⟨z, y⟩)
          omega
        have fin : ∀ g : HH, MR σ.rem g → FMo h g → ∀ v : Int, v = ((if o then σ.now.2.1 - 1 else σ.now.2.1 + 1 : Nat) : Int) → MP (((if o then σ.now.2.1 - 1 else σ.now.2.1 + 1 : Nat) : Int), σ.rem.setG q ((σ.now.2.2 q).1, (σ.now.2.2 q).2.1 ^^^ 2 ^ e, (σ.now.2.2 q).2.2) (if o then σ.now.2.1 - 1 else σ.now.2.1 + 1)) h (some (vi (put (put g 41 0 (2 + 18 * q + 1) (((σ.now.2.2 q).2.1 ^^^ 2 ^ e : Nat) : Int)) 41 0 0 v 41 0 0))) (put (put g 41 0 (2 + 18 * q + 1) (((σ.now.2.2 q).2.1 ^^^ 2 ^ e : Nat) : Int)) 41 0 0 v) := by
          intro g hM1 hfm v hv
          have k41 : ∀ z, z ≠ 0 → z ≠ 2 + 18 * q + 1 → put (put g 41 0 (2 + 18 * q + 1) (((σ.now.2.2 q).2.1 ^^^ 2 ^ e : Nat) : Int)) 41 0 0 v 41 0 z = g 41 0 z := fun z h1 h2 => by rw [put_ne (by omega), put_ne (by omega)]
          have hhist : ∀ i, i < σ.rem.cnt → TM (σ.rem.cnt - i) (σ.rem.hist i) (put (put g 41 0 (2 + 18 * q + 1) (((σ.now.2.2 q).2.1 ^^^ 2 ^ e : Nat) : Int)) 41 0 0 v) := fun i hi => (hM1.hist i hi).keep (hW.rem.hist i hi) (fun z h1 h2 => k41 z (by omega) (by omega))
          refine ⟨by rw [put_eq, hv], ⟨⟨by rw [put_eq, hv]; rfl, by rw [k41 _ (by omega) (by omega)]; exact hM1.now.2.1, fun k' hk' => ?_⟩, ?_, ?_, fun i hi => ?_, ?_, ?_, ?_, fun i hi => hhist i hi, ?_, fun i hi => ?_, fun i hi => ?_, fun i hi hi2 => ⟨(hM1.img i hi hi2).1.keep (hW.rem.img i hi hi2).1 (fun z h1 h2 => k41 z (by omega) (by omega)), ?_⟩⟩, (hfm.pt (by omega)).pt (by omega)⟩
          · have hk' : k' < σ.now.1 := hk'
            have hold := hM1.slot (k := k') hk'
            show RM (92 * 0 + 2 + 18 * k') (un σ.now.2.2 q _ k') _
            rw [show 92 * 0 + 2 + 18 * k' = 2 + 18 * k' by omega]
            by_cases hkq : k' = q
            · subst hkq
              rw [un_eq]
              exact ⟨by rw [k41 _ (by omega) (by omega)]; exact hold.1, by rw [put_ne (by omega), put_eq], fun i hi => by rw [k41 _ (by omega) (by omega)]; exact hold.2.2 i hi⟩
            · rw [un_ne _ _ hkq]
              exact hold.keep (hW.now.2.2 k' hk').1 (fun z h1 h2 => k41 z (by omega) (by omega))
          · simp only [put_apply, Nat.reduceEqDiff, reduceIte, false_and, and_false, true_and, and_true, and_self, if_false, if_true, not_false_eq_true, not_true_eq_false, ne_eq]; exact hM1.laid
          · simp only [put_apply, Nat.reduceEqDiff, reduceIte, false_and, and_false, true_and, and_true, and_self, if_false, if_true, not_false_eq_true, not_true_eq_false, ne_eq]; exact hM1.L
          · simp only [put_apply, Nat.reduceEqDiff, reduceIte, false_and, and_false, true_and, and_true, and_self, if_false, if_true, not_false_eq_true, not_true_eq_false, ne_eq]; exact hM1.tx i hi
          · simp only [put_apply, Nat.reduceEqDiff, reduceIte, false_and, and_false, true_and, and_true, and_self, if_false, if_true, not_false_eq_true, not_true_eq_false, ne_eq]; exact hM1.fault
          · simp only [put_apply, Nat.reduceEqDiff, reduceIte, false_and, and_false, true_and, and_true, and_self, if_false, if_true, not_false_eq_true, not_true_eq_false, ne_eq]; exact hM1.drawn
          · simp only [put_apply, Nat.reduceEqDiff, reduceIte, false_and, and_false, true_and, and_true, and_self, if_false, if_true, not_false_eq_true, not_true_eq_false, ne_eq]; exact hM1.cnt
          · simp only [put_apply, Nat.reduceEqDiff, reduceIte, false_and, and_false, true_and, and_true, and_self, if_false, if_true, not_false_eq_true, not_true_eq_false, ne_eq]; exact hM1.ents
          · simp only [put_apply, Nat.reduceEqDiff, reduceIte, false_and, and_false, true_and, and_true, and_self, if_false, if_true, not_false_eq_true, not_true_eq_false, ne_eq]; exact hM1.book i hi
          · simp only [put_apply, Nat.reduceEqDiff, reduceIte, false_and, and_false, true_and, and_true, and_self, if_false, if_true, not_false_eq_true, not_true_eq_false, ne_eq]; exact hM1.kept i hi
          · simp only [put_apply, Nat.reduceEqDiff, reduceIte, false_and, and_false, true_and, and_true, and_self, if_false, if_true, not_false_eq_true, not_true_eq_false, ne_eq]; exact (hM1.img i hi hi2).2
        refine u_aloadn (k := 34) rfl rfl ?_
        refine uv_virt0 (M' := mX11_known) (k := 35) rfl lRX11_280 oX11_known vX11_known ⟨Nat.le_of_ble_eq_true rfl, Nat.le_of_ble_eq_true rfl⟩ rfl rfl (Nat.le_of_ble_eq_true rfl) (m_known hW hM) (by intro r g hp; exact hp.1) (fun g hg => ?_)
        obtain ⟨-, hM1, hF1⟩ := hg
        refine u_aloadn (k := 36) rfl rfl ?_
        refine a_getr (k := 37) rfl fRX11_7 rfl rfl rfl ?_
        refine u_iload (k := 38) rfl rfl ?_
        refine a_dup2 (k := 39) rfl rfl rfl ?_
        refine u_iald (k := 40) rfl rfl rfl (by omega) ?_
        rw [show g 41 0 (2 + 18 * q + 1) = ((σ.now.2.2 q).2.1 : Int) from (hM1.slot hk).2.1]
        refine a_iconst (k := 41) rfl ?_
        refine u_iloadn (k := 42) rfl rfl ?_
        refine a_ishl (k := 43) rfl ?_
        rw [shl1 (by omega)]
        refine a_ixor (k := 44) rfl ?_
        rw [ixor_nat (by omega) he]
        refine u_iast (k := 45) rfl rfl rfl (by omega) ?_
        refine u_aloadn (k := 46) rfl rfl ?_
        refine a_getr (k := 47) rfl fRX11_7 rfl rfl rfl ?_
        refine a_iconst (k := 48) rfl ?_
        refine a_dup2 (k := 49) rfl rfl rfl ?_
        refine u_ialdx 0 (k := 50) rfl rfl rfl (by omega) (by omega) ?_
        rw [put_ne (by omega), show g 41 0 0 = (σ.now.2.1 : Int) from hM1.now.1]
        refine u_iloadn (k := 51) rfl rfl ?_
        refine a_if_eq (k := 52) rfl (fun c_86 => ?_) (fun c_86 => ?_)
        · refine a_iconst (k := 55) rfl ?_
          refine u_iadd (k := 56) rfl (by omega) ?_
          refine u_iastx 0 (k := 57) rfl rfl rfl (by omega) (by omega) ?_
          refine u_aloadn (k := 58) rfl rfl ?_
          refine a_getr (k := 59) rfl fRX11_7 rfl rfl rfl ?_
          refine a_iconst (k := 60) rfl ?_
          refine u_ialdx 0 (k := 61) rfl rfl rfl (by omega) (by omega) ?_
          refine a_ireturn (k := 62) rfl rfl ?_
          refine fin g hM1 (FK.mo hF1) _ ?_
          cases o
          · first
            | (exfalso; revert c_86; decide)
            | (simp; done)
            | (simp; omega)
          · have := hgo rfl
            first
            | (exfalso; revert c_86; decide)
            | (simp; done)
            | (simp; omega)
        · refine a_iconst (k := 53) rfl ?_
          refine a_goto (k := 54) rfl ?_
          refine u_iadd (k := 56) rfl (by omega) ?_
          refine u_iastx 0 (k := 57) rfl rfl rfl (by omega) (by omega) ?_
          refine u_aloadn (k := 58) rfl rfl ?_
          refine a_getr (k := 59) rfl fRX11_7 rfl rfl rfl ?_
          refine a_iconst (k := 60) rfl ?_
          refine u_ialdx 0 (k := 61) rfl rfl rfl (by omega) (by omega) ?_
          refine a_ireturn (k := 62) rfl rfl ?_
          refine fin g hM1 (FK.mo hF1) _ ?_
          cases o
          · first
            | (exfalso; revert c_86; decide)
            | (simp; done)
            | (simp; omega)
          · have := hgo rfl
            first
            | (exfalso; revert c_86; decide)
            | (simp; done)
            | (simp; omega)
      refine Sp.of rfl kX11_salt (Nat.le_of_ble_eq_true rfl) ?_
      refine u_aloadn (k := 0) rfl rfl ?_
      refine u_iloadn (k := 1) rfl rfl ?_
      refine i_virt1 (M' := mX11_isOne) (k := 2) rfl lRX11_206 oX11_isOne vX11_isOne ⟨Nat.le_of_ble_eq_true rfl, Nat.le_of_ble_eq_true rfl⟩ rfl rfl (Nat.le_of_ble_eq_true rfl) (hM.one hW q) ?_
      rw [one_yes hk]
      refine a_if_eq (k := 3) rfl (fun c_5 => ?_) (fun c_5 => ?_)
      · exact absurd c_5 (by decide)
      · refine u_aloadn (k := 4) rfl rfl ?_
        refine u_iloadn (k := 5) rfl rfl ?_
        refine u_iloadn (k := 6) rfl rfl ?_
        refine i_virt2 (M' := mX11_isCrossing) (k := 7) rfl lRX11_264 oX11_isCrossing vX11_isCrossing ⟨Nat.le_of_ble_eq_true rfl, Nat.le_of_ble_eq_true rfl⟩ rfl rfl (Nat.le_of_ble_eq_true rfl) (m_isCrossing q e _ h (by omega) h8 (hM.slot hk)) ?_
        rw [decide_eq_true hd]
        refine a_if_ne (k := 8) rfl (fun c_14 => ?_) (fun c_14 => ?_)
        · refine u_aloadn (k := 11) rfl rfl ?_
          refine u_iloadn (k := 12) rfl rfl ?_
          refine i_virt1 (M' := mX11_base) (k := 13) rfl lRX11_85 oX11_base vX11_base ⟨Nat.le_of_ble_eq_true rfl, Nat.le_of_ble_eq_true rfl⟩ rfl rfl (Nat.le_of_ble_eq_true rfl) (m_base q h (by omega)) ?_
          refine a_iconst (k := 14) rfl ?_
          refine u_iadd (k := 15) rfl (by omega) ?_
          refine a_istore (k := 16) (lv' := [(4, _), (0, _), (1, _), (2, _), (3, _)]) rfl (Nat.le_of_ble_eq_true rfl) rfl ?_
          rw [show (((2 + 18 * q : Nat) : Int) + 1) = ((2 + 18 * q + 1 : Nat) : Int) by omega]
          refine u_aloadn (k := 17) rfl rfl ?_
          refine a_getr (k := 18) rfl fRX11_7 rfl rfl rfl ?_
          refine u_iload (k := 19) rfl rfl ?_
          refine u_iald (k := 20) rfl rfl rfl (by omega) ?_
          rw [hsl]
          refine u_iloadn (k := 21) rfl rfl ?_
          refine i_stat2 (M' := mX11_has) (k := 22) rfl lRX11_172 oX11_has vX11_has ⟨Nat.le_of_ble_eq_true rfl, Nat.le_of_ble_eq_true rfl⟩ rfl (Nat.le_of_ble_eq_true rfl) (m_has _ e h (by omega) (by omega)) ?_
          refine u_iloadn (k := 23) rfl rfl ?_
          refine a_icmp_eq (k := 24) rfl (fun c_41 => ?_) (fun c_41 => ?_)
          · rw [if_pos (Or.inl (by unfold tbi b01 at c_41; revert c_41; cases (σ.now.2.2 q).2.1.testBit e <;> cases o <;> simp))]
            refine a_ldcw (k := 32) rfl nRX11_279 ⟨by decide, by decide⟩ ?_
            refine a_ireturn (k := 33) rfl rfl ?_
            exact ⟨rfl, hM, FMo.rf⟩
          · refine u_iloadn (k := 25) rfl rfl ?_
            refine a_if_eq (k := 26) rfl (fun c_45 => ?_) (fun c_45 => ?_)
            · have hno : ¬ ((σ.now.2.2 q).2.1.testBit e = o ∨ (o = true ∧ σ.now.2.1 = 0)) := fun z => z.elim (fun y => c_41 (by unfold tbi b01; rw [y])) (fun y => by rw [b01_f c_45] at y; cases y.1)
              rw [if_neg hno]
              exact T61 hno
            · refine u_aloadn (k := 27) rfl rfl ?_
              refine a_getr (k := 28) rfl fRX11_7 rfl rfl rfl ?_
              refine a_iconst (k := 29) rfl ?_
              refine u_ialdx 0 (k := 30) rfl rfl rfl (by omega) (by omega) ?_
              rw [hg0]
              refine a_if_ne (k := 31) rfl (fun c_54 => ?_) (fun c_54 => ?_)
              · have hno : ¬ ((σ.now.2.2 q).2.1.testBit e = o ∨ (o = true ∧ σ.now.2.1 = 0)) := fun z => z.elim (fun y => c_41 (by unfold tbi b01; rw [y])) (fun y => by omega)
                rw [if_neg hno]
                exact T61 hno
              · rw [if_pos (Or.inr ⟨b01_t c_45, by omega⟩)]
                refine a_ldcw (k := 32) rfl nRX11_279 ⟨by decide, by decide⟩ ?_
                refine a_ireturn (k := 33) rfl rfl ?_
                exact ⟨rfl, hM, FMo.rf⟩
        · exact absurd c_14 (by decide)
    · rw [if_neg hd]
      refine Sp.of rfl kX11_salt (Nat.le_of_ble_eq_true rfl) ?_
      refine u_aloadn (k := 0) rfl rfl ?_
      refine u_iloadn (k := 1) rfl rfl ?_
      refine i_virt1 (M' := mX11_isOne) (k := 2) rfl lRX11_206 oX11_isOne vX11_isOne ⟨Nat.le_of_ble_eq_true rfl, Nat.le_of_ble_eq_true rfl⟩ rfl rfl (Nat.le_of_ble_eq_true rfl) (hM.one hW q) ?_
      rw [one_yes hk]
      refine a_if_eq (k := 3) rfl (fun c_5 => ?_) (fun c_5 => ?_)
      · exact absurd c_5 (by decide)
      · refine u_aloadn (k := 4) rfl rfl ?_
        refine u_iloadn (k := 5) rfl rfl ?_
        refine u_iloadn (k := 6) rfl rfl ?_
        refine i_virt2 (M' := mX11_isCrossing) (k := 7) rfl lRX11_264 oX11_isCrossing vX11_isCrossing ⟨Nat.le_of_ble_eq_true rfl, Nat.le_of_ble_eq_true rfl⟩ rfl rfl (Nat.le_of_ble_eq_true rfl) (m_isCrossing q d _ h (by omega) h8 (hM.slot hk)) ?_
        rw [decide_eq_false hd]
        refine a_if_ne (k := 8) rfl (fun c_14 => ?_) (fun c_14 => ?_)
        · exact absurd rfl c_14
        · refine a_ldc (k := 9) rfl nRX11_210 ⟨by decide, by decide⟩ ?_
          refine a_ireturn (k := 10) rfl rfl ?_
          exact ⟨rfl, hM, FMo.rf⟩
theorem m_inside (n s d : Nat) (F : Nat → Nat) (h : HH) (hn : n ≤ 16) (hR : RW n F s h) (h16 : ∀ i, i < n → F i < 16) : SpI mX11_inside [vr 40 0, vi d] h (lys F d n : Int) h := by
  refine Sp.of rfl kX11_inside (Nat.le_of_ble_eq_true rfl) ?_
  have Lp : ∀ (e q : Nat), q + e = n → AW mX11_inside (fun r g => r = some (vi (lys F d n : Int)) ∧ g = h) 7 [(0, vr 40 0), (1, vi d), (2, vi (lys F d q : Int)), (3, vi (b01 (lyb F d q))), (4, vi q)] [] h := by
    intro e
    induction e with
    | zero =>
      intro q hq
      refine u_iload (k := 6) rfl rfl ?_
      refine u_aloadn (k := 7) rfl rfl ?_
      refine a_geti (k := 8) rfl fRX11_156 rfl rfl ?_
      rw [hR.1]
      refine a_icmp_ge (k := 9) rfl (fun c_13 => ?_) (fun c_13 => ?_)
      · refine u_iloadn (k := 51) rfl rfl ?_
        refine a_ireturn (k := 52) rfl rfl ?_
        exact ⟨by rw [show q = n by omega], rfl⟩
      · omega
    | succ e ih =>
      intro q hq
      have hv := hR.2.2 q (by omega)
      have hlt := h16 q (by omega)
      have hl : lys F d q < 2 ^ 8 := lys_lt (fun i hi => by have := h16 i (by omega); omega)
      have hpw : 2 ^ (F q / 2) < 2 ^ 8 := Nat.pow_lt_pow_right (by omega) (by omega)
      have T43 : ∀ (b : Int), b = b01 (lyb F d (q + 1)) → AW mX11_inside (fun r g => r = some (vi (lys F d n : Int)) ∧ g = h) 43 [(3, vi b), (0, vr 40 0), (1, vi d), (2, vi (lys F d q : Int)), (4, vi q)] [] h := by
        intro b hb
        subst hb
        have fin : ∀ v : Int, v = (lys F d (q + 1) : Int) → AW mX11_inside (fun r g => r = some (vi (lys F d n : Int)) ∧ g = h) 77 [(3, vi (b01 (lyb F d (q + 1)))), (0, vr 40 0), (1, vi d), (2, vi (lys F d q : Int)), (4, vi q)] [vi v] h := by
          intro v hv
          subst hv
          refine a_istoren (k := 48) (lv' := [(2, _), (3, _), (0, _), (1, _), (4, _)]) rfl (Nat.le_of_ble_eq_true rfl) rfl ?_
          refine u_iinc (k := 49) (lv' := [(4, _), (2, _), (3, _), (0, _), (1, _)]) rfl rfl (Nat.le_of_ble_eq_true rfl) (by omega) rfl ?_
          refine a_goto (k := 50) rfl ?_
          refine a_sub [3, 4, 1, 2, 0] rfl ?_
          exact ih (q + 1) (by omega)
        have e1 : lys F d (q + 1) = if F q / 2 = d then lys F d q else if lyb F d q then lys F d q ^^^ 2 ^ (F q / 2) else lys F d q := rfl
        have e2 : lyb F d (q + 1) = if F q / 2 = d then !(lyb F d q) else lyb F d q := rfl
        have x0 : ixor (lys F d q : Int) 0 = (lys F d q : Int) := by
          have := ixor_nat (a := lys F d q) (b := 0) (by omega) (by omega)
          rw [Nat.xor_zero] at this
          exact this
        refine u_iloadn (k := 26) rfl rfl ?_
        refine u_iloadn (k := 27) rfl rfl ?_
        refine a_if_eq (k := 28) rfl (fun c_45 => ?_) (fun c_45 => ?_)
        · refine a_iconst (k := 46) rfl ?_
          refine a_ixor (k := 47) rfl ?_
          refine fin _ ?_
          first
            | (rw [x0, e1, if_pos (by omega)]; done)
            | (have hne : ¬ F q / 2 = d := by omega
               have hly := b01_t c_45
               rw [e2, if_neg hne] at hly
               rw [e1, if_neg hne, if_pos hly]
               exact ixor_nat (by omega) (by omega))
            | (rw [x0, e1]
               have hly := b01_f c_45
               by_cases hne : F q / 2 = d
               · rw [if_pos hne]
               · rw [e2, if_neg hne] at hly
                 rw [if_neg hne, if_neg (by rw [hly]; decide)])
        · refine u_aloadn (k := 29) rfl rfl ?_
          refine a_getr (k := 30) rfl fRX11_42 rfl rfl rfl ?_
          refine u_iload (k := 31) rfl rfl ?_
          refine u_iald (k := 32) rfl rfl rfl (by omega) ?_
          rw [hv]
          refine a_iconst (k := 33) rfl ?_
          refine u_idiv (k := 34) rfl (by omega) (by omega) ?_
          refine u_iloadn (k := 35) rfl rfl ?_
          refine a_icmp_eq (k := 36) rfl (fun c_58 => ?_) (fun c_58 => ?_)
          · refine a_iconst (k := 46) rfl ?_
            refine a_ixor (k := 47) rfl ?_
            refine fin _ ?_
            first
              | (rw [x0, e1, if_pos (by omega)]; done)
              | (have hne : ¬ F q / 2 = d := by omega
                 have hly := b01_t c_45
                 rw [e2, if_neg hne] at hly
                 rw [e1, if_neg hne, if_pos hly]
                 exact ixor_nat (by omega) (by omega))
              | (rw [x0, e1]
                 have hly := b01_f c_45
                 by_cases hne : F q / 2 = d
                 · rw [if_pos hne]
                 · rw [e2, if_neg hne] at hly
                   rw [if_neg hne, if_neg (by rw [hly]; decide)])
          · refine a_iconst (k := 37) rfl ?_
            refine u_aloadn (k := 38) rfl rfl ?_
            refine a_getr (k := 39) rfl fRX11_42 rfl rfl rfl ?_
            refine u_iload (k := 40) rfl rfl ?_
            refine u_iald (k := 41) rfl rfl rfl (by omega) ?_
            rw [hv]
            refine a_iconst (k := 42) rfl ?_
            refine u_idiv (k := 43) rfl (by omega) (by omega) ?_
            rw [show ((F q : Int) / 2) = ((F q / 2 : Nat) : Int) by omega]
            refine a_ishl (k := 44) rfl ?_
            rw [shl1 (by omega)]
            refine a_goto (k := 45) rfl ?_
            refine a_ixor (k := 47) rfl ?_
            refine fin _ ?_
            first
              | (rw [x0, e1, if_pos (by omega)]; done)
              | (have hne : ¬ F q / 2 = d := by omega
                 have hly := b01_t c_45
                 rw [e2, if_neg hne] at hly
                 rw [e1, if_neg hne, if_pos hly]
                 exact ixor_nat (by omega) (by omega))
              | (rw [x0, e1]
                 have hly := b01_f c_45
                 by_cases hne : F q / 2 = d
                 · rw [if_pos hne]
                 · rw [e2, if_neg hne] at hly
                   rw [if_neg hne, if_neg (by rw [hly]; decide)])
      have e2 : lyb F d (q + 1) = if F q / 2 = d then !(lyb F d q) else lyb F d q := rfl
      refine u_iload (k := 6) rfl rfl ?_
      refine u_aloadn (k := 7) rfl rfl ?_
      refine a_geti (k := 8) rfl fRX11_156 rfl rfl ?_
      rw [hR.1]
      refine a_icmp_ge (k := 9) rfl (fun c_13 => ?_) (fun c_13 => ?_)
      · omega
      · refine u_aloadn (k := 10) rfl rfl ?_
        refine a_getr (k := 11) rfl fRX11_42 rfl rfl rfl ?_
        refine u_iload (k := 12) rfl rfl ?_
        refine u_iald (k := 13) rfl rfl rfl (by omega) ?_
        rw [hv]
        refine a_iconst (k := 14) rfl ?_
        refine u_idiv (k := 15) rfl (by omega) (by omega) ?_
        refine u_iloadn (k := 16) rfl rfl ?_
        refine a_icmp_ne (k := 17) rfl (fun c_26 => ?_) (fun c_26 => ?_)
        · refine u_iloadn (k := 24) rfl rfl ?_
          refine a_istoren (k := 25) (lv' := [(3, _), (0, _), (1, _), (2, _), (4, _)]) rfl (Nat.le_of_ble_eq_true rfl) rfl ?_
          refine T43 _ ?_
          first
            | (rw [e2, if_neg (by omega)]; done)
            | (rw [e2, if_pos (by omega), b01_t c_30]; rfl)
            | (rw [e2, if_pos (by omega), b01_f c_30]; rfl)
        · refine u_iloadn (k := 18) rfl rfl ?_
          refine a_if_ne (k := 19) rfl (fun c_30 => ?_) (fun c_30 => ?_)
          · refine a_iconst (k := 22) rfl ?_
            refine a_goto (k := 23) rfl ?_
            refine a_istoren (k := 25) (lv' := [(3, _), (0, _), (1, _), (2, _), (4, _)]) rfl (Nat.le_of_ble_eq_true rfl) rfl ?_
            refine T43 _ ?_
            first
              | (rw [e2, if_neg (by omega)]; done)
              | (rw [e2, if_pos (by omega), b01_t c_30]; rfl)
              | (rw [e2, if_pos (by omega), b01_f c_30]; rfl)
          · refine a_iconst (k := 20) rfl ?_
            refine a_goto (k := 21) rfl ?_
            refine a_istoren (k := 25) (lv' := [(3, _), (0, _), (1, _), (2, _), (4, _)]) rfl (Nat.le_of_ble_eq_true rfl) rfl ?_
            refine T43 _ ?_
            first
              | (rw [e2, if_neg (by omega)]; done)
              | (rw [e2, if_pos (by omega), b01_t c_30]; rfl)
              | (rw [e2, if_pos (by omega), b01_f c_30]; rfl)
  refine a_iconst (k := 0) rfl ?_
  refine a_istoren (k := 1) (lv' := [(2, _), (0, _), (1, _)]) rfl (Nat.le_of_ble_eq_true rfl) rfl ?_
  refine a_iconst (k := 2) rfl ?_
  refine a_istoren (k := 3) (lv' := [(3, _), (2, _), (0, _), (1, _)]) rfl (Nat.le_of_ble_eq_true rfl) rfl ?_
  refine a_iconst (k := 4) rfl ?_
  refine a_istore (k := 5) (lv' := [(4, _), (3, _), (2, _), (0, _), (1, _)]) rfl (Nat.le_of_ble_eq_true rfl) rfl ?_
  refine a_sub [3, 4, 2, 1, 0] rfl ?_
  exact Lp n 0 (by omega)
theorem VT.s {c : Nat} {f : Nat → Nat} (h : VT c f) (h8 : c ≤ 8) : ∀ i, i < 2 * c → f i < 16 := fun i hi => by have := h.1 i hi; omega
theorem n_within {B : Nat} {σ : AS} {h : HH} (hW : WA B σ) (hM : MR σ h) (k d : Int) : Sp mX11_within [vr 40 0, vi k, vi d] h (MP (o_within σ k d) h) := by
  rcases kcase k σ.now.1 with hk | ⟨q, rfl, hk⟩
  · rw [show o_within σ k d = _ from on_no hk]
    refine Sp.of rfl kX11_within (Nat.le_of_ble_eq_true rfl) ?_
    refine u_aloadn (k := 0) rfl rfl ?_
    refine u_iloadn (k := 1) rfl rfl ?_
    refine i_virt1 (M' := mX11_isOne) (k := 2) rfl lRX11_206 oX11_isOne vX11_isOne ⟨Nat.le_of_ble_eq_true rfl, Nat.le_of_ble_eq_true rfl⟩ rfl rfl (Nat.le_of_ble_eq_true rfl) (hM.one hW k) ?_
    rw [one_no hk]
    refine a_if_eq (k := 3) rfl (fun c_5 => ?_) (fun c_5 => ?_)
    · refine a_ldc (k := 9) rfl nRX11_210 ⟨by decide, by decide⟩ ?_
      refine a_ireturn (k := 10) rfl rfl ?_
      exact ⟨rfl, hM, FMo.rf⟩
    · exact absurd rfl c_5
  · have h5 := hW.now.1
    have hWr := hW.now.2.2 q hk
    have h8 := hWr.1
    rw [show o_within σ (q : Int) d = _ from on_yes hk]
    by_cases hd : 0 ≤ d ∧ d < ((σ.now.2.2 q).1 : Int)
    · obtain ⟨e, rfl⟩ : ∃ e : Nat, d = (e : Int) := ⟨d.toNat, by omega⟩
      rw [if_pos hd, Int.toNat_natCast]
      refine Sp.of rfl kX11_within (Nat.le_of_ble_eq_true rfl) ?_
      refine u_aloadn (k := 0) rfl rfl ?_
      refine u_iloadn (k := 1) rfl rfl ?_
      refine i_virt1 (M' := mX11_isOne) (k := 2) rfl lRX11_206 oX11_isOne vX11_isOne ⟨Nat.le_of_ble_eq_true rfl, Nat.le_of_ble_eq_true rfl⟩ rfl rfl (Nat.le_of_ble_eq_true rfl) (hM.one hW q) ?_
      rw [one_yes hk]
      refine a_if_eq (k := 3) rfl (fun c_5 => ?_) (fun c_5 => ?_)
      · exact absurd c_5 (by decide)
      · refine u_aloadn (k := 4) rfl rfl ?_
        refine u_iloadn (k := 5) rfl rfl ?_
        refine u_iloadn (k := 6) rfl rfl ?_
        refine i_virt2 (M' := mX11_isCrossing) (k := 7) rfl lRX11_264 oX11_isCrossing vX11_isCrossing ⟨Nat.le_of_ble_eq_true rfl, Nat.le_of_ble_eq_true rfl⟩ rfl rfl (Nat.le_of_ble_eq_true rfl) (m_isCrossing q e _ h (by omega) h8 (hM.slot hk)) ?_
        rw [decide_eq_true hd]
        refine a_if_ne (k := 8) rfl (fun c_14 => ?_) (fun c_14 => ?_)
        · refine u_aloadn (k := 11) rfl rfl ?_
          refine u_iloadn (k := 12) rfl rfl ?_
          refine uv_virt1 (M' := mX11_loads) (k := 13) rfl lRX11_211 oX11_loads vX11_loads ⟨Nat.le_of_ble_eq_true rfl, Nat.le_of_ble_eq_true rfl⟩ rfl rfl (Nat.le_of_ble_eq_true rfl) (m_loads q _ h (by omega) h8 (hM.slot hk)) (by intro r g hp; exact hp.1) (fun g2 hg2 => ?_)
          obtain ⟨-, hR2, hF2⟩ := hg2
          refine u_aloadn (k := 14) rfl rfl ?_
          refine u_iloadn (k := 15) rfl rfl ?_
          refine i_virt1 (M' := mX11_inside) (k := 16) rfl lRX11_245 oX11_inside vX11_inside ⟨Nat.le_of_ble_eq_true rfl, Nat.le_of_ble_eq_true rfl⟩ rfl rfl (Nat.le_of_ble_eq_true rfl) (m_inside _ _ e _ g2 (by omega) hR2 (hWr.2.2.1.s h8)) ?_
          refine a_ireturn (k := 17) rfl rfl ?_
          exact ⟨rfl, hM.scr hW (Fs_of hF2 (by simp [tms]) (by simp [kms])), Fr.mo hF2 (by simp) (by simp)⟩
        · exact absurd c_14 (by decide)
    · rw [if_neg hd]
      refine Sp.of rfl kX11_within (Nat.le_of_ble_eq_true rfl) ?_
      refine u_aloadn (k := 0) rfl rfl ?_
      refine u_iloadn (k := 1) rfl rfl ?_
      refine i_virt1 (M' := mX11_isOne) (k := 2) rfl lRX11_206 oX11_isOne vX11_isOne ⟨Nat.le_of_ble_eq_true rfl, Nat.le_of_ble_eq_true rfl⟩ rfl rfl (Nat.le_of_ble_eq_true rfl) (hM.one hW q) ?_
      rw [one_yes hk]
      refine a_if_eq (k := 3) rfl (fun c_5 => ?_) (fun c_5 => ?_)
      · exact absurd c_5 (by decide)
      · refine u_aloadn (k := 4) rfl rfl ?_
        refine u_iloadn (k := 5) rfl rfl ?_
        refine u_iloadn (k := 6) rfl rfl ?_
        refine i_virt2 (M' := mX11_isCrossing) (k := 7) rfl lRX11_264 oX11_isCrossing vX11_isCrossing ⟨Nat.le_of_ble_eq_true rfl, Nat.le_of_ble_eq_true rfl⟩ rfl rfl (Nat.le_of_ble_eq_true rfl) (m_isCrossing q d _ h (by omega) h8 (hM.slot hk)) ?_
        rw [decide_eq_false hd]
        refine a_if_ne (k := 8) rfl (fun c_14 => ?_) (fun c_14 => ?_)
        · exact absurd rfl c_14
        · refine a_ldc (k := 9) rfl nRX11_210 ⟨by decide, by decide⟩ ?_
          refine a_ireturn (k := 10) rfl rfl ?_
          exact ⟨rfl, hM, FMo.rf⟩
