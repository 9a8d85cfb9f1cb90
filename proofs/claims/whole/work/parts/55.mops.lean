theorem MR.one {B : Nat} {σ : AS} {h : HH} (hW : WA B σ) (hM : MR σ h) (k : Int) : SpI mX11_isOne [vr 40 0, vi k] h (b01 (decide (0 ≤ k ∧ k < σ.now.1))) h := m_isOne k σ.now.1 h hM.now.2.1 hW.now.1
theorem one_no {k : Int} {n : Nat} (h : k < 0 ∨ (n : Int) ≤ k) : decide (0 ≤ k ∧ k < n) = false := decide_eq_false (by omega)
theorem one_yes {k n : Nat} (h : k < n) : decide (0 ≤ (k : Int) ∧ (k : Int) < n) = true := decide_eq_true (by omega)
theorem inb_t {v lo hi : Int} (h : lo ≤ v ∧ v ≤ hi) : inb v lo hi = true := inb_iff.mpr h
theorem inb_f {v lo hi : Int} (h : ¬ (lo ≤ v ∧ v ≤ hi)) : inb v lo hi = false := Bool.eq_false_iff.mpr (fun z => h (inb_iff.mp z))
theorem n_write {B : Nat} {σ : AS} {h : HH} (hW : WA B σ) (hM : MR σ h) (k e : Int) : Sp mX11_write [vr 40 0, vi k, vi e] h (MP (o_write σ k e) h) := by
  have h15 := hW.ents
  rcases kcase k σ.now.1 with hk | ⟨q, rfl, hk⟩
  · rw [show o_write σ k e = _ from on_no hk]
    refine Sp.of rfl kX11_write (Nat.le_of_ble_eq_true rfl) ?_
    refine u_aloadn (k := 0) rfl rfl ?_
    refine u_iloadn (k := 1) rfl rfl ?_
    refine i_virt1 (M' := mX11_isOne) (k := 2) rfl lRX11_206 oX11_isOne vX11_isOne ⟨Nat.le_of_ble_eq_true rfl, Nat.le_of_ble_eq_true rfl⟩ rfl rfl (Nat.le_of_ble_eq_true rfl) (hM.one hW k) ?_
    rw [one_no hk]
    refine a_if_ne (k := 3) rfl (fun c_5 => ?_) (fun c_5 => ?_)
    · exact absurd rfl c_5
    · refine a_ldc (k := 4) rfl nRX11_210 ⟨by decide, by decide⟩ ?_
      refine a_ireturn (k := 5) rfl rfl ?_
      exact ⟨rfl, hM, FMo.rf⟩
  · rw [show o_write σ (q : Int) e = _ from on_yes hk]
    by_cases he : 0 ≤ e ∧ e ≤ 8
    · rw [if_pos he]
      by_cases h2 : σ.ents < 15
      · rw [if_pos h2]
        refine Sp.of rfl kX11_write (Nat.le_of_ble_eq_true rfl) ?_
        refine u_aloadn (k := 0) rfl rfl ?_
        refine u_iloadn (k := 1) rfl rfl ?_
        refine i_virt1 (M' := mX11_isOne) (k := 2) rfl lRX11_206 oX11_isOne vX11_isOne ⟨Nat.le_of_ble_eq_true rfl, Nat.le_of_ble_eq_true rfl⟩ rfl rfl (Nat.le_of_ble_eq_true rfl) (hM.one hW q) ?_
        rw [one_yes hk]
        refine a_if_ne (k := 3) rfl (fun c_5 => ?_) (fun c_5 => ?_)
        · refine u_iloadn (k := 6) rfl rfl ?_
          refine a_i2l (k := 7) rfl ?_
          refine a_lconst (k := 8) rfl ?_
          refine a_ldc2 (k := 9) rfl nRX11_248 ⟨by decide, by decide⟩ ?_
          refine i_stat3 (M' := mX11_in) (k := 10) rfl lRX11_81 oX11_in vX11_in ⟨Nat.le_of_ble_eq_true rfl, Nat.le_of_ble_eq_true rfl⟩ rfl (Nat.le_of_ble_eq_true rfl) (m_in e 0 8 h) ?_
          rw [inb_t he]
          refine a_if_ne (k := 11) rfl (fun c_20 => ?_) (fun c_20 => ?_)
          · refine u_aloadn (k := 14) rfl rfl ?_
            refine a_geti (k := 15) rfl fRX11_169 rfl rfl ?_
            refine a_bipush (k := 16) rfl ?_
            rw [hM.ents]
            refine a_icmp_ne (k := 17) rfl (fun c_32 => ?_) (fun c_32 => ?_)
            · refine u_aloadn (k := 20) rfl rfl ?_
              refine a_getr (k := 21) rfl fRX11_36 rfl rfl rfl ?_
              refine u_aloadn (k := 22) rfl rfl ?_
              refine a_geti (k := 23) rfl fRX11_169 rfl rfl ?_
              refine u_iloadn (k := 24) rfl rfl ?_
              rw [hM.ents]
              refine u_iast (k := 25) rfl rfl rfl (by omega) ?_
              refine u_aloadn (k := 26) rfl rfl ?_
              refine a_getr (k := 27) rfl fRX11_39 rfl rfl rfl ?_
              refine u_aloadn (k := 28) rfl rfl ?_
              refine a_geti (k := 29) rfl fRX11_169 rfl rfl ?_
              refine u_iloadn (k := 30) rfl rfl ?_
              rw [put_ne (by simp), hM.ents]
              refine u_iast (k := 31) rfl rfl rfl (by omega) ?_
              refine u_aloadn (k := 32) rfl rfl ?_
              refine a_dup (k := 33) rfl rfl ?_
              refine a_geti (k := 34) rfl fRX11_169 rfl rfl ?_
              rw [put_ne (by simp), put_ne (by simp), hM.ents]
              refine a_iconst (k := 35) rfl ?_
              refine u_iadd (k := 36) rfl (by omega) ?_
              refine a_puti (k := 37) rfl pRX11_169 rfl rfl ?_
              refine u_aloadn (k := 38) rfl rfl ?_
              refine a_geti (k := 39) rfl fRX11_169 rfl rfl ?_
              rw [put_eq]
              refine a_ireturn (k := 40) rfl rfl ?_
              refine ⟨by congr 2, hM.flds hW (fun k => by simp only [put_apply, Nat.reduceEqDiff, reduceIte, false_and, and_false, true_and, and_true, and_self, if_false, if_true, not_false_eq_true, not_true_eq_false, ne_eq]) rfl rfl (Or.inr rfl) rfl (fun i hi hk => ⟨hk, by simp only [put_apply, Nat.reduceEqDiff, reduceIte, false_and, and_false, true_and, and_true, and_self, if_false, if_true, not_false_eq_true, not_true_eq_false, ne_eq]; exact (hM.img i hi hk).2⟩) (by simp only [put_apply, Nat.reduceEqDiff, reduceIte, false_and, and_false, true_and, and_true, and_self, if_false, if_true, not_false_eq_true, not_true_eq_false, ne_eq]; exact hM.laid) (by simp only [put_apply, Nat.reduceEqDiff, reduceIte, false_and, and_false, true_and, and_true, and_self, if_false, if_true, not_false_eq_true, not_true_eq_false, ne_eq]; exact hM.L) (fun i hi => by simp only [put_apply, Nat.reduceEqDiff, reduceIte, false_and, and_false, true_and, and_true, and_self, if_false, if_true, not_false_eq_true, not_true_eq_false, ne_eq]; exact hM.tx i hi) (by simp only [put_apply, Nat.reduceEqDiff, reduceIte, false_and, and_false, true_and, and_true, and_self, if_false, if_true, not_false_eq_true, not_true_eq_false, ne_eq]; exact hM.fault) (by simp only [put_apply, Nat.reduceEqDiff, reduceIte, false_and, and_false, true_and, and_true, and_self, if_false, if_true, not_false_eq_true, not_true_eq_false, ne_eq]; exact hM.drawn) (by simp only [put_apply, Nat.reduceEqDiff, reduceIte, false_and, and_false, true_and, and_true, and_self, if_false, if_true, not_false_eq_true, not_true_eq_false, ne_eq]; exact hM.cnt) (by rw [put_eq]; rfl) (fun i hi => ?_) (fun i hi => by simp only [put_apply, Nat.reduceEqDiff, reduceIte, false_and, and_false, true_and, and_true, and_self, if_false, if_true, not_false_eq_true, not_true_eq_false, ne_eq]; exact hM.kept i hi), ((FMo.rf.pt (by omega)).pt (by omega)).pt (by omega)⟩
              have hi : i < σ.ents + 1 := hi
              show _ = (((un σ.book σ.ents (q, e.toNat) i).1 : Nat) : Int) ∧ _ = (((un σ.book σ.ents (q, e.toNat) i).2 : Nat) : Int)
              by_cases hn : i = σ.ents
              · subst hn; rw [un_eq]; refine ⟨by simp only [put_apply, Nat.reduceEqDiff, reduceIte, false_and, and_false, true_and, and_true, and_self, if_false, if_true, not_false_eq_true, not_true_eq_false, ne_eq], ?_⟩; simp only [put_apply, Nat.reduceEqDiff, reduceIte, false_and, and_false, true_and, and_true, and_self, if_false, if_true, not_false_eq_true, not_true_eq_false, ne_eq]; omega
              · rw [un_ne _ _ hn]; simp only [put_apply]; simp [hn]; exact hM.book i (by omega)
            · omega
          · exact absurd c_20 (by decide)
        · exact absurd c_5 (by decide)
      · rw [if_neg h2]
        refine Sp.of rfl kX11_write (Nat.le_of_ble_eq_true rfl) ?_
        refine u_aloadn (k := 0) rfl rfl ?_
        refine u_iloadn (k := 1) rfl rfl ?_
        refine i_virt1 (M' := mX11_isOne) (k := 2) rfl lRX11_206 oX11_isOne vX11_isOne ⟨Nat.le_of_ble_eq_true rfl, Nat.le_of_ble_eq_true rfl⟩ rfl rfl (Nat.le_of_ble_eq_true rfl) (hM.one hW q) ?_
        rw [one_yes hk]
        refine a_if_ne (k := 3) rfl (fun c_5 => ?_) (fun c_5 => ?_)
        · refine u_iloadn (k := 6) rfl rfl ?_
          refine a_i2l (k := 7) rfl ?_
          refine a_lconst (k := 8) rfl ?_
          refine a_ldc2 (k := 9) rfl nRX11_248 ⟨by decide, by decide⟩ ?_
          refine i_stat3 (M' := mX11_in) (k := 10) rfl lRX11_81 oX11_in vX11_in ⟨Nat.le_of_ble_eq_true rfl, Nat.le_of_ble_eq_true rfl⟩ rfl (Nat.le_of_ble_eq_true rfl) (m_in e 0 8 h) ?_
          rw [inb_t he]
          refine a_if_ne (k := 11) rfl (fun c_20 => ?_) (fun c_20 => ?_)
          · refine u_aloadn (k := 14) rfl rfl ?_
            refine a_geti (k := 15) rfl fRX11_169 rfl rfl ?_
            refine a_bipush (k := 16) rfl ?_
            rw [hM.ents]
            refine a_icmp_ne (k := 17) rfl (fun c_32 => ?_) (fun c_32 => ?_)
            · omega
            · refine a_ldc (k := 18) rfl nRX11_101 ⟨by decide, by decide⟩ ?_
              refine a_ireturn (k := 19) rfl rfl ?_
              exact ⟨rfl, hM, FMo.rf⟩
          · exact absurd c_20 (by decide)
        · exact absurd c_5 (by decide)
    · rw [if_neg he]
      refine Sp.of rfl kX11_write (Nat.le_of_ble_eq_true rfl) ?_
      refine u_aloadn (k := 0) rfl rfl ?_
      refine u_iloadn (k := 1) rfl rfl ?_
      refine i_virt1 (M' := mX11_isOne) (k := 2) rfl lRX11_206 oX11_isOne vX11_isOne ⟨Nat.le_of_ble_eq_true rfl, Nat.le_of_ble_eq_true rfl⟩ rfl rfl (Nat.le_of_ble_eq_true rfl) (hM.one hW q) ?_
      rw [one_yes hk]
      refine a_if_ne (k := 3) rfl (fun c_5 => ?_) (fun c_5 => ?_)
      · refine u_iloadn (k := 6) rfl rfl ?_
        refine a_i2l (k := 7) rfl ?_
        refine a_lconst (k := 8) rfl ?_
        refine a_ldc2 (k := 9) rfl nRX11_248 ⟨by decide, by decide⟩ ?_
        refine i_stat3 (M' := mX11_in) (k := 10) rfl lRX11_81 oX11_in vX11_in ⟨Nat.le_of_ble_eq_true rfl, Nat.le_of_ble_eq_true rfl⟩ rfl (Nat.le_of_ble_eq_true rfl) (m_in e 0 8 h) ?_
        rw [inb_f he]
        refine a_if_ne (k := 11) rfl (fun c_20 => ?_) (fun c_20 => ?_)
        · exact absurd rfl c_20
        · refine a_ldc (k := 12) rfl nRX11_97 ⟨by decide, by decide⟩ ?_
          refine a_ireturn (k := 13) rfl rfl ?_
          exact ⟨rfl, hM, FMo.rf⟩
      · exact absurd c_5 (by decide)
theorem n_judge {B : Nat} {σ : AS} {h : HH} (hW : WA B σ) (hM : MR σ h) : Sp mX11_judge [vr 40 0] h (MP (o_judge σ) h) := by
  have h15 := hW.ents
  have h5 := hW.now.1
  refine Sp.of rfl kX11_judge (Nat.le_of_ble_eq_true rfl) ?_
  have Lp : ∀ (d e : Nat), e + d = σ.ents → (o_judge σ).1 = fwr (fun i => !(decide ((σ.book i).1 < σ.now.1) && decide ((σ.now.2.2 (σ.book i).1).1 = (σ.book i).2))) d e → AW mX11_judge (MP (o_judge σ) h) 2 [(0, vr 40 0), (1, vi e)] [] h := by
    intro d
    induction d with
    | zero =>
      intro e he ho
      refine u_iloadn (k := 2) rfl rfl ?_
      refine u_aloadn (k := 3) rfl rfl ?_
      refine a_geti (k := 4) rfl fRX11_169 rfl rfl ?_
      rw [hM.ents]
      refine a_icmp_ge (k := 5) rfl (fun c_7 => ?_) (fun c_7 => ?_)
      · refine a_iconst (k := 28) rfl ?_
        refine a_ireturn (k := 29) rfl rfl ?_
        exact ⟨by rw [ho]; rfl, hM, FMo.rf⟩
      · omega
    | succ d ih =>
      intro e he ho
      obtain ⟨b1, b2⟩ := hM.book e (by omega)
      have ho' : (o_judge σ).1 = if !(decide ((σ.book e).1 < σ.now.1) && decide ((σ.now.2.2 (σ.book e).1).1 = (σ.book e).2)) then (e : Int) else fwr (fun i => !(decide ((σ.book i).1 < σ.now.1) && decide ((σ.now.2.2 (σ.book i).1).1 = (σ.book i).2))) d (e + 1) := ho
      by_cases hb : (σ.book e).1 < σ.now.1
      · refine u_iloadn (k := 2) rfl rfl ?_
        refine u_aloadn (k := 3) rfl rfl ?_
        refine a_geti (k := 4) rfl fRX11_169 rfl rfl ?_
        rw [hM.ents]
        refine a_icmp_ge (k := 5) rfl (fun c_7 => ?_) (fun c_7 => ?_)
        · omega
        · refine u_aloadn (k := 6) rfl rfl ?_
          refine u_aloadn (k := 7) rfl rfl ?_
          refine a_getr (k := 8) rfl fRX11_36 rfl rfl rfl ?_
          refine u_iloadn (k := 9) rfl rfl ?_
          refine u_iald (k := 10) rfl rfl rfl (by omega) ?_
          rw [b1]
          refine i_virt1 (M' := mX11_isOne) (k := 11) rfl lRX11_206 oX11_isOne vX11_isOne ⟨Nat.le_of_ble_eq_true rfl, Nat.le_of_ble_eq_true rfl⟩ rfl rfl (Nat.le_of_ble_eq_true rfl) (hM.one hW _) ?_
          rw [one_yes hb]
          refine a_if_eq (k := 12) rfl (fun c_20 => ?_) (fun c_20 => ?_)
          · exact absurd c_20 (by decide)
          · refine u_aloadn (k := 13) rfl rfl ?_
            refine u_aloadn (k := 14) rfl rfl ?_
            refine a_getr (k := 15) rfl fRX11_36 rfl rfl rfl ?_
            refine u_iloadn (k := 16) rfl rfl ?_
            refine u_iald (k := 17) rfl rfl rfl (by omega) ?_
            rw [b1]
            refine i_virt1 (M' := mX11_crossings) (k := 18) rfl lRX11_92 oX11_crossings vX11_crossings ⟨Nat.le_of_ble_eq_true rfl, Nat.le_of_ble_eq_true rfl⟩ rfl rfl (Nat.le_of_ble_eq_true rfl) (m_crossings _ _ h (by omega) (hM.slot hb)) ?_
            refine u_aloadn (k := 19) rfl rfl ?_
            refine a_getr (k := 20) rfl fRX11_39 rfl rfl rfl ?_
            refine u_iloadn (k := 21) rfl rfl ?_
            refine u_iald (k := 22) rfl rfl rfl (by omega) ?_
            rw [b2]
            refine a_icmp_eq (k := 23) rfl (fun c_39 => ?_) (fun c_39 => ?_)
            · refine u_iinc (k := 26) (lv' := [(1, _), (0, _)]) rfl rfl (Nat.le_of_ble_eq_true rfl) (by omega) rfl ?_
              refine a_goto (k := 27) rfl ?_
              refine a_sub [1, 0] rfl ?_
              exact ih (e + 1) (by omega) (by rw [ho', if_neg (by simp; omega)])
            · refine u_iloadn (k := 24) rfl rfl ?_
              refine a_ireturn (k := 25) rfl rfl ?_
              exact ⟨by rw [ho', if_pos (by simp; omega)], hM, FMo.rf⟩
      · refine u_iloadn (k := 2) rfl rfl ?_
        refine u_aloadn (k := 3) rfl rfl ?_
        refine a_geti (k := 4) rfl fRX11_169 rfl rfl ?_
        rw [hM.ents]
        refine a_icmp_ge (k := 5) rfl (fun c_7 => ?_) (fun c_7 => ?_)
        · omega
        · refine u_aloadn (k := 6) rfl rfl ?_
          refine u_aloadn (k := 7) rfl rfl ?_
          refine a_getr (k := 8) rfl fRX11_36 rfl rfl rfl ?_
          refine u_iloadn (k := 9) rfl rfl ?_
          refine u_iald (k := 10) rfl rfl rfl (by omega) ?_
          rw [b1]
          refine i_virt1 (M' := mX11_isOne) (k := 11) rfl lRX11_206 oX11_isOne vX11_isOne ⟨Nat.le_of_ble_eq_true rfl, Nat.le_of_ble_eq_true rfl⟩ rfl rfl (Nat.le_of_ble_eq_true rfl) (hM.one hW _) ?_
          rw [one_no (by omega)]
          refine a_if_eq (k := 12) rfl (fun c_20 => ?_) (fun c_20 => ?_)
          · refine u_iloadn (k := 24) rfl rfl ?_
            refine a_ireturn (k := 25) rfl rfl ?_
            exact ⟨by rw [ho', if_pos (by simp [hb])], hM, FMo.rf⟩
          · exact absurd rfl c_20
  refine a_iconst (k := 0) rfl ?_
  refine a_istoren (k := 1) (lv' := [(1, _), (0, _)]) rfl (Nat.le_of_ble_eq_true rfl) rfl ?_
  refine a_sub [1, 0] rfl ?_
  exact Lp σ.ents 0 (by omega) rfl
theorem n_undo {B : Nat} {σ : AS} {h : HH} (hW : WA B σ) (hM : MR σ h) : Sp mX11_undo [vr 40 0] h (MP (o_undo σ) h) := by
  have h16 := hW.cnt
  by_cases h0 : 0 < σ.cnt
  · rw [show o_undo σ = _ by unfold o_undo; rw [if_pos h0]]
    refine Sp.of rfl kX11_undo (Nat.le_of_ble_eq_true rfl) ?_
    refine u_aloadn (k := 0) rfl rfl ?_
    refine a_geti (k := 1) rfl fRX11_166 rfl rfl ?_
    rw [hM.cnt]
    refine a_if_ne (k := 2) rfl (fun c_4 => ?_) (fun c_4 => ?_)
    · refine u_aloadn (k := 5) rfl rfl ?_
      refine u_aloadn (k := 6) rfl rfl ?_
      refine a_geti (k := 7) rfl fRX11_166 rfl rfl ?_
      refine a_iconst (k := 8) rfl ?_
      rw [hM.cnt]
      refine uv_virt2 (M' := mX11_copies) (k := 9) rfl lRX11_276 oX11_copies vX11_copies ⟨Nat.le_of_ble_eq_true rfl, Nat.le_of_ble_eq_true rfl⟩ rfl rfl (Nat.le_of_ble_eq_true rfl) (m_copies σ.cnt 0 h (by omega) (by omega) (by omega)) (by intro r g hp; exact hp.1) (fun g hg => ?_)
      obtain ⟨-, hcp, hF⟩ := hg; have kz : ∀ t i k, t ≠ 41 → g t i k = h t i k := fun t i k ht => hF t i k (by omega)
      refine u_aloadn (k := 10) rfl rfl ?_
      refine a_dup (k := 11) rfl rfl ?_
      refine a_geti (k := 12) rfl fRX11_166 rfl rfl ?_
      rw [kz 40 0 2 (by omega), hM.cnt]
      refine a_iconst (k := 13) rfl ?_
      refine u_isub (k := 14) rfl (by omega) ?_
      refine a_puti (k := 15) rfl pRX11_166 rfl rfl ?_
      refine u_aloadn (k := 16) rfl rfl ?_
      refine a_geti (k := 17) rfl fRX11_166 rfl rfl ?_
      rw [put_eq]
      refine a_ireturn (k := 18) rfl rfl ?_
      have k41 : ∀ k, 92 ≤ k → g 41 0 k = h 41 0 k := fun k hk => hF 41 0 k (by omega)
      refine ⟨by congr 2; omega, ⟨?_, ?_, ?_, fun i hi => ?_, ?_, ?_, ?_, fun i hi => ?_, ?_, fun i hi => ?_, fun i hi => ?_, fun i hi hi2 => ⟨(hM.img i hi hi2).1.keep (hW.img i hi hi2).1 (fun k k1 k2 => by rw [put_ne (by omega)]; exact k41 k (by omega)), ?_⟩⟩, fun t i k ht => by rw [put_ne (by omega)]; exact kz t i k (by omega)⟩
      · have := hM.hist 0 h0
        rw [Nat.sub_zero] at this
        refine this.move (hW.hist 0 h0) (fun k hk => ?_)
        rw [put_ne (by omega), hcp k hk]
      · simp only [put_apply, Nat.reduceEqDiff, reduceIte, false_and, and_false, true_and, and_true, and_self, if_false, if_true, not_false_eq_true, not_true_eq_false, ne_eq]; rw [kz 40 0 1 (by omega)]; exact hM.laid
      · simp only [put_apply, Nat.reduceEqDiff, reduceIte, false_and, and_false, true_and, and_true, and_self, if_false, if_true, not_false_eq_true, not_true_eq_false, ne_eq]; rw [kz 40 0 6 (by omega)]; exact hM.L
      · simp only [put_apply, Nat.reduceEqDiff, reduceIte, false_and, and_false, true_and, and_true, and_self, if_false, if_true, not_false_eq_true, not_true_eq_false, ne_eq]; rw [kz 44 0 i (by omega)]; exact hM.tx i hi
      · simp only [put_apply, Nat.reduceEqDiff, reduceIte, false_and, and_false, true_and, and_true, and_self, if_false, if_true, not_false_eq_true, not_true_eq_false, ne_eq]; rw [kz 40 0 11 (by omega)]; exact hM.fault
      · simp only [put_apply, Nat.reduceEqDiff, reduceIte, false_and, and_false, true_and, and_true, and_self, if_false, if_true, not_false_eq_true, not_true_eq_false, ne_eq]; rw [kz 40 0 3 (by omega)]; exact hM.drawn
      · rw [put_eq]; show _ = ((σ.cnt - 1 : Nat) : Int); omega
      · have hi : i < σ.cnt - 1 := hi
        show TM (σ.cnt - 1 - i) (σ.hist (i + 1)) _
        rw [show σ.cnt - 1 - i = σ.cnt - (i + 1) by omega]
        exact (hM.hist (i + 1) (by omega)).keep (hW.hist (i + 1) (by omega)) (fun k k1 k2 => by rw [put_ne (by omega)]; exact k41 k (by omega))
      · simp only [put_apply, Nat.reduceEqDiff, reduceIte, false_and, and_false, true_and, and_true, and_self, if_false, if_true, not_false_eq_true, not_true_eq_false, ne_eq]; rw [kz 40 0 17 (by omega)]; exact hM.ents
      · simp only [put_apply, Nat.reduceEqDiff, reduceIte, false_and, and_false, true_and, and_true, and_self, if_false, if_true, not_false_eq_true, not_true_eq_false, ne_eq]; rw [kz 48 0 i (by omega), kz 49 0 i (by omega)]; exact hM.book i hi
      · simp only [put_apply, Nat.reduceEqDiff, reduceIte, false_and, and_false, true_and, and_true, and_self, if_false, if_true, not_false_eq_true, not_true_eq_false, ne_eq]; rw [kz 43 0 i (by omega)]; exact hM.kept i hi
      · simp only [put_apply, Nat.reduceEqDiff, reduceIte, false_and, and_false, true_and, and_true, and_self, if_false, if_true, not_false_eq_true, not_true_eq_false, ne_eq]; rw [kz 42 0 i (by omega)]; exact (hM.img i hi hi2).2
    · omega
  · rw [show o_undo σ = _ by unfold o_undo; rw [if_neg h0]]
    refine Sp.of rfl kX11_undo (Nat.le_of_ble_eq_true rfl) ?_
    refine u_aloadn (k := 0) rfl rfl ?_
    refine a_geti (k := 1) rfl fRX11_166 rfl rfl ?_
    rw [hM.cnt]
    refine a_if_ne (k := 2) rfl (fun c_4 => ?_) (fun c_4 => ?_)
    · omega
    · refine a_ldcw (k := 3) rfl nRX11_279 ⟨by decide, by decide⟩ ?_
      refine a_ireturn (k := 4) rfl rfl ?_
      exact ⟨rfl, hM, FMo.rf⟩
theorem n_keep {B : Nat} {σ : AS} {h : HH} (hW : WA B σ) (hM : MR σ h) (i : Int) : Sp mX11_keep [vr 40 0, vi i] h (MP (o_keep σ i) h) := by
  by_cases hi : 0 ≤ i ∧ i < 2
  · obtain ⟨q, rfl⟩ : ∃ q : Nat, i = (q : Int) := ⟨i.toNat, by omega⟩
    have hq : q < 2 := by omega
    rw [show o_keep σ (q : Int) = _ by unfold o_keep; rw [if_pos hi]]
    rw [Int.toNat_natCast]
    have fin : ∀ (g : HH) (v : Int), v = (if σ.laid then 2 else 1) → (∀ z, z < 92 → g 41 0 (92 * (17 + q) + z) = h 41 0 (92 * 0 + z)) → (∀ t i k, ¬ (t = 41 ∧ i = 0 ∧ 92 * (17 + q) ≤ k ∧ k < 92 * (17 + q) + 92) → g t i k = h t i k) → AW mX11_keep (MP (1, mkA σ.now σ.laid σ.L σ.tx σ.fault σ.drawn 0 σ.hist σ.ents σ.book (un σ.kept q true) (un σ.img q σ.now) (un σ.iseed q σ.drawn)) h) 50 [(0, vr 40 0), (1, vi q)] [] (put (put g 42 0 q (σ.drawn : Int)) 43 0 q v) := by
      intro g v hv hcp hF
      have kz : ∀ t i k, t ≠ 41 → g t i k = h t i k := fun t i k ht => hF t i k (by omega)
      refine u_aloadn (k := 30) rfl rfl ?_
      refine a_iconst (k := 31) rfl ?_
      refine a_puti (k := 32) rfl pRX11_166 rfl rfl ?_
      refine a_iconst (k := 33) rfl ?_
      refine a_ireturn (k := 34) rfl rfl ?_
      refine ⟨rfl, ⟨hM.now.keep hW.now (fun k k1 k2 => by simp only [put_apply, Nat.reduceEqDiff, reduceIte, false_and, and_false, true_and, and_true, and_self, if_false, if_true, not_false_eq_true, not_true_eq_false, ne_eq]; exact hF 41 0 k (by omega)), ?_, ?_, fun i hi => ?_, ?_, ?_, ?_, fun i hi => absurd hi (Nat.not_lt_zero i), ?_, fun i hi => ?_, fun i hi => ?_, fun i hi hi2 => ?_⟩, fun t i k ht => by rw [put_ne (by omega), put_ne (by omega), put_ne (by omega)]; exact kz t i k (by omega)⟩
      · simp only [put_apply, Nat.reduceEqDiff, reduceIte, false_and, and_false, true_and, and_true, and_self, if_false, if_true, not_false_eq_true, not_true_eq_false, ne_eq]; rw [kz 40 0 1 (by omega)]; exact hM.laid
      · simp only [put_apply, Nat.reduceEqDiff, reduceIte, false_and, and_false, true_and, and_true, and_self, if_false, if_true, not_false_eq_true, not_true_eq_false, ne_eq]; rw [kz 40 0 6 (by omega)]; exact hM.L
      · simp only [put_apply, Nat.reduceEqDiff, reduceIte, false_and, and_false, true_and, and_true, and_self, if_false, if_true, not_false_eq_true, not_true_eq_false, ne_eq]; rw [kz 44 0 i (by omega)]; exact hM.tx i hi
      · simp only [put_apply, Nat.reduceEqDiff, reduceIte, false_and, and_false, true_and, and_true, and_self, if_false, if_true, not_false_eq_true, not_true_eq_false, ne_eq]; rw [kz 40 0 11 (by omega)]; exact hM.fault
      · simp only [put_apply, Nat.reduceEqDiff, reduceIte, false_and, and_false, true_and, and_true, and_self, if_false, if_true, not_false_eq_true, not_true_eq_false, ne_eq]; rw [kz 40 0 3 (by omega)]; exact hM.drawn
      · rw [put_eq]; rfl
      · simp only [put_apply, Nat.reduceEqDiff, reduceIte, false_and, and_false, true_and, and_true, and_self, if_false, if_true, not_false_eq_true, not_true_eq_false, ne_eq]; rw [kz 40 0 17 (by omega)]; exact hM.ents
      · simp only [put_apply, Nat.reduceEqDiff, reduceIte, false_and, and_false, true_and, and_true, and_self, if_false, if_true, not_false_eq_true, not_true_eq_false, ne_eq]; rw [kz 48 0 i (by omega), kz 49 0 i (by omega)]; exact hM.book i hi
      · show _ = if un σ.kept q true i then (if σ.laid then (2 : Int) else 1) else 0
        by_cases he : i = q
        · subst he; rw [un_eq, if_pos rfl, put_ne (by simp), put_eq]; exact hv
        · rw [un_ne _ _ he, put_ne (by simp), put_ne (by simp [he]), put_ne (by simp), kz 43 0 i (by omega)]; exact hM.kept i hi
      · have hi2 : un σ.kept q true i = true := hi2
        show TM (17 + i) (un σ.img q σ.now i) _ ∧ _ = ((un σ.iseed q σ.drawn i : Nat) : Int)
        by_cases he : i = q
        · subst he
          rw [un_eq, un_eq]
          refine ⟨hM.now.move hW.now (fun k hk => ?_), by simp only [put_apply, Nat.reduceEqDiff, reduceIte, false_and, and_false, true_and, and_true, and_self, if_false, if_true, not_false_eq_true, not_true_eq_false, ne_eq]⟩
          rw [put_ne (by omega), put_ne (by omega), put_ne (by omega)]
          exact hcp k hk
        · rw [un_ne _ _ he] at hi2
          rw [un_ne _ _ he, un_ne _ _ he, put_ne (by simp), put_ne (by simp), put_ne (by simp [he]), kz 42 0 i (by omega)]
          exact ⟨(hM.img i hi hi2).1.keep (hW.img i hi hi2).1 (fun k k1 k2 => by rw [put_ne (by omega), put_ne (by omega), put_ne (by omega)]; exact hF 41 0 k (by omega)), (hM.img i hi hi2).2⟩
    refine Sp.of rfl kX11_keep (Nat.le_of_ble_eq_true rfl) ?_
    refine u_iloadn (k := 0) rfl rfl ?_
    refine a_i2l (k := 1) rfl ?_
    refine a_lconst (k := 2) rfl ?_
    refine a_lconst (k := 3) rfl ?_
    refine i_stat3 (M' := mX11_in) (k := 4) rfl lRX11_81 oX11_in vX11_in ⟨Nat.le_of_ble_eq_true rfl, Nat.le_of_ble_eq_true rfl⟩ rfl (Nat.le_of_ble_eq_true rfl) (m_in q 0 1 h) ?_
    rw [inb_t (by omega)]
    refine a_if_ne (k := 5) rfl (fun c_7 => ?_) (fun c_7 => ?_)
    · refine u_aloadn (k := 8) rfl rfl ?_
      refine a_iconst (k := 9) rfl ?_
      refine a_bipush (k := 10) rfl ?_
      refine u_iloadn (k := 11) rfl rfl ?_
      refine u_iadd (k := 12) rfl (by omega) ?_
      rw [show ((17 : Int) + (q : Int)) = ((17 + q : Nat) : Int) by omega]
      refine uv_virt2 (M' := mX11_copies) (k := 13) rfl lRX11_276 oX11_copies vX11_copies ⟨Nat.le_of_ble_eq_true rfl, Nat.le_of_ble_eq_true rfl⟩ rfl rfl (Nat.le_of_ble_eq_true rfl) (m_copies 0 (17 + q) h (by omega) (by omega) (by omega)) (by intro r g hp; exact hp.1) (fun g hg => ?_)
      obtain ⟨-, hcp, hF⟩ := hg
      refine u_aloadn (k := 14) rfl rfl ?_
      refine a_getr (k := 15) rfl fRX11_13 rfl rfl rfl ?_
      refine u_iloadn (k := 16) rfl rfl ?_
      refine u_aloadn (k := 17) rfl rfl ?_
      refine a_geti (k := 18) rfl fRX11_78 rfl rfl ?_
      rw [hF 40 0 3 (by omega), hM.drawn]
      refine u_iast (k := 19) rfl rfl rfl (by omega) ?_
      refine u_aloadn (k := 20) rfl rfl ?_
      refine a_getr (k := 21) rfl fRX11_16 rfl rfl rfl ?_
      refine u_iloadn (k := 22) rfl rfl ?_
      refine u_aloadn (k := 23) rfl rfl ?_
      refine a_geti (k := 24) rfl fRX11_149 rfl rfl ?_
      rw [put_ne (by simp), hF 40 0 1 (by omega), hM.laid]
      refine a_if_eq (k := 25) rfl (fun c_41 => ?_) (fun c_41 => ?_)
      · refine a_iconst (k := 28) rfl ?_
        refine u_iast (k := 29) rfl rfl rfl (by omega) ?_
        first
          | exact fin g 2 (by rw [b01_t c_41]; rfl) hcp hF
          | exact fin g 1 (by rw [b01_f c_41]; rfl) hcp hF
      · refine a_iconst (k := 26) rfl ?_
        refine a_goto (k := 27) rfl ?_
        refine u_iast (k := 29) rfl rfl rfl (by omega) ?_
        first
          | exact fin g 2 (by rw [b01_t c_41]; rfl) hcp hF
          | exact fin g 1 (by rw [b01_f c_41]; rfl) hcp hF
    · exact absurd c_7 (by decide)
  · rw [show o_keep σ i = _ by unfold o_keep; rw [if_neg hi]]
    refine Sp.of rfl kX11_keep (Nat.le_of_ble_eq_true rfl) ?_
    refine u_iloadn (k := 0) rfl rfl ?_
    refine a_i2l (k := 1) rfl ?_
    refine a_lconst (k := 2) rfl ?_
    refine a_lconst (k := 3) rfl ?_
    refine i_stat3 (M' := mX11_in) (k := 4) rfl lRX11_81 oX11_in vX11_in ⟨Nat.le_of_ble_eq_true rfl, Nat.le_of_ble_eq_true rfl⟩ rfl (Nat.le_of_ble_eq_true rfl) (m_in i 0 1 h) ?_
    rw [inb_f (by omega)]
    refine a_if_ne (k := 5) rfl (fun c_7 => ?_) (fun c_7 => ?_)
    · exact absurd rfl c_7
    · refine a_ldc (k := 6) rfl nRX11_210 ⟨by decide, by decide⟩ ?_
      refine a_ireturn (k := 7) rfl rfl ?_
      exact ⟨rfl, hM, FMo.rf⟩
theorem n_goBack {B : Nat} {σ : AS} {h : HH} (hW : WA B σ) (hM : MR σ h) (i : Int) : Sp mX11_goBack [vr 40 0, vi i] h (MP (o_goBack σ i) h) := by
  by_cases hi : 0 ≤ i ∧ i < 2
  · obtain ⟨q, rfl⟩ : ∃ q : Nat, i = (q : Int) := ⟨i.toNat, by omega⟩
    have hq : q < 2 := by omega
    rw [show o_goBack σ (q : Int) = _ by unfold o_goBack; rw [if_pos hi]]
    rw [Int.toNat_natCast]
    have hkk := hM.kept q hq
    by_cases hkp : σ.kept q = true
    · rw [if_pos hkp]
      rw [if_pos hkp] at hkk
      have hh := (hM.img q hq hkp)
      have fin : ∀ (g : HH) (v : Int), v = b01 σ.laid → (∀ z, z < 92 → g 41 0 (92 * 0 + z) = h 41 0 (92 * (17 + q) + z)) → (∀ t i k, ¬ (t = 41 ∧ i = 0 ∧ 92 * 0 ≤ k ∧ k < 92 * 0 + 92) → g t i k = h t i k) → AW mX11_goBack (MP (1, mkA (σ.img q) σ.laid σ.L σ.tx σ.fault (σ.iseed q) 0 σ.hist σ.ents σ.book σ.kept σ.img σ.iseed) h) 64 [(0, vr 40 0), (1, vi q)] [] (put (put g 40 0 3 (σ.iseed q : Int)) 40 0 1 v) := by
        intro g v hv hcp hF
        have kz : ∀ t i k, t ≠ 41 → g t i k = h t i k := fun t i k ht => hF t i k (by omega)
        refine u_aloadn (k := 38) rfl rfl ?_
        refine a_iconst (k := 39) rfl ?_
        refine a_puti (k := 40) rfl pRX11_166 rfl rfl ?_
        refine a_iconst (k := 41) rfl ?_
        refine a_ireturn (k := 42) rfl rfl ?_
        refine ⟨rfl, ⟨hh.1.move (hW.img q hq hkp).1 (fun k hk => by simp only [put_apply, Nat.reduceEqDiff, reduceIte, false_and, and_false, true_and, and_true, and_self, if_false, if_true, not_false_eq_true, not_true_eq_false, ne_eq]; exact hcp k hk), ?_, ?_, fun i hi => ?_, ?_, ?_, ?_, fun i hi => absurd hi (Nat.not_lt_zero i), ?_, fun i hi => ?_, fun i hi => ?_, fun i hi hi2 => ?_⟩, fun t i k ht => by rw [put_ne (by omega), put_ne (by omega), put_ne (by omega)]; exact kz t i k (by omega)⟩
        · simp only [put_apply, Nat.reduceEqDiff, reduceIte, false_and, and_false, true_and, and_true, and_self, if_false, if_true, not_false_eq_true, not_true_eq_false, ne_eq]; exact hv
        · simp only [put_apply, Nat.reduceEqDiff, reduceIte, false_and, and_false, true_and, and_true, and_self, if_false, if_true, not_false_eq_true, not_true_eq_false, ne_eq]; rw [kz 40 0 6 (by omega)]; exact hM.L
        · simp only [put_apply, Nat.reduceEqDiff, reduceIte, false_and, and_false, true_and, and_true, and_self, if_false, if_true, not_false_eq_true, not_true_eq_false, ne_eq]; rw [kz 44 0 i (by omega)]; exact hM.tx i hi
        · simp only [put_apply, Nat.reduceEqDiff, reduceIte, false_and, and_false, true_and, and_true, and_self, if_false, if_true, not_false_eq_true, not_true_eq_false, ne_eq]; rw [kz 40 0 11 (by omega)]; exact hM.fault
        · simp only [put_apply, Nat.reduceEqDiff, reduceIte, false_and, and_false, true_and, and_true, and_self, if_false, if_true, not_false_eq_true, not_true_eq_false, ne_eq]; rfl
        · rw [put_eq]; rfl
        · simp only [put_apply, Nat.reduceEqDiff, reduceIte, false_and, and_false, true_and, and_true, and_self, if_false, if_true, not_false_eq_true, not_true_eq_false, ne_eq]; rw [kz 40 0 17 (by omega)]; exact hM.ents
        · simp only [put_apply, Nat.reduceEqDiff, reduceIte, false_and, and_false, true_and, and_true, and_self, if_false, if_true, not_false_eq_true, not_true_eq_false, ne_eq]; rw [kz 48 0 i (by omega), kz 49 0 i (by omega)]; exact hM.book i hi
        · simp only [put_apply, Nat.reduceEqDiff, reduceIte, false_and, and_false, true_and, and_true, and_self, if_false, if_true, not_false_eq_true, not_true_eq_false, ne_eq]; rw [kz 43 0 i (by omega)]; exact hM.kept i hi
        · rw [put_ne (by simp), put_ne (by simp), put_ne (by simp), kz 42 0 i (by omega)]
          exact ⟨(hM.img i hi hi2).1.keep (hW.img i hi hi2).1 (fun k k1 k2 => by rw [put_ne (by omega), put_ne (by omega), put_ne (by omega)]; exact hF 41 0 k (by omega)), (hM.img i hi hi2).2⟩
      have hne : h 43 0 q = 1 ∨ h 43 0 q = 2 := by rw [hkk]; cases σ.laid <;> simp
      refine Sp.of rfl kX11_goBack (Nat.le_of_ble_eq_true rfl) ?_
      refine u_iloadn (k := 0) rfl rfl ?_
      refine a_i2l (k := 1) rfl ?_
      refine a_lconst (k := 2) rfl ?_
      refine a_lconst (k := 3) rfl ?_
      refine i_stat3 (M' := mX11_in) (k := 4) rfl lRX11_81 oX11_in vX11_in ⟨Nat.le_of_ble_eq_true rfl, Nat.le_of_ble_eq_true rfl⟩ rfl (Nat.le_of_ble_eq_true rfl) (m_in q 0 1 h) ?_
      rw [inb_t (by omega)]
      refine a_if_ne (k := 5) rfl (fun c_7 => ?_) (fun c_7 => ?_)
      · refine u_aloadn (k := 8) rfl rfl ?_
        refine a_getr (k := 9) rfl fRX11_16 rfl rfl rfl ?_
        refine u_iloadn (k := 10) rfl rfl ?_
        refine u_iald (k := 11) rfl rfl rfl (by omega) ?_
        refine a_if_ne (k := 12) rfl (fun c_19 => ?_) (fun c_19 => ?_)
        · refine u_aloadn (k := 15) rfl rfl ?_
          refine a_bipush (k := 16) rfl ?_
          refine u_iloadn (k := 17) rfl rfl ?_
          refine u_iadd (k := 18) rfl (by omega) ?_
          refine a_iconst (k := 19) rfl ?_
          rw [show ((17 : Int) + (q : Int)) = ((17 + q : Nat) : Int) by omega]
          refine uv_virt2 (M' := mX11_copies) (k := 20) rfl lRX11_276 oX11_copies vX11_copies ⟨Nat.le_of_ble_eq_true rfl, Nat.le_of_ble_eq_true rfl⟩ rfl rfl (Nat.le_of_ble_eq_true rfl) (m_copies (17 + q) 0 h (by omega) (by omega) (by omega)) (by intro r g hp; exact hp.1) (fun g hg => ?_)
          obtain ⟨-, hcp, hF⟩ := hg
          refine u_aloadn (k := 21) rfl rfl ?_
          refine u_aloadn (k := 22) rfl rfl ?_
          refine a_getr (k := 23) rfl fRX11_13 rfl rfl rfl ?_
          refine u_iloadn (k := 24) rfl rfl ?_
          refine u_iald (k := 25) rfl rfl rfl (by omega) ?_
          rw [hF 42 0 q (by omega), hh.2]
          refine a_puti (k := 26) rfl pRX11_78 rfl rfl ?_
          refine u_aloadn (k := 27) rfl rfl ?_
          refine u_aloadn (k := 28) rfl rfl ?_
          refine a_getr (k := 29) rfl fRX11_16 rfl rfl rfl ?_
          refine u_iloadn (k := 30) rfl rfl ?_
          refine u_iald (k := 31) rfl rfl rfl (by omega) ?_
          rw [put_ne (by simp), hF 43 0 q (by omega), hkk]
          refine a_iconst (k := 32) rfl ?_
          refine a_icmp_ne (k := 33) rfl (fun c_53 => ?_) (fun c_53 => ?_)
          · refine a_iconst (k := 36) rfl ?_
            refine a_putz (k := 37) rfl pRX11_149 rfl rfl (by omega) ?_
            first
              | exact fin g 1 (by revert c_53; cases σ.laid <;> simp [b01]) hcp hF
              | exact fin g 0 (by revert c_53; cases σ.laid <;> simp [b01]) hcp hF
          · refine a_iconst (k := 34) rfl ?_
            refine a_goto (k := 35) rfl ?_
            refine a_putz (k := 37) rfl pRX11_149 rfl rfl (by omega) ?_
            first
              | exact fin g 1 (by revert c_53; cases σ.laid <;> simp [b01]) hcp hF
              | exact fin g 0 (by revert c_53; cases σ.laid <;> simp [b01]) hcp hF
        · omega
      · exact absurd c_7 (by decide)
    · rw [if_neg hkp]
      rw [if_neg hkp] at hkk
      refine Sp.of rfl kX11_goBack (Nat.le_of_ble_eq_true rfl) ?_
      refine u_iloadn (k := 0) rfl rfl ?_
      refine a_i2l (k := 1) rfl ?_
      refine a_lconst (k := 2) rfl ?_
      refine a_lconst (k := 3) rfl ?_
      refine i_stat3 (M' := mX11_in) (k := 4) rfl lRX11_81 oX11_in vX11_in ⟨Nat.le_of_ble_eq_true rfl, Nat.le_of_ble_eq_true rfl⟩ rfl (Nat.le_of_ble_eq_true rfl) (m_in q 0 1 h) ?_
      rw [inb_t (by omega)]
      refine a_if_ne (k := 5) rfl (fun c_7 => ?_) (fun c_7 => ?_)
      · refine u_aloadn (k := 8) rfl rfl ?_
        refine a_getr (k := 9) rfl fRX11_16 rfl rfl rfl ?_
        refine u_iloadn (k := 10) rfl rfl ?_
        refine u_iald (k := 11) rfl rfl rfl (by omega) ?_
        refine a_if_ne (k := 12) rfl (fun c_19 => ?_) (fun c_19 => ?_)
        · omega
        · refine a_ldcw (k := 13) rfl nRX11_279 ⟨by decide, by decide⟩ ?_
          refine a_ireturn (k := 14) rfl rfl ?_
          exact ⟨rfl, hM, FMo.rf⟩
      · exact absurd c_7 (by decide)
  · rw [show o_goBack σ i = _ by unfold o_goBack; rw [if_neg hi]]
    refine Sp.of rfl kX11_goBack (Nat.le_of_ble_eq_true rfl) ?_
    refine u_iloadn (k := 0) rfl rfl ?_
    refine a_i2l (k := 1) rfl ?_
    refine a_lconst (k := 2) rfl ?_
    refine a_lconst (k := 3) rfl ?_
    refine i_stat3 (M' := mX11_in) (k := 4) rfl lRX11_81 oX11_in vX11_in ⟨Nat.le_of_ble_eq_true rfl, Nat.le_of_ble_eq_true rfl⟩ rfl (Nat.le_of_ble_eq_true rfl) (m_in i 0 1 h) ?_
    rw [inb_f (by omega)]
    refine a_if_ne (k := 5) rfl (fun c_7 => ?_) (fun c_7 => ?_)
    · exact absurd rfl c_7
    · refine a_ldc (k := 6) rfl nRX11_210 ⟨by decide, by decide⟩ ?_
      refine a_ireturn (k := 7) rfl rfl ?_
      exact ⟨rfl, hM, FMo.rf⟩
