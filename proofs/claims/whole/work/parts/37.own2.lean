def o_judge (σ : AS) : Int × AS := (fwr (fun i => !(decide ((σ.book i).1 < σ.now.1) && decide ((σ.now.2.2 (σ.book i).1).1 = (σ.book i).2))) σ.ents 0, σ)
theorem c_judge {B : Nat} {σ : AS} {h : HH} (hW : WA B σ) (hC : CR σ h) : Sp mX10_judge [vr 0 0] h (OP (o_judge σ) h) := by
  refine Sp.of rfl kX10_judge (Nat.le_of_ble_eq_true rfl) ?_
  refine u_aloadn (k := 0) rfl rfl ?_
  refine a_getr (k := 1) rfl fRX10_48 rfl rfl rfl ?_
  refine u_aloadn (k := 2) rfl rfl ?_
  refine a_getr (k := 3) rfl fRX10_26 rfl rfl rfl ?_
  refine i_virt1 (M' := mX0_firstWrong) (k := 4) rfl lRX10_278 oX0_firstWrong vX0_firstWrong ⟨Nat.le_of_ble_eq_true rfl, Nat.le_of_ble_eq_true rfl⟩ rfl rfl (Nat.le_of_ble_eq_true rfl) (x_firstWrong 1 σ.ents (fun i => !(decide ((σ.book i).1 < σ.now.1) && decide ((σ.now.2.2 (σ.book i).1).1 = (σ.book i).2))) h hC.ents hW.ents (by rw [hC.now.1]; have := hW.now.1; omega) (fun i hi => by
    obtain ⟨b1, b2⟩ := hC.book i hi
    rw [b1, b2, hC.now.1, Int.toNat_natCast]
    by_cases hk : (σ.book i).1 < σ.now.1
    · rw [(hC.now.2.2 _ hk).1]
      simp [hk]
      omega
    · simp [hk])) ?_
  refine a_ireturn (k := 5) rfl rfl ?_
  exact ⟨rfl, hC, FC.rf⟩
def o_undo (σ : AS) : Int × AS := if 0 < σ.cnt then (((σ.cnt - 1 : Nat) : Int), mkA (σ.hist 0) σ.laid σ.L σ.tx σ.fault σ.drawn (σ.cnt - 1) (fun i => σ.hist (i + 1)) σ.ents σ.book σ.kept σ.img σ.iseed) else (NOT_, σ)
theorem c_undo {B : Nat} {σ : AS} {h : HH} (hW : WA B σ) (hC : CR σ h) : Sp mX10_undo [vr 0 0] h (OP (o_undo σ) h) := by
  by_cases h0 : 0 < σ.cnt
  · rw [show o_undo σ = _ by unfold o_undo; rw [if_pos h0]]
    obtain ⟨n, hn, hn1, hH⟩ := hC.hist
    refine Sp.of rfl kX10_undo (Nat.le_of_ble_eq_true rfl) ?_
    refine u_aloadn (k := 0) rfl rfl ?_
    refine a_getr (k := 1) rfl fRX10_33 rfl rfl rfl ?_
    refine u_aloadn (k := 2) rfl rfl ?_
    refine a_getr (k := 3) rfl fRX10_26 rfl rfl rfl ?_
    refine ui_virt1 (M' := mX2_restore) (k := 4) rfl lRX10_235 oX2_restore vX2_restore ⟨Nat.le_of_ble_eq_true rfl, Nat.le_of_ble_eq_true rfl⟩ rfl rfl (Nat.le_of_ble_eq_true rfl) (x_restore n σ.cnt h hn1 hn hC.cnt hW.cnt h0) (by intro r g hp; exact ⟨_, hp.1⟩) (fun r g hg => ?_)
    obtain ⟨hr, hT, g1, g2, hF⟩ := hg; cases hr
    refine a_if_eq (k := 5) rfl (fun c_11 => ?_) (fun c_11 => ?_)
    · omega
    · refine u_aloadn (k := 6) rfl rfl ?_
      refine a_getr (k := 7) rfl fRX10_33 rfl rfl rfl ?_
      refine a_geti (k := 8) rfl fRX10_138 rfl rfl ?_
      rw [g2]
      refine a_goto (k := 9) rfl ?_
      refine a_ireturn (k := 11) rfl rfl ?_
      have kT : ∀ (t : Nat) (T : Ty), T.1 ≤ 5 → 2 ≤ t → TH t T h → TH t T g := fun t T h5 h2 hT => hT.keep h5 (fun k => hF 3 t k (by rw [mem_tcs]; omega) (by simp)) (fun a i k ha h1 h3 => hF a i k (by rw [mem_tcs]; omega) (by simp; omega))
      have kz : ∀ t i k, t ≠ 3 → t ≠ 5 → t ≠ 6 → t ≠ 10 → g t i k = h t i k := fun t i k a b c d => hF t i k (by rw [mem_tcs]; omega) (by simp; omega)
      refine ⟨rfl, ⟨?_, ?_, ?_, ?_, fun i hi => ?_, ?_, ?_, g2, ⟨(n + 15) % 16, by omega, g1, fun i hi => ?_⟩, ?_, fun i hi => ?_, ?_, fun i hi hi2 => ?_⟩, FC.rf.fr hF tcs_lt (by simp)⟩
      · have := hH 0 h0
        exact this.copy (hW.hist 0 h0) hT
      · rw [kz 0 0 10 (by omega) (by omega) (by omega) (by omega)]; exact hC.laid
      · rw [kz 7 0 11 (by omega) (by omega) (by omega) (by omega)]; exact hC.htr
      · rw [kz 7 0 4 (by omega) (by omega) (by omega) (by omega)]; exact hC.L
      · rw [kz 8 0 i (by omega) (by omega) (by omega) (by omega)]; exact hC.tx i hi
      · rw [kz 0 0 12 (by omega) (by omega) (by omega) (by omega)]; exact hC.fault
      · rw [kz 0 0 13 (by omega) (by omega) (by omega) (by omega)]; exact hC.drawn
      · have hi : i < σ.cnt - 1 := hi
        have hc16 := hW.cnt
        have := hH (i + 1) (by omega)
        rw [show 2 + ((n + 15) % 16 + 15 - i) % 16 = 2 + (n + 15 - (i + 1)) % 16 by omega]
        exact kT _ _ (hW.hist (i + 1) (by omega)).1 (by omega) this
      · rw [kz 14 0 2 (by omega) (by omega) (by omega) (by omega)]; exact hC.ents
      · rw [kz 15 0 i (by omega) (by omega) (by omega) (by omega), kz 16 0 i (by omega) (by omega) (by omega) (by omega)]; exact hC.book i hi
      · rw [kz 0 0 11 (by omega) (by omega) (by omega) (by omega)]; exact hC.kept
      · rw [kz 13 0 i (by omega) (by omega) (by omega) (by omega)]
        exact ⟨kT _ _ (hW.img i hi hi2).1.1 (by omega) (hC.img i hi hi2).1, (hC.img i hi hi2).2⟩
  · rw [show o_undo σ = _ by unfold o_undo; rw [if_neg h0]]
    refine Sp.of rfl kX10_undo (Nat.le_of_ble_eq_true rfl) ?_
    refine u_aloadn (k := 0) rfl rfl ?_
    refine a_getr (k := 1) rfl fRX10_33 rfl rfl rfl ?_
    refine u_aloadn (k := 2) rfl rfl ?_
    refine a_getr (k := 3) rfl fRX10_26 rfl rfl rfl ?_
    refine i_virt1 (M' := mX2_restore) (k := 4) rfl lRX10_235 oX2_restore vX2_restore ⟨Nat.le_of_ble_eq_true rfl, Nat.le_of_ble_eq_true rfl⟩ rfl rfl (Nat.le_of_ble_eq_true rfl) (x_restoreNo h (by rw [hC.cnt]; omega)) ?_
    refine a_if_eq (k := 5) rfl (fun c_11 => ?_) (fun c_11 => ?_)
    · refine a_ldc (k := 10) rfl nRX10_195 ⟨by decide, by decide⟩ ?_
      refine a_ireturn (k := 11) rfl rfl ?_
      exact ⟨rfl, hC, FC.rf⟩
    · omega
def o_keep (σ : AS) (i : Int) : Int × AS := if 0 ≤ i ∧ i < 2 then (1, mkA σ.now σ.laid σ.L σ.tx σ.fault σ.drawn 0 σ.hist σ.ents σ.book (un σ.kept i.toNat true) (un σ.img i.toNat σ.now) (un σ.iseed i.toNat σ.drawn)) else (UNK, σ)
theorem setT2 (p : Nat → Bool) (q : Nat) (hq : q < 2) : setT p 2 ||| 2 ^ q = setT (un p q true) 2 ∧ setT p 2 < 4 := by
  have : q = 0 ∨ q = 1 := by omega
  rcases this with rfl | rfl <;> cases h0 : p 0 <;> cases h1 : p 1 <;> simp [setT, un, h0, h1]
theorem setT2b (p : Nat → Bool) (q : Nat) (hq : q < 2) : (setT p 2).testBit q = p q := by
  have : q = 0 ∨ q = 1 := by omega
  rcases this with rfl | rfl <;> cases h0 : p 0 <;> cases h1 : p 1 <;> simp [setT, h0, h1] <;> decide
theorem c_keep {B : Nat} {σ : AS} {h : HH} (hW : WA B σ) (hC : CR σ h) (i : Int) : Sp mX10_keep [vr 0 0, vi i] h (OP (o_keep σ i) h) := by
  by_cases hi : 0 ≤ i ∧ i < 2
  · obtain ⟨q, rfl⟩ : ∃ q : Nat, i = (q : Int) := ⟨i.toNat, by omega⟩
    have hq : q < 2 := by omega
    rw [show o_keep σ (q : Int) = _ by unfold o_keep; rw [if_pos hi]]
    rw [Int.toNat_natCast]
    obtain ⟨k1, k2⟩ := setT2 σ.kept q hq
    have hqp : (2 ^ q : Nat) ≤ 2 := by have : q = 0 ∨ q = 1 := by omega
                                       rcases this with rfl | rfl <;> decide
    refine Sp.of rfl kX10_keep (Nat.le_of_ble_eq_true rfl) ?_
    refine u_iloadn (k := 0) rfl rfl ?_
    refine a_if_lt (k := 1) rfl (fun c_1 => ?_) (fun c_1 => ?_)
    · omega
    · refine u_iloadn (k := 2) rfl rfl ?_
      refine a_iconst (k := 3) rfl ?_
      refine a_icmp_lt (k := 4) rfl (fun c_6 => ?_) (fun c_6 => ?_)
      · refine u_aloadn (k := 7) rfl rfl ?_
        refine a_getr (k := 8) rfl fRX10_37 rfl rfl rfl ?_
        refine u_iloadn (k := 9) rfl rfl ?_
        refine u_aald (k := 10) rfl rfl rfl (by decide) (by omega) rfl ?_
        refine u_aloadn (k := 11) rfl rfl ?_
        refine a_getr (k := 12) rfl fRX10_26 rfl rfl rfl ?_
        refine uv_virt1 (M' := mX9_copyFrom) (k := 13) rfl lRX10_101 oX9_copyFrom vX9_copyFrom ⟨Nat.le_of_ble_eq_true rfl, Nat.le_of_ble_eq_true rfl⟩ rfl rfl (Nat.le_of_ble_eq_true rfl) (x_tcopy (18 + q) 1 h (by omega)) (by intro r g hp; exact hp.1) (fun g hg => ?_)
        obtain ⟨-, hT, hF⟩ := hg; have kz : ∀ t i k, t ≠ 3 → t ≠ 5 → t ≠ 6 → g t i k = h t i k := fun t i k a b c => hF t i k (by rw [mem_tcs]; omega) (by simp)
        refine u_aloadn (k := 14) rfl rfl ?_
        refine a_getr (k := 15) rfl fRX10_41 rfl rfl rfl ?_
        refine u_iloadn (k := 16) rfl rfl ?_
        refine u_aloadn (k := 17) rfl rfl ?_
        refine a_geti (k := 18) rfl fRX10_282 rfl rfl ?_
        rw [kz 0 0 13 (by omega) (by omega) (by omega), hC.drawn]
        refine u_iast (k := 19) rfl rfl rfl (by omega) ?_
        refine u_aloadn (k := 20) rfl rfl ?_
        refine a_dup (k := 21) rfl rfl ?_
        refine a_geti (k := 22) rfl fRX10_114 rfl rfl ?_
        refine a_iconst (k := 23) rfl ?_
        refine u_iloadn (k := 24) rfl rfl ?_
        refine a_ishl (k := 25) rfl ?_
        rw [put_ne (by simp), kz 0 0 11 (by omega) (by omega) (by omega), hC.kept, shl1 (by omega)]
        refine a_ior (k := 26) rfl ?_
        rw [ior_nat (by omega) (by omega), k1]
        refine a_puti (k := 27) rfl pRX10_114 rfl rfl ?_
        refine u_aloadn (k := 28) rfl rfl ?_
        refine a_getr (k := 29) rfl fRX10_33 rfl rfl rfl ?_
        refine v_virt0 (M' := mX2_forgetAll) (k := 30) rfl lRX10_117 oX2_forgetAll vX2_forgetAll ⟨Nat.le_of_ble_eq_true rfl, Nat.le_of_ble_eq_true rfl⟩ rfl rfl (Nat.le_of_ble_eq_true rfl) (x_forget _) ?_
        refine a_iconst (k := 31) rfl ?_
        refine a_ireturn (k := 32) rfl rfl ?_
        have kT : ∀ (t : Nat) (T : Ty), T.1 ≤ 5 → t ≠ 18 + q → TH t T h → TH t T (put (put (put g 13 0 q (σ.drawn : Int)) 0 0 11 ((setT (un σ.kept q true) 2 : Nat) : Int)) 10 0 2 0) := fun t T h5 h2 hT => hT.keep h5 (fun k => by simp only [put_apply, Nat.reduceEqDiff, reduceIte, false_and, and_false, true_and, and_true, and_self, if_false, if_true, not_false_eq_true, not_true_eq_false, ne_eq]; exact hF 3 t k (by rw [mem_tcs]; omega) (by simp)) (fun a i k ha h1 h3 => by rw [put_ne (by omega), put_ne (by omega), put_ne (by omega)]; exact hF a i k (by rw [mem_tcs]; omega) (by simp))
        obtain ⟨n, hn, hn1, hH⟩ := hC.hist
        refine ⟨rfl, ⟨kT _ _ hW.now.1 (by omega) hC.now, ?_, ?_, ?_, fun i hi => ?_, ?_, ?_, ?_, ⟨n, hn, ?_, fun i hi => absurd hi (Nat.not_lt_zero i)⟩, ?_, fun i hi => ?_, ?_, fun i hi hi2 => ?_⟩, (((FC.rf.fr hF tcs_lt (by simp)).pt (by omega)).pt (by omega)).pt (by omega)⟩
        · simp only [put_apply, Nat.reduceEqDiff, reduceIte, false_and, and_false, true_and, and_true, and_self, if_false, if_true, not_false_eq_true, not_true_eq_false, ne_eq]; rw [kz 0 0 10 (by omega) (by omega) (by omega)]; exact hC.laid
        · simp only [put_apply, Nat.reduceEqDiff, reduceIte, false_and, and_false, true_and, and_true, and_self, if_false, if_true, not_false_eq_true, not_true_eq_false, ne_eq]; rw [kz 7 0 11 (by omega) (by omega) (by omega)]; exact hC.htr
        · simp only [put_apply, Nat.reduceEqDiff, reduceIte, false_and, and_false, true_and, and_true, and_self, if_false, if_true, not_false_eq_true, not_true_eq_false, ne_eq]; rw [kz 7 0 4 (by omega) (by omega) (by omega)]; exact hC.L
        · simp only [put_apply, Nat.reduceEqDiff, reduceIte, false_and, and_false, true_and, and_true, and_self, if_false, if_true, not_false_eq_true, not_true_eq_false, ne_eq]; rw [kz 8 0 i (by omega) (by omega) (by omega)]; exact hC.tx i hi
        · simp only [put_apply, Nat.reduceEqDiff, reduceIte, false_and, and_false, true_and, and_true, and_self, if_false, if_true, not_false_eq_true, not_true_eq_false, ne_eq]; rw [kz 0 0 12 (by omega) (by omega) (by omega)]; exact hC.fault
        · simp only [put_apply, Nat.reduceEqDiff, reduceIte, false_and, and_false, true_and, and_true, and_self, if_false, if_true, not_false_eq_true, not_true_eq_false, ne_eq]; rw [kz 0 0 13 (by omega) (by omega) (by omega)]; exact hC.drawn
        · rw [put_eq]; rfl
        · simp only [put_apply, Nat.reduceEqDiff, reduceIte, false_and, and_false, true_and, and_true, and_self, if_false, if_true, not_false_eq_true, not_true_eq_false, ne_eq]; rw [kz 10 0 1 (by omega) (by omega) (by omega)]; exact hn1
        · simp only [put_apply, Nat.reduceEqDiff, reduceIte, false_and, and_false, true_and, and_true, and_self, if_false, if_true, not_false_eq_true, not_true_eq_false, ne_eq]; rw [kz 14 0 2 (by omega) (by omega) (by omega)]; exact hC.ents
        · simp only [put_apply, Nat.reduceEqDiff, reduceIte, false_and, and_false, true_and, and_true, and_self, if_false, if_true, not_false_eq_true, not_true_eq_false, ne_eq]; rw [kz 15 0 i (by omega) (by omega) (by omega), kz 16 0 i (by omega) (by omega) (by omega)]; exact hC.book i hi
        · simp only [put_apply, Nat.reduceEqDiff, reduceIte, false_and, and_false, true_and, and_true, and_self, if_false, if_true, not_false_eq_true, not_true_eq_false, ne_eq]; rfl
        · have hi2 : un σ.kept q true i = true := hi2
          show TH (18 + i) (un σ.img q σ.now i) _ ∧ _ = ((un σ.iseed q σ.drawn i : Nat) : Int)
          by_cases he : i = q
          · subst he
            rw [un_eq, un_eq]
            refine ⟨(hC.now.copy hW.now hT).keep hW.now.1 (fun k => by simp only [put_apply, Nat.reduceEqDiff, reduceIte, false_and, and_false, true_and, and_true, and_self, if_false, if_true, not_false_eq_true, not_true_eq_false, ne_eq]) (fun a i k ha h1 h3 => by rw [put_ne (by omega), put_ne (by omega), put_ne (by omega)]), by simp only [put_apply, Nat.reduceEqDiff, reduceIte, false_and, and_false, true_and, and_true, and_self, if_false, if_true, not_false_eq_true, not_true_eq_false, ne_eq]⟩
          · rw [un_ne _ _ he] at hi2
            rw [un_ne _ _ he, un_ne _ _ he, put_ne (by simp), put_ne (by simp), put_ne (by simp [he]), kz 13 0 i (by omega) (by omega) (by omega)]
            exact ⟨kT _ _ (hW.img i hi hi2).1.1 (by omega) (hC.img i hi hi2).1, (hC.img i hi hi2).2⟩
      · omega
  · rw [show o_keep σ i = _ by unfold o_keep; rw [if_neg hi]]
    refine Sp.of rfl kX10_keep (Nat.le_of_ble_eq_true rfl) ?_
    refine u_iloadn (k := 0) rfl rfl ?_
    refine a_if_lt (k := 1) rfl (fun c_1 => ?_) (fun c_1 => ?_)
    · refine a_ldc (k := 5) rfl nRX10_145 ⟨by decide, by decide⟩ ?_
      refine a_ireturn (k := 6) rfl rfl ?_
      exact ⟨rfl, hC, FC.rf⟩
    · refine u_iloadn (k := 2) rfl rfl ?_
      refine a_iconst (k := 3) rfl ?_
      refine a_icmp_lt (k := 4) rfl (fun c_6 => ?_) (fun c_6 => ?_)
      · omega
      · refine a_ldc (k := 5) rfl nRX10_145 ⟨by decide, by decide⟩ ?_
        refine a_ireturn (k := 6) rfl rfl ?_
        exact ⟨rfl, hC, FC.rf⟩
def o_goBack (σ : AS) (i : Int) : Int × AS := if 0 ≤ i ∧ i < 2 then (if σ.kept i.toNat then (1, mkA (σ.img i.toNat) σ.laid σ.L σ.tx σ.fault (σ.iseed i.toNat) 0 σ.hist σ.ents σ.book σ.kept σ.img σ.iseed) else (NOT_, σ)) else (UNK, σ)
theorem c_goBack {B : Nat} {σ : AS} {h : HH} (hW : WA B σ) (hC : CR σ h) (i : Int) : Sp mX10_goBack [vr 0 0, vi i] h (OP (o_goBack σ i) h) := by
  by_cases hi : 0 ≤ i ∧ i < 2
  · obtain ⟨q, rfl⟩ : ∃ q : Nat, i = (q : Int) := ⟨i.toNat, by omega⟩
    have hq : q < 2 := by omega
    rw [show o_goBack σ (q : Int) = _ by unfold o_goBack; rw [if_pos hi]]
    rw [Int.toNat_natCast]
    obtain ⟨k1, k2⟩ := setT2 σ.kept q hq
    have k3 := setT2b σ.kept q hq
    by_cases hkp : σ.kept q = true
    · rw [if_pos hkp]
      refine Sp.of rfl kX10_goBack (Nat.le_of_ble_eq_true rfl) ?_
      refine u_iloadn (k := 0) rfl rfl ?_
      refine a_if_lt (k := 1) rfl (fun c_1 => ?_) (fun c_1 => ?_)
      · omega
      · refine u_iloadn (k := 2) rfl rfl ?_
        refine a_iconst (k := 3) rfl ?_
        refine a_icmp_lt (k := 4) rfl (fun c_6 => ?_) (fun c_6 => ?_)
        · refine u_aloadn (k := 7) rfl rfl ?_
          refine a_geti (k := 8) rfl fRX10_114 rfl rfl ?_
          refine u_iloadn (k := 9) rfl rfl ?_
          rw [hC.kept]
          refine i_stat2 (M' := mX10_isIn) (k := 10) rfl lRX10_228 oX10_isIn vX10_isIn ⟨Nat.le_of_ble_eq_true rfl, Nat.le_of_ble_eq_true rfl⟩ rfl (Nat.le_of_ble_eq_true rfl) (x_isIn _ q h (by omega) (by omega)) ?_
          refine a_if_ne (k := 11) rfl (fun c_20 => ?_) (fun c_20 => ?_)
          · refine u_aloadn (k := 14) rfl rfl ?_
            refine a_getr (k := 15) rfl fRX10_26 rfl rfl rfl ?_
            refine u_aloadn (k := 16) rfl rfl ?_
            refine a_getr (k := 17) rfl fRX10_37 rfl rfl rfl ?_
            refine u_iloadn (k := 18) rfl rfl ?_
            refine u_aald (k := 19) rfl rfl rfl (by decide) (by omega) rfl ?_
            refine uv_virt1 (M' := mX9_copyFrom) (k := 20) rfl lRX10_101 oX9_copyFrom vX9_copyFrom ⟨Nat.le_of_ble_eq_true rfl, Nat.le_of_ble_eq_true rfl⟩ rfl rfl (Nat.le_of_ble_eq_true rfl) (x_tcopy 1 (18 + q) h (by omega)) (by intro r g hp; exact hp.1) (fun g hg => ?_)
            obtain ⟨-, hT, hF⟩ := hg; have kz : ∀ t i k, t ≠ 3 → t ≠ 5 → t ≠ 6 → g t i k = h t i k := fun t i k a b c => hF t i k (by rw [mem_tcs]; omega) (by simp)
            refine u_aloadn (k := 21) rfl rfl ?_
            refine u_aloadn (k := 22) rfl rfl ?_
            refine a_getr (k := 23) rfl fRX10_41 rfl rfl rfl ?_
            refine u_iloadn (k := 24) rfl rfl ?_
            refine u_iald (k := 25) rfl rfl rfl (by omega) ?_
            rw [kz 13 0 q (by omega) (by omega) (by omega), (hC.img q hq hkp).2]
            refine a_puti (k := 26) rfl pRX10_282 rfl rfl ?_
            refine u_aloadn (k := 27) rfl rfl ?_
            refine a_getr (k := 28) rfl fRX10_33 rfl rfl rfl ?_
            refine v_virt0 (M' := mX2_forgetAll) (k := 29) rfl lRX10_117 oX2_forgetAll vX2_forgetAll ⟨Nat.le_of_ble_eq_true rfl, Nat.le_of_ble_eq_true rfl⟩ rfl rfl (Nat.le_of_ble_eq_true rfl) (x_forget _) ?_
            refine a_iconst (k := 30) rfl ?_
            refine a_ireturn (k := 31) rfl rfl ?_
            have kT : ∀ (t : Nat) (T : Ty), T.1 ≤ 5 → 2 ≤ t → TH t T h → TH t T (put (put g 0 0 13 (σ.iseed q : Int)) 10 0 2 0) := fun t T h5 h2 hT => hT.keep h5 (fun k => by simp only [put_apply, Nat.reduceEqDiff, reduceIte, false_and, and_false, true_and, and_true, and_self, if_false, if_true, not_false_eq_true, not_true_eq_false, ne_eq]; exact hF 3 t k (by rw [mem_tcs]; omega) (by simp)) (fun a i k ha h1 h3 => by rw [put_ne (by omega), put_ne (by omega)]; exact hF a i k (by rw [mem_tcs]; omega) (by simp))
            obtain ⟨n, hn, hn1, hH⟩ := hC.hist
            refine ⟨rfl, ⟨?_, ?_, ?_, ?_, fun i hi => ?_, ?_, ?_, ?_, ⟨n, hn, ?_, fun i hi => absurd hi (Nat.not_lt_zero i)⟩, ?_, fun i hi => ?_, ?_, fun i hi hi2 => ?_⟩, ((FC.rf.fr hF tcs_lt (by simp)).pt (by omega)).pt (by omega)⟩
            · exact (((hC.img q hq hkp).1.copy (hW.img q hq hkp).1 hT).keep (hW.img q hq hkp).1.1 (fun k => by simp only [put_apply, Nat.reduceEqDiff, reduceIte, false_and, and_false, true_and, and_true, and_self, if_false, if_true, not_false_eq_true, not_true_eq_false, ne_eq]) (fun a i k ha h1 h3 => by rw [put_ne (by omega), put_ne (by omega)]))
            · simp only [put_apply, Nat.reduceEqDiff, reduceIte, false_and, and_false, true_and, and_true, and_self, if_false, if_true, not_false_eq_true, not_true_eq_false, ne_eq]; rw [kz 0 0 10 (by omega) (by omega) (by omega)]; exact hC.laid
            · simp only [put_apply, Nat.reduceEqDiff, reduceIte, false_and, and_false, true_and, and_true, and_self, if_false, if_true, not_false_eq_true, not_true_eq_false, ne_eq]; rw [kz 7 0 11 (by omega) (by omega) (by omega)]; exact hC.htr
            · simp only [put_apply, Nat.reduceEqDiff, reduceIte, false_and, and_false, true_and, and_true, and_self, if_false, if_true, not_false_eq_true, not_true_eq_false, ne_eq]; rw [kz 7 0 4 (by omega) (by omega) (by omega)]; exact hC.L
            · simp only [put_apply, Nat.reduceEqDiff, reduceIte, false_and, and_false, true_and, and_true, and_self, if_false, if_true, not_false_eq_true, not_true_eq_false, ne_eq]; rw [kz 8 0 i (by omega) (by omega) (by omega)]; exact hC.tx i hi
            · simp only [put_apply, Nat.reduceEqDiff, reduceIte, false_and, and_false, true_and, and_true, and_self, if_false, if_true, not_false_eq_true, not_true_eq_false, ne_eq]; rw [kz 0 0 12 (by omega) (by omega) (by omega)]; exact hC.fault
            · simp only [put_apply, Nat.reduceEqDiff, reduceIte, false_and, and_false, true_and, and_true, and_self, if_false, if_true, not_false_eq_true, not_true_eq_false, ne_eq]; rfl
            · rw [put_eq]; rfl
            · simp only [put_apply, Nat.reduceEqDiff, reduceIte, false_and, and_false, true_and, and_true, and_self, if_false, if_true, not_false_eq_true, not_true_eq_false, ne_eq]; rw [kz 10 0 1 (by omega) (by omega) (by omega)]; exact hn1
            · simp only [put_apply, Nat.reduceEqDiff, reduceIte, false_and, and_false, true_and, and_true, and_self, if_false, if_true, not_false_eq_true, not_true_eq_false, ne_eq]; rw [kz 14 0 2 (by omega) (by omega) (by omega)]; exact hC.ents
            · simp only [put_apply, Nat.reduceEqDiff, reduceIte, false_and, and_false, true_and, and_true, and_self, if_false, if_true, not_false_eq_true, not_true_eq_false, ne_eq]; rw [kz 15 0 i (by omega) (by omega) (by omega), kz 16 0 i (by omega) (by omega) (by omega)]; exact hC.book i hi
            · simp only [put_apply, Nat.reduceEqDiff, reduceIte, false_and, and_false, true_and, and_true, and_self, if_false, if_true, not_false_eq_true, not_true_eq_false, ne_eq]; rw [kz 0 0 11 (by omega) (by omega) (by omega)]; exact hC.kept
            · rw [put_ne (by simp), put_ne (by simp), kz 13 0 i (by omega) (by omega) (by omega)]
              exact ⟨kT _ _ (hW.img i hi hi2).1.1 (by omega) (hC.img i hi hi2).1, (hC.img i hi hi2).2⟩
          · unfold tbi at c_20; rw [k3, hkp] at c_20; simp at c_20
        · omega
    · rw [if_neg hkp]
      refine Sp.of rfl kX10_goBack (Nat.le_of_ble_eq_true rfl) ?_
      refine u_iloadn (k := 0) rfl rfl ?_
      refine a_if_lt (k := 1) rfl (fun c_1 => ?_) (fun c_1 => ?_)
      · omega
      · refine u_iloadn (k := 2) rfl rfl ?_
        refine a_iconst (k := 3) rfl ?_
        refine a_icmp_lt (k := 4) rfl (fun c_6 => ?_) (fun c_6 => ?_)
        · refine u_aloadn (k := 7) rfl rfl ?_
          refine a_geti (k := 8) rfl fRX10_114 rfl rfl ?_
          refine u_iloadn (k := 9) rfl rfl ?_
          rw [hC.kept]
          refine i_stat2 (M' := mX10_isIn) (k := 10) rfl lRX10_228 oX10_isIn vX10_isIn ⟨Nat.le_of_ble_eq_true rfl, Nat.le_of_ble_eq_true rfl⟩ rfl (Nat.le_of_ble_eq_true rfl) (x_isIn _ q h (by omega) (by omega)) ?_
          refine a_if_ne (k := 11) rfl (fun c_20 => ?_) (fun c_20 => ?_)
          · unfold tbi at c_20; rw [k3] at c_20; simp [hkp] at c_20
          · refine a_ldc (k := 12) rfl nRX10_195 ⟨by decide, by decide⟩ ?_
            refine a_ireturn (k := 13) rfl rfl ?_
            exact ⟨rfl, hC, FC.rf⟩
        · omega
  · rw [show o_goBack σ i = _ by unfold o_goBack; rw [if_neg hi]]
    refine Sp.of rfl kX10_goBack (Nat.le_of_ble_eq_true rfl) ?_
    refine u_iloadn (k := 0) rfl rfl ?_
    refine a_if_lt (k := 1) rfl (fun c_1 => ?_) (fun c_1 => ?_)
    · refine a_ldc (k := 5) rfl nRX10_145 ⟨by decide, by decide⟩ ?_
      refine a_ireturn (k := 6) rfl rfl ?_
      exact ⟨rfl, hC, FC.rf⟩
    · refine u_iloadn (k := 2) rfl rfl ?_
      refine a_iconst (k := 3) rfl ?_
      refine a_icmp_lt (k := 4) rfl (fun c_6 => ?_) (fun c_6 => ?_)
      · omega
      · refine a_ldc (k := 5) rfl nRX10_145 ⟨by decide, by decide⟩ ?_
        refine a_ireturn (k := 6) rfl rfl ?_
        exact ⟨rfl, hC, FC.rf⟩
