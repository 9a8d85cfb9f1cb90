theorem MR.flds {B : Nat} {σ σ' : AS} {h g : HH} (hW : WA B σ) (hM : MR σ h) (h41 : ∀ k, g 41 0 k = h 41 0 k) (e1 : σ'.now = σ.now) (e2 : σ'.hist = σ.hist) (e3 : σ'.cnt = 0 ∨ σ'.cnt = σ.cnt) (e4 : σ'.img = σ.img) (e5 : ∀ i, i < 2 → σ'.kept i = true → σ.kept i = true ∧ g 42 0 i = (σ'.iseed i : Int)) (f1 : g 40 0 1 = b01 σ'.laid) (f3 : g 40 0 6 = (σ'.L : Int)) (f4 : ∀ i, i < σ'.L → g 44 0 i = sb (σ'.tx i : Int)) (f5 : g 40 0 11 = σ'.fault) (f6 : g 40 0 3 = (σ'.drawn : Int)) (f7 : g 40 0 2 = (σ'.cnt : Int)) (f8 : g 40 0 17 = (σ'.ents : Int)) (f9 : ∀ i, i < σ'.ents → g 48 0 i = ((σ'.book i).1 : Int) ∧ g 49 0 i = ((σ'.book i).2 : Int)) (f10 : ∀ i, i < 2 → g 43 0 i = if σ'.kept i then (if σ'.laid then 2 else 1) else 0) : MR σ' g := by
  refine ⟨by rw [e1]; exact hM.now.keep hW.now (fun k _ _ => h41 k), f1, f3, f4, f5, f6, f7, fun i hi => ?_, f8, f9, f10, fun i hi hk => ⟨by rw [e4]; exact (hM.img i hi (e5 i hi hk).1).1.keep (hW.img i hi (e5 i hi hk).1).1 (fun k _ _ => h41 k), (e5 i hi hk).2⟩⟩
  rcases e3 with e3 | e3
  · omega
  · rw [e3] at hi
    rw [e2, e3]
    exact (hM.hist i hi).keep (hW.hist i hi) (fun k _ _ => h41 k)
theorem m_known {B : Nat} {σ : AS} {h : HH} (hW : WA B σ) (hM : MR σ h) : Sp mX11_known [vr 40 0] h (fun z g => z = none ∧ MR σ.rem g ∧ ∀ t i k, ¬ (t = 41 ∧ i = 0 ∧ 92 ≤ k) → ¬ (t = 40 ∧ i = 0 ∧ k = 2) → g t i k = h t i k) := by
  have h16 := hW.cnt
  have key : ∀ (g : HH) (c : Nat), c < 16 → c + 1 = min (σ.cnt + 1) 16 → (∀ i, i < c → TM (c - i) (σ.hist i) g) → (∀ k, k < 92 → g 41 0 k = h 41 0 k) → (∀ k, 92 * 17 ≤ k → g 41 0 k = h 41 0 k) → g 40 0 2 = (c : Int) → (∀ t i k, ¬ (t = 41 ∧ i = 0 ∧ 92 ≤ k) → ¬ (t = 40 ∧ i = 0 ∧ k = 2) → g t i k = h t i k) → AW mX11_known (fun z g => z = none ∧ MR σ.rem g ∧ ∀ t i k, ¬ (t = 41 ∧ i = 0 ∧ 92 ≤ k) → ¬ (t = 40 ∧ i = 0 ∧ k = 2) → g t i k = h t i k) 46 [(0, vr 40 0)] [] g := by
    intro g c hc hc1 hh h0 h17 h2 hF
    refine u_aloadn (k := 24) rfl rfl ?_
    refine a_dup (k := 25) rfl rfl ?_
    refine a_geti (k := 26) rfl fRX11_166 rfl rfl ?_
    rw [h2]
    refine a_iconst (k := 27) rfl ?_
    refine u_iadd (k := 28) rfl (by omega) ?_
    refine a_puti (k := 29) rfl pRX11_166 rfl rfl ?_
    refine u_aloadn (k := 30) rfl rfl ?_
    refine a_iconst (k := 31) rfl ?_
    refine u_aloadn (k := 32) rfl rfl ?_
    refine a_geti (k := 33) rfl fRX11_166 rfl rfl ?_
    rw [put_eq, show ((c : Int) + 1) = ((c + 1 : Nat) : Int) by omega]
    refine uv_virt2 (M' := mX11_copies) (k := 34) rfl lRX11_276 oX11_copies vX11_copies ⟨Nat.le_of_ble_eq_true rfl, Nat.le_of_ble_eq_true rfl⟩ rfl rfl (Nat.le_of_ble_eq_true rfl) (m_copies 0 (c + 1) _ (by omega) (by omega) (by omega)) (by intro r g hp; exact hp.1) (fun g2 hg2 => ?_)
    obtain ⟨-, hcp, hF2⟩ := hg2
    refine a_return (k := 35) rfl rfl ?_
    have k41 : ∀ k, ¬ (92 * (c + 1) ≤ k ∧ k < 92 * (c + 1) + 92) → g2 41 0 k = g 41 0 k := fun k hk => by rw [hF2 41 0 k (by omega), put_ne (by omega)]
    have kz : ∀ t i k, t ≠ 41 → ¬ (t = 40 ∧ i = 0 ∧ k = 2) → g2 t i k = h t i k := fun t i k h1 h3 => by rw [hF2 t i k (by omega), put_ne (by omega)]; exact hF t i k (by omega) h3
    refine ⟨rfl, ⟨hM.now.keep hW.now (fun k k1 k2 => by rw [k41 k (by omega)]; exact h0 k (by omega)), ?_, ?_, fun i hi => ?_, ?_, ?_, ?_, fun i hi => ?_, ?_, fun i hi => ?_, fun i hi => ?_, fun i hi hi2 => ⟨(hM.img i hi hi2).1.keep (hW.img i hi hi2).1 (fun k k1 k2 => by rw [k41 k (by omega)]; exact h17 k (by omega)), ?_⟩⟩, fun t i k h1 h3 => ?_⟩
    · rw [kz 40 0 1 (by omega) (by omega)]; exact hM.laid
    · rw [kz 40 0 6 (by omega) (by omega)]; exact hM.L
    · rw [kz 44 0 i (by omega) (by omega)]; exact hM.tx i hi
    · rw [kz 40 0 11 (by omega) (by omega)]; exact hM.fault
    · rw [kz 40 0 3 (by omega) (by omega)]; exact hM.drawn
    · rw [hF2 40 0 2 (by omega), put_eq]
      show _ = ((min (σ.cnt + 1) 16 : Nat) : Int)
      omega
    · have hi : i < min (σ.cnt + 1) 16 := hi
      show TM (min (σ.cnt + 1) 16 - i) (push σ.now σ.hist i) g2
      unfold push
      split
      · rename_i hi0
        rw [show min (σ.cnt + 1) 16 - i = c + 1 by omega]
        refine hM.now.move hW.now (fun k hk => ?_)
        rw [hcp k hk, put_ne (by omega), show 92 * 0 + k = k by omega]
        exact h0 k hk
      · have := hh (i - 1) (by omega)
        rw [show min (σ.cnt + 1) 16 - i = c - (i - 1) by omega]
        exact this.keep (hW.hist (i - 1) (by omega)) (fun k k1 k2 => k41 k (by omega))
    · rw [kz 40 0 17 (by omega) (by omega)]; exact hM.ents
    · rw [kz 48 0 i (by omega) (by omega), kz 49 0 i (by omega) (by omega)]; exact hM.book i hi
    · rw [kz 43 0 i (by omega) (by omega)]; exact hM.kept i hi
    · rw [kz 42 0 i (by omega) (by omega)]; exact (hM.img i hi hi2).2
    · rw [hF2 t i k (by omega), put_ne (by omega)]; exact hF t i k h1 h3
  have Lp : σ.cnt = 16 → ∀ (d q : Nat) (g : HH), q + d = 1472 → 92 ≤ q → (∀ k, 92 ≤ k → k < q → g 41 0 k = h 41 0 (k + 92)) → (∀ t i k, ¬ (t = 41 ∧ i = 0 ∧ 92 ≤ k ∧ k < q) → g t i k = h t i k) → AW mX11_known (fun z g => z = none ∧ MR σ.rem g ∧ ∀ t i k, ¬ (t = 41 ∧ i = 0 ∧ 92 ≤ k) → ¬ (t = 40 ∧ i = 0 ∧ k = 2) → g t i k = h t i k) 12 [(1, vi q), (0, vr 40 0)] [] g := by
    intro hc d
    induction d with
    | zero =>
      intro q g hq hq2 h1 h2
      have hq : q = 1472 := by omega
      subst hq
      refine u_iloadn (k := 6) rfl rfl ?_
      refine a_sipush (k := 7) rfl ?_
      refine a_icmp_ge (k := 8) rfl (fun c_16 => ?_) (fun c_16 => ?_)
      · refine u_aloadn (k := 21) rfl rfl ?_
        refine a_bipush (k := 22) rfl ?_
        refine a_puti (k := 23) rfl pRX11_166 rfl rfl ?_
        refine a_sub [1] rfl ?_
        refine key _ 15 (by omega) (by omega) (fun i hi => ?_) (fun k hk => ?_) (fun k hk => ?_) (by rw [put_eq]; rfl) (fun t i k t1 t2 => ?_)
        · refine (hM.hist i (by omega)).move (hW.hist i (by omega)) (fun k hk => ?_)
          rw [put_ne (by omega), h1 _ (by omega) (by omega), hc]
          congr 1
          omega
        · rw [put_ne (by omega)]; exact h2 41 0 k (by omega)
        · rw [put_ne (by omega)]; exact h2 41 0 k (by omega)
        · rw [put_ne (by omega)]; exact h2 t i k (by omega)
      · omega
    | succ d ih =>
      intro q g hq hq2 h1 h2
      have hv : g 41 0 (q + 92) = h 41 0 (q + 92) := h2 41 0 _ (by omega)
      refine u_iloadn (k := 6) rfl rfl ?_
      refine a_sipush (k := 7) rfl ?_
      refine a_icmp_ge (k := 8) rfl (fun c_16 => ?_) (fun c_16 => ?_)
      · omega
      · refine u_aloadn (k := 9) rfl rfl ?_
        refine a_getr (k := 10) rfl fRX11_7 rfl rfl rfl ?_
        refine u_iloadn (k := 11) rfl rfl ?_
        refine u_aloadn (k := 12) rfl rfl ?_
        refine a_getr (k := 13) rfl fRX11_7 rfl rfl rfl ?_
        refine u_iloadn (k := 14) rfl rfl ?_
        refine a_bipush (k := 15) rfl ?_
        refine u_iadd (k := 16) rfl (by omega) ?_
        refine u_ialdx (q + 92) (k := 17) rfl rfl rfl (by omega) (by omega) ?_
        rw [hv]
        refine u_iast (k := 18) rfl rfl rfl (by omega) ?_
        refine u_iinc (k := 19) (lv' := [(1, _), (0, _)]) rfl rfl (Nat.le_of_ble_eq_true rfl) (by omega) rfl ?_
        refine a_goto (k := 20) rfl ?_
        refine ih (q + 1) _ (by omega) (by omega) (fun k k1 k2 => ?_) (fun t i k hn => ?_)
        · by_cases he : k = q
          · subst he; rw [put_eq]
          · rw [put_ne (by omega)]; exact h1 k k1 (by omega)
        · rw [put_ne (by omega)]; exact h2 t i k (by omega)
  refine Sp.of rfl kX11_known (Nat.le_of_ble_eq_true rfl) ?_
  refine u_aloadn (k := 0) rfl rfl ?_
  refine a_geti (k := 1) rfl fRX11_166 rfl rfl ?_
  refine a_bipush (k := 2) rfl ?_
  rw [hM.cnt]
  refine a_icmp_ne (k := 3) rfl (fun c_6 => ?_) (fun c_6 => ?_)
  · exact key h σ.cnt (by omega) (by omega) hM.hist (fun _ _ => rfl) (fun _ _ => rfl) hM.cnt (fun _ _ _ _ _ => rfl)
  · refine a_bipush (k := 4) rfl ?_
    refine a_istoren (k := 5) (lv' := [(1, _), (0, _)]) rfl (Nat.le_of_ble_eq_true rfl) rfl ?_
    exact Lp (by omega) 1380 92 h (by omega) (by omega) (fun k h1 h2 => by omega) (fun _ _ _ _ => rfl)
/-! simple ones over the state -/
theorem sb_sb (l : Int) : sb (sb l) = sb l := by
  unfold sb
  rw [Int32.ofInt_toInt]
  simp
theorem n_feed {B : Nat} {σ : AS} {h : HH} (hW : WA B σ) (hM : MR σ h) (l : Int) : Sp mX11_feed [vr 40 0, vi l] h (MP (o_feed σ l) h) := by
  have h240 := hW.L
  by_cases hl : 0 ≤ l ∧ l ≤ 255
  · have hi : inb l 0 255 = true := inb_iff.mpr hl
    by_cases h2 : σ.L < 240
    · rw [show o_feed σ l = _ by unfold o_feed; rw [if_pos hl, if_pos h2]]
      refine Sp.of rfl kX11_feed (Nat.le_of_ble_eq_true rfl) ?_
      refine u_iloadn (k := 0) rfl rfl ?_
      refine a_i2l (k := 1) rfl ?_
      refine a_lconst (k := 2) rfl ?_
      refine a_ldc2 (k := 3) rfl nRX11_95 ⟨by decide, by decide⟩ ?_
      refine i_stat3 (M' := mX11_in) (k := 4) rfl lRX11_81 oX11_in vX11_in ⟨Nat.le_of_ble_eq_true rfl, Nat.le_of_ble_eq_true rfl⟩ rfl (Nat.le_of_ble_eq_true rfl) (m_in l 0 255 h) ?_
      rw [hi]
      refine a_if_ne (k := 5) rfl (fun c_9 => ?_) (fun c_9 => ?_)
      · refine u_aloadn (k := 8) rfl rfl ?_
        refine a_geti (k := 9) rfl fRX11_98 rfl rfl ?_
        refine a_sipush (k := 10) rfl ?_
        rw [hM.L]
        refine a_icmp_ne (k := 11) rfl (fun c_22 => ?_) (fun c_22 => ?_)
        · refine u_aloadn (k := 14) rfl rfl ?_
          refine a_getr (k := 15) rfl fRX11_19 rfl rfl rfl ?_
          refine u_aloadn (k := 16) rfl rfl ?_
          refine a_geti (k := 17) rfl fRX11_98 rfl rfl ?_
          rw [hM.L]
          refine u_iloadn (k := 18) rfl rfl ?_
          refine a_i2b (k := 19) rfl ?_
          refine u_bast (k := 20) rfl rfl rfl (by omega) ?_
          refine u_aloadn (k := 21) rfl rfl ?_
          refine a_dup (k := 22) rfl rfl ?_
          refine a_geti (k := 23) rfl fRX11_98 rfl rfl ?_
          rw [put_ne (by simp), hM.L]
          refine a_iconst (k := 24) rfl ?_
          refine u_iadd (k := 25) rfl (by omega) ?_
          refine a_puti (k := 26) rfl pRX11_98 rfl rfl ?_
          refine u_aloadn (k := 27) rfl rfl ?_
          refine a_geti (k := 28) rfl fRX11_98 rfl rfl ?_
          rw [put_eq]
          refine a_ireturn (k := 29) rfl rfl ?_
          refine ⟨by congr 2, hM.flds hW (fun k => by simp only [put_apply, Nat.reduceEqDiff, reduceIte, false_and, and_false, true_and, and_true, and_self, if_false, if_true, not_false_eq_true, not_true_eq_false, ne_eq]) rfl rfl (Or.inr rfl) rfl (fun i hi hk => ⟨hk, by simp only [put_apply, Nat.reduceEqDiff, reduceIte, false_and, and_false, true_and, and_true, and_self, if_false, if_true, not_false_eq_true, not_true_eq_false, ne_eq]; exact (hM.img i hi hk).2⟩) (by simp only [put_apply, Nat.reduceEqDiff, reduceIte, false_and, and_false, true_and, and_true, and_self, if_false, if_true, not_false_eq_true, not_true_eq_false, ne_eq]; exact hM.laid) (by rw [put_eq]; rfl) (fun i hi => ?_) (by simp only [put_apply, Nat.reduceEqDiff, reduceIte, false_and, and_false, true_and, and_true, and_self, if_false, if_true, not_false_eq_true, not_true_eq_false, ne_eq]; exact hM.fault) (by simp only [put_apply, Nat.reduceEqDiff, reduceIte, false_and, and_false, true_and, and_true, and_self, if_false, if_true, not_false_eq_true, not_true_eq_false, ne_eq]; exact hM.drawn) (by simp only [put_apply, Nat.reduceEqDiff, reduceIte, false_and, and_false, true_and, and_true, and_self, if_false, if_true, not_false_eq_true, not_true_eq_false, ne_eq]; exact hM.cnt) (by simp only [put_apply, Nat.reduceEqDiff, reduceIte, false_and, and_false, true_and, and_true, and_self, if_false, if_true, not_false_eq_true, not_true_eq_false, ne_eq]; exact hM.ents) (fun i hi => by simp only [put_apply, Nat.reduceEqDiff, reduceIte, false_and, and_false, true_and, and_true, and_self, if_false, if_true, not_false_eq_true, not_true_eq_false, ne_eq]; exact hM.book i hi) (fun i hi => by simp only [put_apply, Nat.reduceEqDiff, reduceIte, false_and, and_false, true_and, and_true, and_self, if_false, if_true, not_false_eq_true, not_true_eq_false, ne_eq]; exact hM.kept i hi), (FMo.rf.pt (by omega)).pt (by omega)⟩
          have hi : i < σ.L + 1 := hi
          show _ = sb ((un σ.tx σ.L l.toNat i : Nat) : Int)
          by_cases he : i = σ.L
          · subst he; rw [un_eq, put_ne (by simp), put_eq, sb_sb]; congr 1; omega
          · rw [un_ne _ _ he, put_ne (by simp), put_ne (by simp [he])]; exact hM.tx i (by omega)
        · omega
      · exact absurd c_9 (by decide)
    · rw [show o_feed σ l = _ by unfold o_feed; rw [if_pos hl, if_neg h2]]
      refine Sp.of rfl kX11_feed (Nat.le_of_ble_eq_true rfl) ?_
      refine u_iloadn (k := 0) rfl rfl ?_
      refine a_i2l (k := 1) rfl ?_
      refine a_lconst (k := 2) rfl ?_
      refine a_ldc2 (k := 3) rfl nRX11_95 ⟨by decide, by decide⟩ ?_
      refine i_stat3 (M' := mX11_in) (k := 4) rfl lRX11_81 oX11_in vX11_in ⟨Nat.le_of_ble_eq_true rfl, Nat.le_of_ble_eq_true rfl⟩ rfl (Nat.le_of_ble_eq_true rfl) (m_in l 0 255 h) ?_
      rw [hi]
      refine a_if_ne (k := 5) rfl (fun c_9 => ?_) (fun c_9 => ?_)
      · refine u_aloadn (k := 8) rfl rfl ?_
        refine a_geti (k := 9) rfl fRX11_98 rfl rfl ?_
        refine a_sipush (k := 10) rfl ?_
        rw [hM.L]
        refine a_icmp_ne (k := 11) rfl (fun c_22 => ?_) (fun c_22 => ?_)
        · omega
        · refine a_ldc (k := 12) rfl nRX11_101 ⟨by decide, by decide⟩ ?_
          refine a_ireturn (k := 13) rfl rfl ?_
          exact ⟨rfl, hM, FMo.rf⟩
      · exact absurd c_9 (by decide)
  · rw [show o_feed σ l = _ by unfold o_feed; rw [if_neg hl]]
    have hi : inb l 0 255 = false := Bool.eq_false_iff.mpr (fun z => hl (inb_iff.mp z))
    refine Sp.of rfl kX11_feed (Nat.le_of_ble_eq_true rfl) ?_
    refine u_iloadn (k := 0) rfl rfl ?_
    refine a_i2l (k := 1) rfl ?_
    refine a_lconst (k := 2) rfl ?_
    refine a_ldc2 (k := 3) rfl nRX11_95 ⟨by decide, by decide⟩ ?_
    refine i_stat3 (M' := mX11_in) (k := 4) rfl lRX11_81 oX11_in vX11_in ⟨Nat.le_of_ble_eq_true rfl, Nat.le_of_ble_eq_true rfl⟩ rfl (Nat.le_of_ble_eq_true rfl) (m_in l 0 255 h) ?_
    rw [hi]
    refine a_if_ne (k := 5) rfl (fun c_9 => ?_) (fun c_9 => ?_)
    · exact absurd rfl c_9
    · refine a_ldc (k := 6) rfl nRX11_97 ⟨by decide, by decide⟩ ?_
      refine a_ireturn (k := 7) rfl rfl ?_
      exact ⟨rfl, hM, FMo.rf⟩
theorem n_fault {σ : AS} {h : HH} (hM : MR σ h) : Sp mX11_fault [vr 40 0] h (MP (o_fault σ) h) := by
  refine Sp.of rfl kX11_fault (Nat.le_of_ble_eq_true rfl) ?_
  refine u_aloadn (k := 0) rfl rfl ?_
  refine a_geti (k := 1) rfl fRX11_23 rfl rfl ?_
  rw [hM.fault]
  refine a_ireturn (k := 2) rfl rfl ?_
  exact ⟨rfl, hM, FMo.rf⟩
theorem n_seed {B : Nat} {σ : AS} {h : HH} (hW : WA B σ) (hM : MR σ h) (v : Int) : Sp mX11_seed [vr 40 0, vi v] h (MP (o_seed σ v) h) := by
  by_cases hv : v < 0
  · rw [show o_seed σ v = _ by unfold o_seed; rw [if_pos hv]]
    refine Sp.of rfl kX11_seed (Nat.le_of_ble_eq_true rfl) ?_
    refine u_iloadn (k := 0) rfl rfl ?_
    refine a_if_ge (k := 1) rfl (fun c_1 => ?_) (fun c_1 => ?_)
    · omega
    · refine a_ldc (k := 2) rfl nRX11_97 ⟨by decide, by decide⟩ ?_
      refine a_ireturn (k := 3) rfl rfl ?_
      exact ⟨rfl, hM, FMo.rf⟩
  · rw [show o_seed σ v = _ by unfold o_seed; rw [if_neg hv]]
    refine Sp.of rfl kX11_seed (Nat.le_of_ble_eq_true rfl) ?_
    refine u_iloadn (k := 0) rfl rfl ?_
    refine a_if_ge (k := 1) rfl (fun c_1 => ?_) (fun c_1 => ?_)
    · refine u_aloadn (k := 4) rfl rfl ?_
      refine a_geti (k := 5) rfl fRX11_78 rfl rfl ?_
      rw [hM.drawn]
      refine a_istoren (k := 6) (lv' := [(2, _), (0, _), (1, _)]) rfl (Nat.le_of_ble_eq_true rfl) rfl ?_
      refine u_aloadn (k := 7) rfl rfl ?_
      refine u_iloadn (k := 8) rfl rfl ?_
      refine a_puti (k := 9) rfl pRX11_78 rfl rfl ?_
      refine u_iloadn (k := 10) rfl rfl ?_
      refine a_ireturn (k := 11) rfl rfl ?_
      refine ⟨rfl, hM.flds hW (fun k => by simp only [put_apply, Nat.reduceEqDiff, reduceIte, false_and, and_false, true_and, and_true, and_self, if_false, if_true, not_false_eq_true, not_true_eq_false, ne_eq]) rfl rfl (Or.inr rfl) rfl (fun i hi hk => ⟨hk, by simp only [put_apply, Nat.reduceEqDiff, reduceIte, false_and, and_false, true_and, and_true, and_self, if_false, if_true, not_false_eq_true, not_true_eq_false, ne_eq]; exact (hM.img i hi hk).2⟩) (by simp only [put_apply, Nat.reduceEqDiff, reduceIte, false_and, and_false, true_and, and_true, and_self, if_false, if_true, not_false_eq_true, not_true_eq_false, ne_eq]; exact hM.laid) (by simp only [put_apply, Nat.reduceEqDiff, reduceIte, false_and, and_false, true_and, and_true, and_self, if_false, if_true, not_false_eq_true, not_true_eq_false, ne_eq]; exact hM.L) (fun i hi => by simp only [put_apply, Nat.reduceEqDiff, reduceIte, false_and, and_false, true_and, and_true, and_self, if_false, if_true, not_false_eq_true, not_true_eq_false, ne_eq]; exact hM.tx i hi) (by simp only [put_apply, Nat.reduceEqDiff, reduceIte, false_and, and_false, true_and, and_true, and_self, if_false, if_true, not_false_eq_true, not_true_eq_false, ne_eq]; exact hM.fault) (by rw [put_eq]; show v = ((v.toNat : Nat) : Int); omega) (by simp only [put_apply, Nat.reduceEqDiff, reduceIte, false_and, and_false, true_and, and_true, and_self, if_false, if_true, not_false_eq_true, not_true_eq_false, ne_eq]; exact hM.cnt) (by simp only [put_apply, Nat.reduceEqDiff, reduceIte, false_and, and_false, true_and, and_true, and_self, if_false, if_true, not_false_eq_true, not_true_eq_false, ne_eq]; exact hM.ents) (fun i hi => by simp only [put_apply, Nat.reduceEqDiff, reduceIte, false_and, and_false, true_and, and_true, and_self, if_false, if_true, not_false_eq_true, not_true_eq_false, ne_eq]; exact hM.book i hi) (fun i hi => by simp only [put_apply, Nat.reduceEqDiff, reduceIte, false_and, and_false, true_and, and_true, and_self, if_false, if_true, not_false_eq_true, not_true_eq_false, ne_eq]; exact hM.kept i hi), FMo.rf.pt (by omega)⟩
    · omega
theorem n_tear {B : Nat} {σ : AS} {h : HH} (hW : WA B σ) (hM : MR σ h) : Sp mX11_tear [vr 40 0] h (MP (o_tear σ) h) := by
  refine Sp.of rfl kX11_tear (Nat.le_of_ble_eq_true rfl) ?_
  refine u_aloadn (k := 0) rfl rfl ?_
  refine a_geti (k := 1) rfl fRX11_169 rfl rfl ?_
  rw [hM.ents]
  refine a_istoren (k := 2) (lv' := [(1, _), (0, _)]) rfl (Nat.le_of_ble_eq_true rfl) rfl ?_
  refine u_aloadn (k := 3) rfl rfl ?_
  refine a_iconst (k := 4) rfl ?_
  refine a_puti (k := 5) rfl pRX11_169 rfl rfl ?_
  refine u_iloadn (k := 6) rfl rfl ?_
  refine a_ireturn (k := 7) rfl rfl ?_
  refine ⟨rfl, hM.flds hW (fun k => by simp only [put_apply, Nat.reduceEqDiff, reduceIte, false_and, and_false, true_and, and_true, and_self, if_false, if_true, not_false_eq_true, not_true_eq_false, ne_eq]) rfl rfl (Or.inr rfl) rfl (fun i hi hk => ⟨hk, by simp only [put_apply, Nat.reduceEqDiff, reduceIte, false_and, and_false, true_and, and_true, and_self, if_false, if_true, not_false_eq_true, not_true_eq_false, ne_eq]; exact (hM.img i hi hk).2⟩) (by simp only [put_apply, Nat.reduceEqDiff, reduceIte, false_and, and_false, true_and, and_true, and_self, if_false, if_true, not_false_eq_true, not_true_eq_false, ne_eq]; exact hM.laid) (by simp only [put_apply, Nat.reduceEqDiff, reduceIte, false_and, and_false, true_and, and_true, and_self, if_false, if_true, not_false_eq_true, not_true_eq_false, ne_eq]; exact hM.L) (fun i hi => by simp only [put_apply, Nat.reduceEqDiff, reduceIte, false_and, and_false, true_and, and_true, and_self, if_false, if_true, not_false_eq_true, not_true_eq_false, ne_eq]; exact hM.tx i hi) (by simp only [put_apply, Nat.reduceEqDiff, reduceIte, false_and, and_false, true_and, and_true, and_self, if_false, if_true, not_false_eq_true, not_true_eq_false, ne_eq]; exact hM.fault) (by simp only [put_apply, Nat.reduceEqDiff, reduceIte, false_and, and_false, true_and, and_true, and_self, if_false, if_true, not_false_eq_true, not_true_eq_false, ne_eq]; exact hM.drawn) (by simp only [put_apply, Nat.reduceEqDiff, reduceIte, false_and, and_false, true_and, and_true, and_self, if_false, if_true, not_false_eq_true, not_true_eq_false, ne_eq]; exact hM.cnt) (by rw [put_eq]; rfl) (fun i hi => absurd hi (Nat.not_lt_zero i)) (fun i hi => by simp only [put_apply, Nat.reduceEqDiff, reduceIte, false_and, and_false, true_and, and_true, and_self, if_false, if_true, not_false_eq_true, not_true_eq_false, ne_eq]; exact hM.kept i hi), FMo.rf.pt (by omega)⟩
