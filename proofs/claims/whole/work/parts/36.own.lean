/-! the class's own methods, over the state -/
abbrev UNK : Int := -1000000001
abbrev OUT : Int := -1000000002
abbrev NOT_ : Int := -1000000003
abbrev FUL : Int := -1000000004
def OP (a : Int × AS) (h : HH) (r : Option AV) (g : HH) : Prop := r = some (vi a.1) ∧ CR a.2 g ∧ FC h g
def AS.on (σ : AS) (k : Int) (F : Nat → Int × AS) : Int × AS := if 0 ≤ k ∧ k < σ.now.1 then F k.toNat else (UNK, σ)
theorem on_no {σ : AS} {k : Int} {F : Nat → Int × AS} (h : k < 0 ∨ (σ.now.1 : Int) ≤ k) : σ.on k F = (UNK, σ) := if_neg (by omega)
theorem on_yes {σ : AS} {k : Nat} {F : Nat → Int × AS} (h : k < σ.now.1) : σ.on (k : Int) F = F k := by
  unfold AS.on
  rw [if_pos (by omega), Int.toNat_natCast]
theorem kcase (k : Int) (n : Nat) : (k < 0 ∨ (n : Int) ≤ k) ∨ ∃ q : Nat, k = (q : Int) ∧ q < n := by
  by_cases h : 0 ≤ k ∧ k < n
  · exact Or.inr ⟨k.toNat, by omega, by omega⟩
  · exact Or.inl (by omega)
theorem CR.flds {B : Nat} {σ σ' : AS} {h g : HH} (hW : WA B σ) (hC : CR σ h) (ht : ∀ t i k, (t = 3 ∧ 1 ≤ i) ∨ ((t = 5 ∨ t = 6) ∧ 5 ≤ i) → g t i k = h t i k) (h10 : g 10 0 1 = h 10 0 1) (e1 : σ'.now = σ.now) (e2 : σ'.hist = σ.hist) (e3 : σ'.cnt ≤ σ.cnt) (e4 : σ'.img = σ.img) (e5 : ∀ i, i < 2 → σ'.kept i = true → σ.kept i = true ∧ g 13 0 i = (σ'.iseed i : Int)) (f1 : g 0 0 10 = b01 σ'.laid) (f2 : g 7 0 11 = b01 σ'.laid) (f3 : g 7 0 4 = (σ'.L : Int)) (f4 : ∀ i, i < σ'.L → g 8 0 i = (σ'.tx i : Int)) (f5 : g 0 0 12 = σ'.fault) (f6 : g 0 0 13 = (σ'.drawn : Int)) (f7 : g 10 0 2 = (σ'.cnt : Int)) (f8 : g 14 0 2 = (σ'.ents : Int)) (f9 : ∀ i, i < σ'.ents → g 15 0 i = ((σ'.book i).1 : Int) ∧ g 16 0 i = ((σ'.book i).2 : Int)) (f10 : g 0 0 11 = ((setT σ'.kept 2 : Nat) : Int)) : CR σ' g := by
  have kT : ∀ (t : Nat) (T : Ty), T.1 ≤ 5 → 1 ≤ t → TH t T h → TH t T g := fun t T h5 h1 hT => hT.keep h5 (fun k => ht 3 t k (by omega)) (fun a i k ha _ _ => ht a i k (by omega))
  obtain ⟨n, hn, hn1, hH⟩ := hC.hist
  exact ⟨by rw [e1]; exact kT 1 _ hW.now.1 (by omega) hC.now, f1, f2, f3, f4, f5, f6, f7, ⟨n, hn, by rw [h10]; exact hn1, fun i hi => by rw [e2]; exact kT _ _ (hW.hist i (by omega)).1 (by omega) (hH i (by omega))⟩, f8, f9, f10, fun i hi hk => ⟨by rw [e4]; exact kT _ _ (hW.img i hi (e5 i hi hk).1).1.1 (by omega) (hC.img i hi (e5 i hi hk).1).1, (e5 i hi hk).2⟩⟩
def o_feed (σ : AS) (l : Int) : Int × AS := if 0 ≤ l ∧ l ≤ 255 then (if σ.L < 240 then (((σ.L + 1 : Nat) : Int), mkA σ.now σ.laid (σ.L + 1) (un σ.tx σ.L l.toNat) σ.fault σ.drawn σ.cnt σ.hist σ.ents σ.book σ.kept σ.img σ.iseed) else (FUL, σ)) else (OUT, σ)
theorem c_feed {B : Nat} {σ : AS} {h : HH} (hW : WA B σ) (hC : CR σ h) (l : Int) : Sp mX10_feed [vr 0 0, vi l] h (OP (o_feed σ l) h) := by
  by_cases hl : 0 ≤ l ∧ l ≤ 255
  · by_cases h2 : σ.L < 240
    · rw [show o_feed σ l = _ by unfold o_feed; rw [if_pos hl, if_pos h2]]
      refine Sp.of rfl kX10_feed (Nat.le_of_ble_eq_true rfl) ?_
      refine u_iloadn (k := 0) rfl rfl ?_
      refine a_if_lt (k := 1) rfl (fun c_1 => ?_) (fun c_1 => ?_)
      · omega
      · refine u_iloadn (k := 2) rfl rfl ?_
        refine a_sipush (k := 3) rfl ?_
        refine a_icmp_le (k := 4) rfl (fun c_8 => ?_) (fun c_8 => ?_)
        · refine u_aloadn (k := 7) rfl rfl ?_
          refine a_getr (k := 8) rfl fRX10_20 rfl rfl rfl ?_
          refine u_iloadn (k := 9) rfl rfl ?_
          refine i_virt1 (M' := mX5_addLetter) (k := 10) rfl lRX10_85 oX5_addLetter vX5_addLetter ⟨Nat.le_of_ble_eq_true rfl, Nat.le_of_ble_eq_true rfl⟩ rfl rfl (Nat.le_of_ble_eq_true rfl) (x_addLetter l σ.L h hC.L h2) ?_
          refine a_if_eq (k := 11) rfl (fun c_22 => ?_) (fun c_22 => ?_)
          · omega
          · refine u_aloadn (k := 12) rfl rfl ?_
            refine a_getr (k := 13) rfl fRX10_20 rfl rfl rfl ?_
            refine a_geti (k := 14) rfl fRX10_89 rfl rfl ?_
            rw [put_eq]
            refine a_goto (k := 15) rfl ?_
            refine a_ireturn (k := 17) rfl rfl ?_
            refine ⟨rfl, hC.flds hW (fun t i k ht => by rw [put_ne (by omega), put_ne (by omega)]) (by simp only [put_apply, Nat.reduceEqDiff, reduceIte, false_and, and_false, true_and, and_true, and_self, if_false, if_true, not_false_eq_true, not_true_eq_false, ne_eq]) rfl rfl (Nat.le_refl _) rfl (fun i hi hk => ⟨hk, by simp only [put_apply, Nat.reduceEqDiff, reduceIte, false_and, and_false, true_and, and_true, and_self, if_false, if_true, not_false_eq_true, not_true_eq_false, ne_eq]; exact (hC.img i hi hk).2⟩) (by simp only [put_apply, Nat.reduceEqDiff, reduceIte, false_and, and_false, true_and, and_true, and_self, if_false, if_true, not_false_eq_true, not_true_eq_false, ne_eq]; exact hC.laid) (by simp only [put_apply, Nat.reduceEqDiff, reduceIte, false_and, and_false, true_and, and_true, and_self, if_false, if_true, not_false_eq_true, not_true_eq_false, ne_eq]; exact hC.htr) (by rw [put_eq]; rfl) (fun i hi => ?_) (by simp only [put_apply, Nat.reduceEqDiff, reduceIte, false_and, and_false, true_and, and_true, and_self, if_false, if_true, not_false_eq_true, not_true_eq_false, ne_eq]; exact hC.fault) (by simp only [put_apply, Nat.reduceEqDiff, reduceIte, false_and, and_false, true_and, and_true, and_self, if_false, if_true, not_false_eq_true, not_true_eq_false, ne_eq]; exact hC.drawn) (by simp only [put_apply, Nat.reduceEqDiff, reduceIte, false_and, and_false, true_and, and_true, and_self, if_false, if_true, not_false_eq_true, not_true_eq_false, ne_eq]; exact hC.cnt) (by simp only [put_apply, Nat.reduceEqDiff, reduceIte, false_and, and_false, true_and, and_true, and_self, if_false, if_true, not_false_eq_true, not_true_eq_false, ne_eq]; exact hC.ents) (fun i hi => by simp only [put_apply, Nat.reduceEqDiff, reduceIte, false_and, and_false, true_and, and_true, and_self, if_false, if_true, not_false_eq_true, not_true_eq_false, ne_eq]; exact hC.book i hi) (by simp only [put_apply, Nat.reduceEqDiff, reduceIte, false_and, and_false, true_and, and_true, and_self, if_false, if_true, not_false_eq_true, not_true_eq_false, ne_eq]; exact hC.kept), (FC.rf.pt (by omega)).pt (by omega)⟩
            have hi : i < σ.L + 1 := hi
            show _ = ((un σ.tx σ.L l.toNat i : Nat) : Int)
            by_cases he : i = σ.L
            · subst he; rw [un_eq, put_ne (by simp), put_eq]; omega
            · rw [un_ne _ _ he, put_ne (by simp), put_ne (by simp [he])]; exact hC.tx i (by omega)
        · omega
    · rw [show o_feed σ l = _ by unfold o_feed; rw [if_pos hl, if_neg h2]]
      refine Sp.of rfl kX10_feed (Nat.le_of_ble_eq_true rfl) ?_
      refine u_iloadn (k := 0) rfl rfl ?_
      refine a_if_lt (k := 1) rfl (fun c_1 => ?_) (fun c_1 => ?_)
      · omega
      · refine u_iloadn (k := 2) rfl rfl ?_
        refine a_sipush (k := 3) rfl ?_
        refine a_icmp_le (k := 4) rfl (fun c_8 => ?_) (fun c_8 => ?_)
        · refine u_aloadn (k := 7) rfl rfl ?_
          refine a_getr (k := 8) rfl fRX10_20 rfl rfl rfl ?_
          refine u_iloadn (k := 9) rfl rfl ?_
          refine i_virt1 (M' := mX5_addLetter) (k := 10) rfl lRX10_85 oX5_addLetter vX5_addLetter ⟨Nat.le_of_ble_eq_true rfl, Nat.le_of_ble_eq_true rfl⟩ rfl rfl (Nat.le_of_ble_eq_true rfl) (x_addLetterNo l σ.L h hC.L h2) ?_
          refine a_if_eq (k := 11) rfl (fun c_22 => ?_) (fun c_22 => ?_)
          · refine a_ldc (k := 16) rfl nRX10_92 ⟨by decide, by decide⟩ ?_
            refine a_ireturn (k := 17) rfl rfl ?_
            exact ⟨rfl, hC, FC.rf⟩
          · omega
        · omega
  · rw [show o_feed σ l = _ by unfold o_feed; rw [if_neg hl]]
    refine Sp.of rfl kX10_feed (Nat.le_of_ble_eq_true rfl) ?_
    refine u_iloadn (k := 0) rfl rfl ?_
    refine a_if_lt (k := 1) rfl (fun c_1 => ?_) (fun c_1 => ?_)
    · refine a_ldc (k := 5) rfl nRX10_84 ⟨by decide, by decide⟩ ?_
      refine a_ireturn (k := 6) rfl rfl ?_
      exact ⟨rfl, hC, FC.rf⟩
    · refine u_iloadn (k := 2) rfl rfl ?_
      refine a_sipush (k := 3) rfl ?_
      refine a_icmp_le (k := 4) rfl (fun c_8 => ?_) (fun c_8 => ?_)
      · omega
      · refine a_ldc (k := 5) rfl nRX10_84 ⟨by decide, by decide⟩ ?_
        refine a_ireturn (k := 6) rfl rfl ?_
        exact ⟨rfl, hC, FC.rf⟩
def o_fault (σ : AS) : Int × AS := (σ.fault, σ)
theorem c_fault {σ : AS} {h : HH} (hC : CR σ h) : Sp mX10_fault [vr 0 0] h (OP (o_fault σ) h) := by
  refine Sp.of rfl kX10_fault (Nat.le_of_ble_eq_true rfl) ?_
  refine u_aloadn (k := 0) rfl rfl ?_
  refine a_geti (k := 1) rfl fRX10_80 rfl rfl ?_
  rw [hC.fault]
  refine a_ireturn (k := 2) rfl rfl ?_
  exact ⟨rfl, hC, FC.rf⟩
def o_seed (σ : AS) (v : Int) : Int × AS := if v < 0 then (OUT, σ) else ((σ.drawn : Int), mkA σ.now σ.laid σ.L σ.tx σ.fault v.toNat σ.cnt σ.hist σ.ents σ.book σ.kept σ.img σ.iseed)
theorem c_seed {B : Nat} {σ : AS} {h : HH} (hW : WA B σ) (hC : CR σ h) (v : Int) : Sp mX10_seed [vr 0 0, vi v] h (OP (o_seed σ v) h) := by
  by_cases hv : v < 0
  · rw [show o_seed σ v = _ by unfold o_seed; rw [if_pos hv]]
    refine Sp.of rfl kX10_seed (Nat.le_of_ble_eq_true rfl) ?_
    refine u_iloadn (k := 0) rfl rfl ?_
    refine a_if_ge (k := 1) rfl (fun c_1 => ?_) (fun c_1 => ?_)
    · omega
    · refine a_ldc (k := 2) rfl nRX10_84 ⟨by decide, by decide⟩ ?_
      refine a_ireturn (k := 3) rfl rfl ?_
      exact ⟨rfl, hC, FC.rf⟩
  · rw [show o_seed σ v = _ by unfold o_seed; rw [if_neg hv]]
    refine Sp.of rfl kX10_seed (Nat.le_of_ble_eq_true rfl) ?_
    refine u_iloadn (k := 0) rfl rfl ?_
    refine a_if_ge (k := 1) rfl (fun c_1 => ?_) (fun c_1 => ?_)
    · refine u_aloadn (k := 4) rfl rfl ?_
      refine a_geti (k := 5) rfl fRX10_282 rfl rfl ?_
      rw [hC.drawn]
      refine a_istoren (k := 6) (lv' := [(2, _), (0, _), (1, _)]) rfl (Nat.le_of_ble_eq_true rfl) rfl ?_
      refine u_aloadn (k := 7) rfl rfl ?_
      refine u_iloadn (k := 8) rfl rfl ?_
      refine a_puti (k := 9) rfl pRX10_282 rfl rfl ?_
      refine u_iloadn (k := 10) rfl rfl ?_
      refine a_ireturn (k := 11) rfl rfl ?_
      refine ⟨rfl, hC.flds hW (fun t i k ht => by rw [put_ne (by omega)]) (by simp only [put_apply, Nat.reduceEqDiff, reduceIte, false_and, and_false, true_and, and_true, and_self, if_false, if_true, not_false_eq_true, not_true_eq_false, ne_eq]) rfl rfl (Nat.le_refl _) rfl (fun i hi hk => ⟨hk, by simp only [put_apply, Nat.reduceEqDiff, reduceIte, false_and, and_false, true_and, and_true, and_self, if_false, if_true, not_false_eq_true, not_true_eq_false, ne_eq]; exact (hC.img i hi hk).2⟩) (by simp only [put_apply, Nat.reduceEqDiff, reduceIte, false_and, and_false, true_and, and_true, and_self, if_false, if_true, not_false_eq_true, not_true_eq_false, ne_eq]; exact hC.laid) (by simp only [put_apply, Nat.reduceEqDiff, reduceIte, false_and, and_false, true_and, and_true, and_self, if_false, if_true, not_false_eq_true, not_true_eq_false, ne_eq]; exact hC.htr) (by simp only [put_apply, Nat.reduceEqDiff, reduceIte, false_and, and_false, true_and, and_true, and_self, if_false, if_true, not_false_eq_true, not_true_eq_false, ne_eq]; exact hC.L) (fun i hi => by simp only [put_apply, Nat.reduceEqDiff, reduceIte, false_and, and_false, true_and, and_true, and_self, if_false, if_true, not_false_eq_true, not_true_eq_false, ne_eq]; exact hC.tx i hi) (by simp only [put_apply, Nat.reduceEqDiff, reduceIte, false_and, and_false, true_and, and_true, and_self, if_false, if_true, not_false_eq_true, not_true_eq_false, ne_eq]; exact hC.fault) (by rw [put_eq]; show v = ((v.toNat : Nat) : Int); omega) (by simp only [put_apply, Nat.reduceEqDiff, reduceIte, false_and, and_false, true_and, and_true, and_self, if_false, if_true, not_false_eq_true, not_true_eq_false, ne_eq]; exact hC.cnt) (by simp only [put_apply, Nat.reduceEqDiff, reduceIte, false_and, and_false, true_and, and_true, and_self, if_false, if_true, not_false_eq_true, not_true_eq_false, ne_eq]; exact hC.ents) (fun i hi => by simp only [put_apply, Nat.reduceEqDiff, reduceIte, false_and, and_false, true_and, and_true, and_self, if_false, if_true, not_false_eq_true, not_true_eq_false, ne_eq]; exact hC.book i hi) (by simp only [put_apply, Nat.reduceEqDiff, reduceIte, false_and, and_false, true_and, and_true, and_self, if_false, if_true, not_false_eq_true, not_true_eq_false, ne_eq]; exact hC.kept), FC.rf.pt (by omega)⟩
    · omega
def o_tear (σ : AS) : Int × AS := ((σ.ents : Int), mkA σ.now σ.laid σ.L σ.tx σ.fault σ.drawn σ.cnt σ.hist 0 σ.book σ.kept σ.img σ.iseed)
theorem c_tear {B : Nat} {σ : AS} {h : HH} (hW : WA B σ) (hC : CR σ h) : Sp mX10_tear [vr 0 0] h (OP (o_tear σ) h) := by
  refine Sp.of rfl kX10_tear (Nat.le_of_ble_eq_true rfl) ?_
  refine u_aloadn (k := 0) rfl rfl ?_
  refine a_getr (k := 1) rfl fRX10_48 rfl rfl rfl ?_
  refine a_geti (k := 2) rfl fRX10_111 rfl rfl ?_
  rw [hC.ents]
  refine a_istoren (k := 3) (lv' := [(1, _), (0, _)]) rfl (Nat.le_of_ble_eq_true rfl) rfl ?_
  refine u_aloadn (k := 4) rfl rfl ?_
  refine a_getr (k := 5) rfl fRX10_48 rfl rfl rfl ?_
  refine a_iconst (k := 6) rfl ?_
  refine a_puti (k := 7) rfl pRX10_111 rfl rfl ?_
  refine u_iloadn (k := 8) rfl rfl ?_
  refine a_ireturn (k := 9) rfl rfl ?_
  refine ⟨rfl, hC.flds hW (fun t i k ht => by rw [put_ne (by omega)]) (by simp only [put_apply, Nat.reduceEqDiff, reduceIte, false_and, and_false, true_and, and_true, and_self, if_false, if_true, not_false_eq_true, not_true_eq_false, ne_eq]) rfl rfl (Nat.le_refl _) rfl (fun i hi hk => ⟨hk, by simp only [put_apply, Nat.reduceEqDiff, reduceIte, false_and, and_false, true_and, and_true, and_self, if_false, if_true, not_false_eq_true, not_true_eq_false, ne_eq]; exact (hC.img i hi hk).2⟩) (by simp only [put_apply, Nat.reduceEqDiff, reduceIte, false_and, and_false, true_and, and_true, and_self, if_false, if_true, not_false_eq_true, not_true_eq_false, ne_eq]; exact hC.laid) (by simp only [put_apply, Nat.reduceEqDiff, reduceIte, false_and, and_false, true_and, and_true, and_self, if_false, if_true, not_false_eq_true, not_true_eq_false, ne_eq]; exact hC.htr) (by simp only [put_apply, Nat.reduceEqDiff, reduceIte, false_and, and_false, true_and, and_true, and_self, if_false, if_true, not_false_eq_true, not_true_eq_false, ne_eq]; exact hC.L) (fun i hi => by simp only [put_apply, Nat.reduceEqDiff, reduceIte, false_and, and_false, true_and, and_true, and_self, if_false, if_true, not_false_eq_true, not_true_eq_false, ne_eq]; exact hC.tx i hi) (by simp only [put_apply, Nat.reduceEqDiff, reduceIte, false_and, and_false, true_and, and_true, and_self, if_false, if_true, not_false_eq_true, not_true_eq_false, ne_eq]; exact hC.fault) (by simp only [put_apply, Nat.reduceEqDiff, reduceIte, false_and, and_false, true_and, and_true, and_self, if_false, if_true, not_false_eq_true, not_true_eq_false, ne_eq]; exact hC.drawn) (by simp only [put_apply, Nat.reduceEqDiff, reduceIte, false_and, and_false, true_and, and_true, and_self, if_false, if_true, not_false_eq_true, not_true_eq_false, ne_eq]; exact hC.cnt) (by rw [put_eq]; rfl) (fun i hi => absurd hi (Nat.not_lt_zero i)) (by simp only [put_apply, Nat.reduceEqDiff, reduceIte, false_and, and_false, true_and, and_true, and_self, if_false, if_true, not_false_eq_true, not_true_eq_false, ne_eq]; exact hC.kept), FC.rf.pt (by omega)⟩
def o_write (σ : AS) (k e : Int) : Int × AS := σ.on k fun q => if 0 ≤ e ∧ e ≤ 8 then (if σ.ents < 15 then (((σ.ents + 1 : Nat) : Int), mkA σ.now σ.laid σ.L σ.tx σ.fault σ.drawn σ.cnt σ.hist (σ.ents + 1) (un σ.book σ.ents (q, e.toNat)) σ.kept σ.img σ.iseed) else (FUL, σ)) else (OUT, σ)
theorem CR.no {σ : AS} {h : HH} (hC : CR σ h) {k : Int} (hk : k < 0 ∨ (σ.now.1 : Int) ≤ k) : k < 0 ∨ h 3 1 1 ≤ k := by rw [hC.now.1]; exact hk
theorem CR.yes {σ : AS} {h : HH} (hC : CR σ h) {k : Nat} (hk : k < σ.now.1) : (k : Int) < h 3 1 1 := by rw [hC.now.1]; omega
theorem c_write {B : Nat} {σ : AS} {h : HH} (hW : WA B σ) (hC : CR σ h) (k e : Int) : Sp mX10_write [vr 0 0, vi k, vi e] h (OP (o_write σ k e) h) := by
  have h15 := hW.ents
  rcases kcase k σ.now.1 with hk | ⟨q, rfl, hk⟩
  · rw [show o_write σ k e = _ from on_no hk]
    refine Sp.of rfl kX10_write (Nat.le_of_ble_eq_true rfl) ?_
    refine u_aloadn (k := 0) rfl rfl ?_
    refine a_getr (k := 1) rfl fRX10_26 rfl rfl rfl ?_
    refine u_iloadn (k := 2) rfl rfl ?_
    refine r_virt1 (M' := mX9_ropeOf) (k := 3) rfl lRX10_141 oX9_ropeOf vX9_ropeOf ⟨Nat.le_of_ble_eq_true rfl, Nat.le_of_ble_eq_true rfl⟩ rfl rfl (Nat.le_of_ble_eq_true rfl) (x_ropeNo 1 k h (hC.no hk)) ?_
    refine a_nonnullN (k := 4) rfl ?_
    refine a_ldc (k := 5) rfl nRX10_145 ⟨by decide, by decide⟩ ?_
    refine a_ireturn (k := 6) rfl rfl ?_
    exact ⟨rfl, hC, FC.rf⟩
  · have h5 : q < 5 := by have := hW.now.1; omega
    rw [show o_write σ (q : Int) e = _ from on_yes hk]
    refine Sp.of rfl kX10_write (Nat.le_of_ble_eq_true rfl) ?_
    have Y1 : 0 ≤ e → σ.ents < 15 → AW mX10_write (OP (((σ.ents + 1 : Nat) : Int), mkA σ.now σ.laid σ.L σ.tx σ.fault σ.drawn σ.cnt σ.hist (σ.ents + 1) (un σ.book σ.ents (q, e.toNat)) σ.kept σ.img σ.iseed) h) 27 [(0, vr 0 0), (1, vi q), (2, vi e)] [] h := by
      intro he h2
      refine u_aloadn (k := 14) rfl rfl ?_
      refine a_getr (k := 15) rfl fRX10_48 rfl rfl rfl ?_
      refine u_iloadn (k := 16) rfl rfl ?_
      refine u_iloadn (k := 17) rfl rfl ?_
      refine i_virt2 (M' := mX0_addEntry) (k := 18) rfl lRX10_275 oX0_addEntry vX0_addEntry ⟨Nat.le_of_ble_eq_true rfl, Nat.le_of_ble_eq_true rfl⟩ rfl rfl (Nat.le_of_ble_eq_true rfl) (x_addEntry σ.ents q e h hC.ents h2) ?_
      refine a_if_eq (k := 19) rfl (fun c_36 => ?_) (fun c_36 => ?_)
      · omega
      · refine u_aloadn (k := 20) rfl rfl ?_
        refine a_getr (k := 21) rfl fRX10_48 rfl rfl rfl ?_
        refine a_geti (k := 22) rfl fRX10_111 rfl rfl ?_
        rw [put_eq]
        refine a_goto (k := 23) rfl ?_
        refine a_ireturn (k := 25) rfl rfl ?_
        refine ⟨rfl, hC.flds hW (fun t i k ht => by rw [put_ne (by omega), put_ne (by omega), put_ne (by omega)]) (by simp only [put_apply, Nat.reduceEqDiff, reduceIte, false_and, and_false, true_and, and_true, and_self, if_false, if_true, not_false_eq_true, not_true_eq_false, ne_eq]) rfl rfl (Nat.le_refl _) rfl (fun i hi hk => ⟨hk, by simp only [put_apply, Nat.reduceEqDiff, reduceIte, false_and, and_false, true_and, and_true, and_self, if_false, if_true, not_false_eq_true, not_true_eq_false, ne_eq]; exact (hC.img i hi hk).2⟩) (by simp only [put_apply, Nat.reduceEqDiff, reduceIte, false_and, and_false, true_and, and_true, and_self, if_false, if_true, not_false_eq_true, not_true_eq_false, ne_eq]; exact hC.laid) (by simp only [put_apply, Nat.reduceEqDiff, reduceIte, false_and, and_false, true_and, and_true, and_self, if_false, if_true, not_false_eq_true, not_true_eq_false, ne_eq]; exact hC.htr) (by simp only [put_apply, Nat.reduceEqDiff, reduceIte, false_and, and_false, true_and, and_true, and_self, if_false, if_true, not_false_eq_true, not_true_eq_false, ne_eq]; exact hC.L) (fun i hi => by simp only [put_apply, Nat.reduceEqDiff, reduceIte, false_and, and_false, true_and, and_true, and_self, if_false, if_true, not_false_eq_true, not_true_eq_false, ne_eq]; exact hC.tx i hi) (by simp only [put_apply, Nat.reduceEqDiff, reduceIte, false_and, and_false, true_and, and_true, and_self, if_false, if_true, not_false_eq_true, not_true_eq_false, ne_eq]; exact hC.fault) (by simp only [put_apply, Nat.reduceEqDiff, reduceIte, false_and, and_false, true_and, and_true, and_self, if_false, if_true, not_false_eq_true, not_true_eq_false, ne_eq]; exact hC.drawn) (by simp only [put_apply, Nat.reduceEqDiff, reduceIte, false_and, and_false, true_and, and_true, and_self, if_false, if_true, not_false_eq_true, not_true_eq_false, ne_eq]; exact hC.cnt) (by rw [put_eq]; rfl) (fun i hi => ?_) (by simp only [put_apply, Nat.reduceEqDiff, reduceIte, false_and, and_false, true_and, and_true, and_self, if_false, if_true, not_false_eq_true, not_true_eq_false, ne_eq]; exact hC.kept), ((FC.rf.pt (by omega)).pt (by omega)).pt (by omega)⟩
        have hi : i < σ.ents + 1 := hi
        show _ = (((un σ.book σ.ents (q, e.toNat) i).1 : Nat) : Int) ∧ _ = (((un σ.book σ.ents (q, e.toNat) i).2 : Nat) : Int)
        by_cases hn : i = σ.ents
        · subst hn; rw [un_eq]; refine ⟨by simp only [put_apply, Nat.reduceEqDiff, reduceIte, false_and, and_false, true_and, and_true, and_self, if_false, if_true, not_false_eq_true, not_true_eq_false, ne_eq], ?_⟩; simp only [put_apply, Nat.reduceEqDiff, reduceIte, false_and, and_false, true_and, and_true, and_self, if_false, if_true, not_false_eq_true, not_true_eq_false, ne_eq]; omega
        · rw [un_ne _ _ hn]; simp only [put_apply]; simp [hn]; exact hC.book i (by omega)
    have Y2 : σ.ents = 15 → AW mX10_write (OP (FUL, σ) h) 27 [(0, vr 0 0), (1, vi q), (2, vi e)] [] h := by
      intro h2
      refine u_aloadn (k := 14) rfl rfl ?_
      refine a_getr (k := 15) rfl fRX10_48 rfl rfl rfl ?_
      refine u_iloadn (k := 16) rfl rfl ?_
      refine u_iloadn (k := 17) rfl rfl ?_
      refine i_virt2 (M' := mX0_addEntry) (k := 18) rfl lRX10_275 oX0_addEntry vX0_addEntry ⟨Nat.le_of_ble_eq_true rfl, Nat.le_of_ble_eq_true rfl⟩ rfl rfl (Nat.le_of_ble_eq_true rfl) (x_addEntryNo q e h (by rw [hC.ents, h2]; rfl)) ?_
      refine a_if_eq (k := 19) rfl (fun c_36 => ?_) (fun c_36 => ?_)
      · refine a_ldc (k := 24) rfl nRX10_92 ⟨by decide, by decide⟩ ?_
        refine a_ireturn (k := 25) rfl rfl ?_
        exact ⟨rfl, hC, FC.rf⟩
      · omega
    refine u_aloadn (k := 0) rfl rfl ?_
    refine a_getr (k := 1) rfl fRX10_26 rfl rfl rfl ?_
    refine u_iloadn (k := 2) rfl rfl ?_
    refine r_virt1 (M' := mX9_ropeOf) (k := 3) rfl lRX10_141 oX9_ropeOf vX9_ropeOf ⟨Nat.le_of_ble_eq_true rfl, Nat.le_of_ble_eq_true rfl⟩ rfl rfl (Nat.le_of_ble_eq_true rfl) (x_ropeOf 1 q h (hC.yes hk) h5) ?_
    refine a_nonnullR (k := 4) rfl ?_
    refine u_iloadn (k := 7) rfl rfl ?_
    refine a_if_lt (k := 8) rfl (fun c_15 => ?_) (fun c_15 => ?_)
    · refine a_ldc (k := 12) rfl nRX10_84 ⟨by decide, by decide⟩ ?_
      refine a_ireturn (k := 13) rfl rfl ?_
      rw [if_neg (by omega)]; exact ⟨rfl, hC, FC.rf⟩
    · refine u_iloadn (k := 9) rfl rfl ?_
      refine a_bipush (k := 10) rfl ?_
      refine a_icmp_le (k := 11) rfl (fun c_21 => ?_) (fun c_21 => ?_)
      · rw [if_pos (by omega)]
        by_cases h2 : σ.ents < 15
        · rw [if_pos h2]
          exact Y1 (by omega) h2
        · rw [if_neg h2]
          exact Y2 (by omega)
      · refine a_ldc (k := 12) rfl nRX10_84 ⟨by decide, by decide⟩ ?_
        refine a_ireturn (k := 13) rfl rfl ?_
        rw [if_neg (by omega)]; exact ⟨rfl, hC, FC.rf⟩
