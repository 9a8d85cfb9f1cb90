/-! the reference holds the state -/
def TM (b : Nat) (T : Ty) (h : HH) : Prop := h 41 0 (92 * b) = (T.2.1 : Int) ∧ h 41 0 (92 * b + 1) = (T.1 : Int) ∧ ∀ k, k < T.1 → RM (92 * b + 2 + 18 * k) (T.2.2 k) h
def MR (σ : AS) (h : HH) : Prop := (TM 0 σ.now h) ∧ (h 40 0 1 = b01 σ.laid) ∧ (h 40 0 6 = (σ.L : Int)) ∧ (∀ i, i < σ.L → h 44 0 i = sb (σ.tx i : Int)) ∧ (h 40 0 11 = σ.fault) ∧ (h 40 0 3 = (σ.drawn : Int)) ∧ (h 40 0 2 = (σ.cnt : Int)) ∧ (∀ i, i < σ.cnt → TM (σ.cnt - i) (σ.hist i) h) ∧ (h 40 0 17 = (σ.ents : Int)) ∧ (∀ i, i < σ.ents → h 48 0 i = ((σ.book i).1 : Int) ∧ h 49 0 i = ((σ.book i).2 : Int)) ∧ (∀ i, i < 2 → h 43 0 i = if σ.kept i then (if σ.laid then 2 else 1) else 0) ∧ (∀ i, i < 2 → σ.kept i = true → TM (17 + i) (σ.img i) h ∧ h 42 0 i = (σ.iseed i : Int))
theorem MR.now {σ : AS} {h : HH} (hh : MR σ h) : TM 0 σ.now h := hh.1
theorem MR.laid {σ : AS} {h : HH} (hh : MR σ h) : h 40 0 1 = b01 σ.laid := hh.2.1
theorem MR.L {σ : AS} {h : HH} (hh : MR σ h) : h 40 0 6 = (σ.L : Int) := hh.2.2.1
theorem MR.tx {σ : AS} {h : HH} (hh : MR σ h) : ∀ i, i < σ.L → h 44 0 i = sb (σ.tx i : Int) := hh.2.2.2.1
theorem MR.fault {σ : AS} {h : HH} (hh : MR σ h) : h 40 0 11 = σ.fault := hh.2.2.2.2.1
theorem MR.drawn {σ : AS} {h : HH} (hh : MR σ h) : h 40 0 3 = (σ.drawn : Int) := hh.2.2.2.2.2.1
theorem MR.cnt {σ : AS} {h : HH} (hh : MR σ h) : h 40 0 2 = (σ.cnt : Int) := hh.2.2.2.2.2.2.1
theorem MR.hist {σ : AS} {h : HH} (hh : MR σ h) : ∀ i, i < σ.cnt → TM (σ.cnt - i) (σ.hist i) h := hh.2.2.2.2.2.2.2.1
theorem MR.ents {σ : AS} {h : HH} (hh : MR σ h) : h 40 0 17 = (σ.ents : Int) := hh.2.2.2.2.2.2.2.2.1
theorem MR.book {σ : AS} {h : HH} (hh : MR σ h) : ∀ i, i < σ.ents → h 48 0 i = ((σ.book i).1 : Int) ∧ h 49 0 i = ((σ.book i).2 : Int) := hh.2.2.2.2.2.2.2.2.2.1
theorem MR.kept {σ : AS} {h : HH} (hh : MR σ h) : ∀ i, i < 2 → h 43 0 i = if σ.kept i then (if σ.laid then 2 else 1) else 0 := hh.2.2.2.2.2.2.2.2.2.2.1
theorem MR.img {σ : AS} {h : HH} (hh : MR σ h) : ∀ i, i < 2 → σ.kept i = true → TM (17 + i) (σ.img i) h ∧ h 42 0 i = (σ.iseed i : Int) := hh.2.2.2.2.2.2.2.2.2.2.2
theorem RM.keep {b : Nat} {r : Rp} {h g : HH} (hR : RM b r h) (h8 : r.1 ≤ 8) (hk : ∀ k, b ≤ k → k < b + 18 → g 41 0 k = h 41 0 k) : RM b r g := ⟨by rw [hk b (by omega) (by omega)]; exact hR.1, by rw [hk (b + 1) (by omega) (by omega)]; exact hR.2.1, fun i hi => by rw [hk _ (by omega) (by omega)]; exact hR.2.2 i hi⟩
theorem TM.keep {B b : Nat} {T : Ty} {h g : HH} (hT : TM b T h) (hW : WTy B T) (hk : ∀ k, 92 * b ≤ k → k < 92 * b + 92 → g 41 0 k = h 41 0 k) : TM b T g := by
  have h5 := hW.1
  exact ⟨by rw [hk _ (by omega) (by omega)]; exact hT.1, by rw [hk _ (by omega) (by omega)]; exact hT.2.1, fun k hk' => (hT.2.2 k hk').keep (hW.2.2 k hk').1 (fun q h1 h2 => hk q (by omega) (by omega))⟩
theorem TM.move {B b b' : Nat} {T : Ty} {h g : HH} (hT : TM b T h) (hW : WTy B T) (hk : ∀ k, k < 92 → g 41 0 (92 * b' + k) = h 41 0 (92 * b + k)) : TM b' T g := by
  have h5 := hW.1
  refine ⟨?_, by rw [hk 1 (by omega)]; exact hT.2.1, fun k hk' => ?_⟩
  · have := hk 0 (by omega)
    rw [Nat.add_zero, Nat.add_zero] at this
    rw [this]
    exact hT.1
  · have h8 := (hW.2.2 k hk').1
    obtain ⟨a, b1, c⟩ := hT.2.2 k hk'
    refine ⟨?_, ?_, fun i hi => ?_⟩
    · rw [show 92 * b' + 2 + 18 * k = 92 * b' + (2 + 18 * k) by omega, hk _ (by omega), ← a]
      congr 1
      omega
    · rw [show 92 * b' + 2 + 18 * k + 1 = 92 * b' + (2 + 18 * k + 1) by omega, hk _ (by omega), ← b1]
      congr 1
      omega
    · rw [show 92 * b' + 2 + 18 * k + 2 + i = 92 * b' + (2 + 18 * k + 2 + i) by omega, hk _ (by omega), ← c i hi]
      congr 1
      omega
def relM (t k : Nat) : Prop := t = 41 ∨ t = 42 ∨ t = 43 ∨ t = 44 ∨ t = 48 ∨ t = 49 ∨ (t = 40 ∧ (k = 1 ∨ k = 2 ∨ k = 3 ∨ k = 6 ∨ k = 11 ∨ k = 17))
theorem MR.keep {B : Nat} {σ : AS} {h g : HH} (hW : WA B σ) (hM : MR σ h) (hk : ∀ t k, relM t k → g t 0 k = h t 0 k) : MR σ g := by
  have k41 : ∀ k, g 41 0 k = h 41 0 k := fun k => hk 41 k (by simp [relM])
  refine ⟨hM.now.keep hW.now (fun k _ _ => k41 k), ?_, ?_, fun i hi => ?_, ?_, ?_, ?_, fun i hi => (hM.hist i hi).keep (hW.hist i hi) (fun k _ _ => k41 k), ?_, fun i hi => ?_, fun i hi => ?_, fun i hi hi2 => ⟨(hM.img i hi hi2).1.keep (hW.img i hi hi2).1 (fun k _ _ => k41 k), ?_⟩⟩
  · rw [hk 40 1 (by simp [relM])]; exact hM.laid
  · rw [hk 40 6 (by simp [relM])]; exact hM.L
  · rw [hk 44 i (by simp [relM])]; exact hM.tx i hi
  · rw [hk 40 11 (by simp [relM])]; exact hM.fault
  · rw [hk 40 3 (by simp [relM])]; exact hM.drawn
  · rw [hk 40 2 (by simp [relM])]; exact hM.cnt
  · rw [hk 40 17 (by simp [relM])]; exact hM.ents
  · rw [hk 48 i (by simp [relM]), hk 49 i (by simp [relM])]; exact hM.book i hi
  · rw [hk 43 i (by simp [relM])]; exact hM.kept i hi
  · rw [hk 42 i (by simp [relM])]; exact (hM.img i hi hi2).2
/-- where the reference works -/
def tms : List (Nat × Nat) := [(45, 0), (46, 0), (47, 0), (50, 0), (51, 0), (52, 0), (53, 0), (54, 0), (55, 0), (56, 0), (57, 0), (58, 0), (59, 0), (60, 0), (61, 0)]
def kms : List (Nat × Nat × Nat) := [(40, 0, 8), (40, 0, 9), (40, 0, 10), (40, 0, 12), (40, 0, 13), (40, 0, 20), (40, 0, 24), (40, 0, 25)]
abbrev Fs (h g : HH) : Prop := Fr tms kms h g
theorem Fs.tr {h g g' : HH} (h1 : Fs h g) (h2 : Fs g g') : Fs h g' := Fr.tr h1 h2 (fun _ q => q) (fun _ q => Or.inl q)
theorem Fs.rel {h g : HH} (h1 : Fs h g) : ∀ t k, relM t k → g t 0 k = h t 0 k := fun t k hr => h1 t 0 k (by simp [tms]; unfold relM at hr; omega) (by simp [kms]; unfold relM at hr; omega)
theorem MR.scr {B : Nat} {σ : AS} {h g : HH} (hW : WA B σ) (hM : MR σ h) (hF : Fs h g) : MR σ g := hM.keep hW hF.rel
def FMo (h g : HH) : Prop := ∀ t i k, t < 40 → g t i k = h t i k
theorem FMo.rf {h : HH} : FMo h h := fun _ _ _ _ => rfl
theorem FMo.tr {h g g' : HH} (h1 : FMo h g) (h2 : FMo g g') : FMo h g' := fun t i k ht => by rw [h2 t i k ht]; exact h1 t i k ht
theorem Fs.mo {h g : HH} (h1 : Fs h g) : FMo h g := fun t i k ht => h1 t i k (by simp [tms]; omega) (by simp [kms]; omega)
theorem FMo.pt {h g : HH} {t i k : Nat} {v : Int} (h1 : FMo h g) (ht : 40 ≤ t) : FMo h (put g t i k v) := fun t' i' k' h' => by
  rw [put_ne (by omega)]
  exact h1 t' i' k' h'
theorem Fs_of {h g : HH} {T : List (Nat × Nat)} {K : List (Nat × Nat × Nat)} (hF : Fr T K h g) (hT : ∀ q ∈ T, q ∈ tms) (hK : ∀ q ∈ K, q ∈ kms) : Fs h g := hF.mono hT (fun q hq => Or.inl (hK q hq))
def MP (a : Int × AS) (h : HH) (r : Option AV) (g : HH) : Prop := r = some (vi a.1) ∧ MR a.2 g ∧ FMo h g
/-- the row: how long, what salted, which passes -/
def RW (n : Nat) (F : Nat → Nat) (s : Nat) (h : HH) : Prop := h 40 0 20 = (n : Int) ∧ h 40 0 24 = (s : Int) ∧ ∀ i, i < n → h 50 0 i = (F i : Int)
theorem RW.cong {n : Nat} {F G : Nat → Nat} {s : Nat} {h : HH} (hR : RW n F s h) (hk : ∀ i, i < n → F i = G i) : RW n G s h := ⟨hR.1, hR.2.1, fun i hi => by rw [← hk i hi]; exact hR.2.2 i hi⟩
theorem RW.keep {n : Nat} {F : Nat → Nat} {s : Nat} {h g : HH} (hR : RW n F s h) (h1 : g 40 0 20 = h 40 0 20) (h2 : g 40 0 24 = h 40 0 24) (h3 : ∀ k, g 50 0 k = h 50 0 k) : RW n F s g := ⟨by rw [h1]; exact hR.1, by rw [h2]; exact hR.2.1, fun i hi => by rw [h3]; exact hR.2.2 i hi⟩
theorem MR.slot {σ : AS} {h : HH} (hM : MR σ h) {k : Nat} (hk : k < σ.now.1) : RM (2 + 18 * k) (σ.now.2.2 k) h := by
  have := hM.now.2.2 k hk
  rw [show 92 * 0 + 2 + 18 * k = 2 + 18 * k by omega] at this
  exact this
theorem m_loads (k : Nat) (r : Rp) (h : HH) (hk : k < 5) (h8 : r.1 ≤ 8) (hR : RM (2 + 18 * k) r h) : Sp mX11_loads [vr 40 0, vi k] h (fun z g => z = none ∧ RW (2 * r.1) r.2.2 r.2.1 g ∧ Fr [(50, 0)] [(40, 0, 20), (40, 0, 24)] h g) := by
  refine Sp.of rfl kX11_loads (Nat.le_of_ble_eq_true rfl) ?_
  have Lp : ∀ (d q : Nat) (g : HH), q + d = 2 * r.1 → g 40 0 20 = ((2 * r.1 : Nat) : Int) → g 40 0 24 = (r.2.1 : Int) → (∀ i, i < q → g 50 0 i = (r.2.2 i : Int)) → Fr [(50, 0)] [(40, 0, 20), (40, 0, 24)] h g → AW mX11_loads (fun z g => z = none ∧ RW (2 * r.1) r.2.2 r.2.1 g ∧ Fr [(50, 0)] [(40, 0, 20), (40, 0, 24)] h g) 27 [(0, vr 40 0), (1, vi k), (2, vi q)] [] g := by
    intro d
    induction d with
    | zero =>
      intro q g hq h20 h24 hr hF
      refine u_iloadn (k := 17) rfl rfl ?_
      refine u_aloadn (k := 18) rfl rfl ?_
      refine a_geti (k := 19) rfl fRX11_156 rfl rfl ?_
      rw [h20]
      refine a_icmp_ge (k := 20) rfl (fun c_32 => ?_) (fun c_32 => ?_)
      · refine a_return (k := 37) rfl rfl ?_
        exact ⟨rfl, ⟨h20, h24, fun i hi => hr i (by omega)⟩, hF⟩
      · omega
    | succ d ih =>
      intro q g hq h20 h24 hr hF
      have hs : g 41 0 (2 + 18 * k + 2 + q) = (r.2.2 q : Int) := by rw [hF 41 0 _ (by simp) (by simp)]; exact hR.2.2 q (by omega)
      refine u_iloadn (k := 17) rfl rfl ?_
      refine u_aloadn (k := 18) rfl rfl ?_
      refine a_geti (k := 19) rfl fRX11_156 rfl rfl ?_
      rw [h20]
      refine a_icmp_ge (k := 20) rfl (fun c_32 => ?_) (fun c_32 => ?_)
      · omega
      · refine u_aloadn (k := 21) rfl rfl ?_
        refine a_getr (k := 22) rfl fRX11_42 rfl rfl rfl ?_
        refine u_iloadn (k := 23) rfl rfl ?_
        refine u_aloadn (k := 24) rfl rfl ?_
        refine a_getr (k := 25) rfl fRX11_7 rfl rfl rfl ?_
        refine u_aloadn (k := 26) rfl rfl ?_
        refine u_iloadn (k := 27) rfl rfl ?_
        refine i_virt1 (M' := mX11_base) (k := 28) rfl lRX11_85 oX11_base vX11_base ⟨Nat.le_of_ble_eq_true rfl, Nat.le_of_ble_eq_true rfl⟩ rfl rfl (Nat.le_of_ble_eq_true rfl) (m_base k g (by omega)) ?_
        refine a_iconst (k := 29) rfl ?_
        refine u_iadd (k := 30) rfl (by omega) ?_
        refine u_iloadn (k := 31) rfl rfl ?_
        refine u_iadd (k := 32) rfl (by omega) ?_
        refine u_ialdx (2 + 18 * k + 2 + q) (k := 33) rfl rfl rfl (by omega) (by omega) ?_
        rw [hs]
        refine u_iast (k := 34) rfl rfl rfl (by omega) ?_
        refine u_iinc (k := 35) (lv' := [(2, _), (0, _), (1, _)]) rfl rfl (Nat.le_of_ble_eq_true rfl) (by omega) rfl ?_
        refine a_goto (k := 36) rfl ?_
        refine a_sub [1, 2, 0] rfl ?_
        refine ih (q + 1) _ (by omega) (by simp only [put_apply, Nat.reduceEqDiff, reduceIte, false_and, and_false, true_and, and_true, and_self, if_false, if_true, not_false_eq_true, not_true_eq_false, ne_eq]; exact h20) (by simp only [put_apply, Nat.reduceEqDiff, reduceIte, false_and, and_false, true_and, and_true, and_self, if_false, if_true, not_false_eq_true, not_true_eq_false, ne_eq]; exact h24) (fun i hi => ?_) (hF.p1 (by simp))
        by_cases he : i = q
        · subst he; rw [put_eq]
        · rw [put_ne (by simp [he])]; exact hr i (by omega)
  refine u_aloadn (k := 0) rfl rfl ?_
  refine u_aloadn (k := 1) rfl rfl ?_
  refine u_iloadn (k := 2) rfl rfl ?_
  refine i_virt1 (M' := mX11_passes) (k := 3) rfl lRX11_89 oX11_passes vX11_passes ⟨Nat.le_of_ble_eq_true rfl, Nat.le_of_ble_eq_true rfl⟩ rfl rfl (Nat.le_of_ble_eq_true rfl) (m_passes k r h hk hR) ?_
  refine a_puti (k := 4) rfl pRX11_156 rfl rfl ?_
  refine u_aloadn (k := 5) rfl rfl ?_
  refine u_aloadn (k := 6) rfl rfl ?_
  refine a_getr (k := 7) rfl fRX11_7 rfl rfl rfl ?_
  refine u_aloadn (k := 8) rfl rfl ?_
  refine u_iloadn (k := 9) rfl rfl ?_
  refine i_virt1 (M' := mX11_base) (k := 10) rfl lRX11_85 oX11_base vX11_base ⟨Nat.le_of_ble_eq_true rfl, Nat.le_of_ble_eq_true rfl⟩ rfl rfl (Nat.le_of_ble_eq_true rfl) (m_base k _ (by omega)) ?_
  refine a_iconst (k := 11) rfl ?_
  refine u_iadd (k := 12) rfl (by omega) ?_
  refine u_ialdx (2 + 18 * k + 1) (k := 13) rfl rfl rfl (by omega) (by omega) ?_
  rw [put_ne (by simp), hR.2.1]
  refine a_puti (k := 14) rfl pRX11_159 rfl rfl ?_
  refine a_iconst (k := 15) rfl ?_
  refine a_istoren (k := 16) (lv' := [(2, _), (0, _), (1, _)]) rfl (Nat.le_of_ble_eq_true rfl) rfl ?_
  refine a_sub [1, 2, 0] rfl ?_
  exact Lp (2 * r.1) 0 _ (by omega) (by simp only [put_apply, Nat.reduceEqDiff, reduceIte, false_and, and_false, true_and, and_true, and_self, if_false, if_true, not_false_eq_true, not_true_eq_false, ne_eq]) (by simp only [put_apply, Nat.reduceEqDiff, reduceIte, false_and, and_false, true_and, and_true, and_self, if_false, if_true, not_false_eq_true, not_true_eq_false, ne_eq]) (fun i hi => absurd hi (Nat.not_lt_zero i)) ((Fr.rf.p2 (by simp)).p2 (by simp))
