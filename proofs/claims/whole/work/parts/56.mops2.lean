/-- a rope that is numbered as it comes keeps its salt -/
theorem rsl_WR {r : Rp} (h : WR r) : rsl r.2.2 r.2.1 (2 * r.1) = r.2.1 := by
  obtain ⟨h8, hs, hV, hc⟩ := h
  have hcr : ∀ i, i < 2 * r.1 → cr r.2.2 i = r.2.2 i / 2 := fun i hi => by rw [← rn_div, hc i hi]
  refine Nat.eq_of_testBit_eq (fun x => ?_)
  have : (rsl r.2.2 r.2.1 (2 * r.1)).testBit x = true ↔ r.2.1.testBit x = true := by
    rw [rsl_tb]
    constructor
    · rintro ⟨i, hi, h1, h2⟩
      rw [hcr i hi] at h1
      rw [← h1]
      exact h2
    · intro hx
      have hxc : x < r.1 := by
        refine Classical.byContradiction (fun hn => ?_)
        have := Nat.testBit_lt_two_pow (Nat.lt_of_lt_of_le hs (Nat.pow_le_pow_right (show 0 < 2 by omega) (show r.1 ≤ x by omega)))
        rw [this] at hx
        cases hx
      obtain ⟨i, hi, he⟩ := VT_sur hV (v := 2 * x) (by omega)
      exact ⟨i, hi, by rw [hcr i hi]; omega, by rw [he, show 2 * x / 2 = x by omega]; exact hx⟩
  cases h1 : (rsl r.2.2 r.2.1 (2 * r.1)).testBit x <;> cases h2 : r.2.1.testBit x <;> simp_all
theorem MR.rope {B : Nat} {σ : AS} {h g : HH} {k : Nat} {r : Rp} (hW : WA B σ) (hM : MR σ h) (hk : k < σ.now.1) (hF : ∀ t z, relM t z → ¬ (t = 41 ∧ 2 + 18 * k ≤ z ∧ z < 2 + 18 * k + 18) → g t 0 z = h t 0 z) (hR : RM (2 + 18 * k) r g) : MR (σ.setR k r) g := by
  have h5 := hW.now.1
  have k41 : ∀ z, ¬ (2 + 18 * k ≤ z ∧ z < 2 + 18 * k + 18) → g 41 0 z = h 41 0 z := fun z hz => hF 41 z (by simp [relM]) (by omega)
  have kz : ∀ t z, t ≠ 41 → relM t z → g t 0 z = h t 0 z := fun t z ht hr => hF t z hr (by omega)
  refine ⟨⟨?_, ?_, fun k' hk' => ?_⟩, ?_, ?_, fun i hi => ?_, ?_, ?_, ?_, fun i hi => (hM.hist i hi).keep (hW.hist i hi) (fun z h1 h2 => k41 z ?_), ?_, fun i hi => ?_, fun i hi => ?_, fun i hi hi2 => ⟨(hM.img i hi hi2).1.keep (hW.img i hi hi2).1 (fun z h1 h2 => k41 z (by omega)), ?_⟩⟩
  · rw [k41 _ (by omega)]; exact hM.now.1
  · rw [k41 _ (by omega)]; exact hM.now.2.1
  · have hk' : k' < σ.now.1 := hk'
    show RM (92 * 0 + 2 + 18 * k') (un σ.now.2.2 k r k') g
    rw [show 92 * 0 + 2 + 18 * k' = 2 + 18 * k' by omega]
    by_cases he : k' = k
    · subst he; rw [un_eq]; exact hR
    · rw [un_ne _ _ he]
      exact (hM.slot hk').keep (hW.now.2.2 k' hk').1 (fun z h1 h2 => k41 z (by omega))
  · rw [kz 40 1 (by omega) (by simp [relM])]; exact hM.laid
  · rw [kz 40 6 (by omega) (by simp [relM])]; exact hM.L
  · rw [kz 44 i (by omega) (by simp [relM])]; exact hM.tx i hi
  · rw [kz 40 11 (by omega) (by simp [relM])]; exact hM.fault
  · rw [kz 40 3 (by omega) (by simp [relM])]; exact hM.drawn
  · rw [kz 40 2 (by omega) (by simp [relM])]; exact hM.cnt
  · have hi : i < σ.cnt := hi
    have h1 : 92 * (σ.cnt - i) ≤ z := h1
    omega
  · rw [kz 40 17 (by omega) (by simp [relM])]; exact hM.ents
  · rw [kz 48 i (by omega) (by simp [relM]), kz 49 i (by omega) (by simp [relM])]; exact hM.book i hi
  · rw [kz 43 i (by omega) (by simp [relM])]; exact hM.kept i hi
  · rw [kz 42 i (by omega) (by simp [relM])]; exact (hM.img i hi hi2).2
theorem m_put {B : Nat} {τ : AS} {g : HH} {k n s : Nat} {F : Nat → Nat} (r : Rp) (hW : WA B τ) (hM : MR τ g) (hk : k < τ.now.1) (hn : n ≤ 16) (hs : s < 256) (hR : RW n F s g) (h52 : ∀ i, i < n → F i < 52) (e1 : n = 2 * r.1) (e2 : rsl F s n = r.2.1) (e3 : ∀ i, i < n → rn F i = r.2.2 i) :
    Sp mX11_stores [vr 40 0, vi k] g (fun z g' => z = none ∧ MR (τ.setR k r) g' ∧ Fq [(52, 0)] [] (2 + 18 * k) (2 + 18 * k + 18) g g' ∧ RM (2 + 18 * k) r g') := by
  have h5 := hW.now.1
  refine Sp.weak (m_stores k n s F g (by omega) hn hs hR h52) ?_
  rintro z g' ⟨hz, a1, a2, a3, hF⟩
  have hRM : RM (2 + 18 * k) r g' := ⟨by rw [a1, e1], by rw [a2, e2], fun i hi => by rw [a3 i (by omega), e3 i (by omega)]⟩
  exact ⟨hz, hM.rope hW hk (fun t z hr hn => hF t 0 z (by simp; unfold relM at hr; omega) (by simp) hn) hRM, hF, hRM⟩
theorem Fq.mo {T : List (Nat × Nat)} {K : List (Nat × Nat × Nat)} {lo hi : Nat} {h g : HH} (hF : Fq T K lo hi h g) (hT : ∀ q ∈ T, 40 ≤ q.1) (hK : ∀ q ∈ K, 40 ≤ q.1) : FMo h g := fun t i k ht => hF t i k (fun q => by have := hT _ q; dsimp only at this; omega) (fun q => by have := hK _ q; dsimp only at this; omega) (by omega)
theorem Fr.mo {T : List (Nat × Nat)} {K : List (Nat × Nat × Nat)} {h g : HH} (hF : Fr T K h g) (hT : ∀ q ∈ T, 40 ≤ q.1) (hK : ∀ q ∈ K, 40 ≤ q.1) : FMo h g := fun t i k ht => hF t i k (fun q => by have := hT _ q; dsimp only at this; omega) (fun q => by have := hK _ q; dsimp only at this; omega)
def FK (h g : HH) : Prop := ∀ t i k, ¬ (t = 41 ∧ i = 0 ∧ 92 ≤ k) → ¬ (t = 40 ∧ i = 0 ∧ k = 2) → g t i k = h t i k
theorem FK.mo {h g : HH} (hF : FK h g) : FMo h g := fun t i k ht => hF t i k (by omega) (by omega)
theorem VT.b {c : Nat} {f : Nat → Nat} (h : VT c f) (h8 : c ≤ 8) : ∀ i, i < 2 * c → f i < 52 := fun i hi => by have := h.1 i hi; omega
theorem n_pass {B : Nat} {σ : AS} {h : HH} (hW : WA B σ) (hM : MR σ h) (k i : Int) : Sp mX11_pass [vr 40 0, vi k, vi i] h (MP (o_pass σ k i) h) := by
  rcases kcase k σ.now.1 with hk | ⟨q, rfl, hk⟩
  · rw [show o_pass σ k i = _ from on_no hk]
    refine Sp.of rfl kX11_pass (Nat.le_of_ble_eq_true rfl) ?_
    refine u_aloadn (k := 0) rfl rfl ?_
    refine u_iloadn (k := 1) rfl rfl ?_
    refine i_virt1 (M' := mX11_isOne) (k := 2) rfl lRX11_206 oX11_isOne vX11_isOne ⟨Nat.le_of_ble_eq_true rfl, Nat.le_of_ble_eq_true rfl⟩ rfl rfl (Nat.le_of_ble_eq_true rfl) (hM.one hW k) ?_
    rw [one_no hk]
    refine a_if_ne (k := 3) rfl (fun c_5 => ?_) (fun c_5 => ?_)
    · exact absurd rfl c_5
    · refine a_ldc (k := 4) rfl nRX11_210 ⟨by decide, by decide⟩ ?_
      refine a_ireturn (k := 5) rfl rfl ?_
      exact ⟨rfl, hM, FMo.rf⟩
  · have h5 := hW.now.1
    have hR := hM.slot hk
    have h8 := (hW.now.2.2 q hk).1
    rw [show o_pass σ (q : Int) i = _ from on_yes hk]
    by_cases hi : 0 ≤ i ∧ i < 2 * ((σ.now.2.2 q).1 : Int)
    · obtain ⟨e, rfl⟩ : ∃ e : Nat, i = (e : Int) := ⟨i.toNat, by omega⟩
      rw [if_pos hi, Int.toNat_natCast]
      refine Sp.of rfl kX11_pass (Nat.le_of_ble_eq_true rfl) ?_
      refine u_aloadn (k := 0) rfl rfl ?_
      refine u_iloadn (k := 1) rfl rfl ?_
      refine i_virt1 (M' := mX11_isOne) (k := 2) rfl lRX11_206 oX11_isOne vX11_isOne ⟨Nat.le_of_ble_eq_true rfl, Nat.le_of_ble_eq_true rfl⟩ rfl rfl (Nat.le_of_ble_eq_true rfl) (hM.one hW q) ?_
      rw [one_yes hk]
      refine a_if_ne (k := 3) rfl (fun c_5 => ?_) (fun c_5 => ?_)
      · refine u_iloadn (k := 6) rfl rfl ?_
        refine a_i2l (k := 7) rfl ?_
        refine a_lconst (k := 8) rfl ?_
        refine u_aloadn (k := 9) rfl rfl ?_
        refine u_iloadn (k := 10) rfl rfl ?_
        refine i_virt1 (M' := mX11_passes) (k := 11) rfl lRX11_89 oX11_passes vX11_passes ⟨Nat.le_of_ble_eq_true rfl, Nat.le_of_ble_eq_true rfl⟩ rfl rfl (Nat.le_of_ble_eq_true rfl) (m_passes q _ h (by omega) hR) ?_
        refine a_iconst (k := 12) rfl ?_
        refine u_isub (k := 13) rfl (by omega) ?_
        refine a_i2l (k := 14) rfl ?_
        refine i_stat3 (M' := mX11_in) (k := 15) rfl lRX11_81 oX11_in vX11_in ⟨Nat.le_of_ble_eq_true rfl, Nat.le_of_ble_eq_true rfl⟩ rfl (Nat.le_of_ble_eq_true rfl) (m_in e 0 _ h) ?_
        rw [inb_t (by omega)]
        refine a_if_eq (k := 16) rfl (fun c_25 => ?_) (fun c_25 => ?_)
        · exact absurd c_25 (by decide)
        · refine u_aloadn (k := 17) rfl rfl ?_
          refine a_getr (k := 18) rfl fRX11_7 rfl rfl rfl ?_
          refine u_aloadn (k := 19) rfl rfl ?_
          refine u_iloadn (k := 20) rfl rfl ?_
          refine i_virt1 (M' := mX11_base) (k := 21) rfl lRX11_85 oX11_base vX11_base ⟨Nat.le_of_ble_eq_true rfl, Nat.le_of_ble_eq_true rfl⟩ rfl rfl (Nat.le_of_ble_eq_true rfl) (m_base q h (by omega)) ?_
          refine a_iconst (k := 22) rfl ?_
          refine u_iadd (k := 23) rfl (by omega) ?_
          refine u_iloadn (k := 24) rfl rfl ?_
          refine u_iadd (k := 25) rfl (by omega) ?_
          refine u_ialdx (2 + 18 * q + 2 + e) (k := 26) rfl rfl rfl (by omega) (by omega) ?_
          rw [hR.2.2 e (by omega)]
          refine a_goto (k := 27) rfl ?_
          refine a_ireturn (k := 29) rfl rfl ?_
          exact ⟨rfl, hM, FMo.rf⟩
      · exact absurd c_5 (by decide)
    · rw [if_neg hi]
      refine Sp.of rfl kX11_pass (Nat.le_of_ble_eq_true rfl) ?_
      refine u_aloadn (k := 0) rfl rfl ?_
      refine u_iloadn (k := 1) rfl rfl ?_
      refine i_virt1 (M' := mX11_isOne) (k := 2) rfl lRX11_206 oX11_isOne vX11_isOne ⟨Nat.le_of_ble_eq_true rfl, Nat.le_of_ble_eq_true rfl⟩ rfl rfl (Nat.le_of_ble_eq_true rfl) (hM.one hW q) ?_
      rw [one_yes hk]
      refine a_if_ne (k := 3) rfl (fun c_5 => ?_) (fun c_5 => ?_)
      · refine u_iloadn (k := 6) rfl rfl ?_
        refine a_i2l (k := 7) rfl ?_
        refine a_lconst (k := 8) rfl ?_
        refine u_aloadn (k := 9) rfl rfl ?_
        refine u_iloadn (k := 10) rfl rfl ?_
        refine i_virt1 (M' := mX11_passes) (k := 11) rfl lRX11_89 oX11_passes vX11_passes ⟨Nat.le_of_ble_eq_true rfl, Nat.le_of_ble_eq_true rfl⟩ rfl rfl (Nat.le_of_ble_eq_true rfl) (m_passes q _ h (by omega) hR) ?_
        refine a_iconst (k := 12) rfl ?_
        refine u_isub (k := 13) rfl (by omega) ?_
        refine a_i2l (k := 14) rfl ?_
        refine i_stat3 (M' := mX11_in) (k := 15) rfl lRX11_81 oX11_in vX11_in ⟨Nat.le_of_ble_eq_true rfl, Nat.le_of_ble_eq_true rfl⟩ rfl (Nat.le_of_ble_eq_true rfl) (m_in i 0 _ h) ?_
        rw [inb_f (by omega)]
        refine a_if_eq (k := 16) rfl (fun c_25 => ?_) (fun c_25 => ?_)
        · refine a_iconst (k := 28) rfl ?_
          refine a_ireturn (k := 29) rfl rfl ?_
          exact ⟨rfl, hM, FMo.rf⟩
        · exact absurd rfl c_25
      · exact absurd c_5 (by decide)
theorem n_reverse {B : Nat} {σ : AS} {h : HH} (hW : WA B σ) (hM : MR σ h) (k : Int) : Sp mX11_reverse [vr 40 0, vi k] h (MP (o_reverse σ k) h) := by
  rcases kcase k σ.now.1 with hk | ⟨q, rfl, hk⟩
  · rw [show o_reverse σ k = _ from on_no hk]
    refine Sp.of rfl kX11_reverse (Nat.le_of_ble_eq_true rfl) ?_
    refine u_aloadn (k := 0) rfl rfl ?_
    refine u_iloadn (k := 1) rfl rfl ?_
    refine i_virt1 (M' := mX11_isOne) (k := 2) rfl lRX11_206 oX11_isOne vX11_isOne ⟨Nat.le_of_ble_eq_true rfl, Nat.le_of_ble_eq_true rfl⟩ rfl rfl (Nat.le_of_ble_eq_true rfl) (hM.one hW k) ?_
    rw [one_no hk]
    refine a_if_ne (k := 3) rfl (fun c_5 => ?_) (fun c_5 => ?_)
    · exact absurd rfl c_5
    · refine a_ldc (k := 4) rfl nRX11_210 ⟨by decide, by decide⟩ ?_
      refine a_ireturn (k := 5) rfl rfl ?_
      exact ⟨rfl, hM, FMo.rf⟩
  · have h5 := hW.now.1
    have hWr := hW.now.2.2 q hk
    have h8 := hWr.1
    have hs := (p8 h8).2
    have hs2 := hWr.2.1
    rw [show o_reverse σ (q : Int) = _ from on_yes hk]
    refine Sp.of rfl kX11_reverse (Nat.le_of_ble_eq_true rfl) ?_
    refine u_aloadn (k := 0) rfl rfl ?_
    refine u_iloadn (k := 1) rfl rfl ?_
    refine i_virt1 (M' := mX11_isOne) (k := 2) rfl lRX11_206 oX11_isOne vX11_isOne ⟨Nat.le_of_ble_eq_true rfl, Nat.le_of_ble_eq_true rfl⟩ rfl rfl (Nat.le_of_ble_eq_true rfl) (hM.one hW q) ?_
    rw [one_yes hk]
    refine a_if_ne (k := 3) rfl (fun c_5 => ?_) (fun c_5 => ?_)
    · refine u_aloadn (k := 6) rfl rfl ?_
      refine uv_virt0 (M' := mX11_known) (k := 7) rfl lRX11_280 oX11_known vX11_known ⟨Nat.le_of_ble_eq_true rfl, Nat.le_of_ble_eq_true rfl⟩ rfl rfl (Nat.le_of_ble_eq_true rfl) (m_known hW hM) (by intro r g hp; exact hp.1) (fun g1 hg1 => ?_)
      obtain ⟨-, hM1, hF1⟩ := hg1
      refine u_aloadn (k := 8) rfl rfl ?_
      refine u_iloadn (k := 9) rfl rfl ?_
      refine uv_virt1 (M' := mX11_loads) (k := 10) rfl lRX11_211 oX11_loads vX11_loads ⟨Nat.le_of_ble_eq_true rfl, Nat.le_of_ble_eq_true rfl⟩ rfl rfl (Nat.le_of_ble_eq_true rfl) (m_loads q _ g1 (by omega) h8 (hM1.slot hk)) (by intro r g hp; exact hp.1) (fun g2 hg2 => ?_)
      obtain ⟨-, hR2, hF2⟩ := hg2
      refine u_aloadn (k := 11) rfl rfl ?_
      refine uv_virt0 (M' := mX11_reverses) (k := 12) rfl lRX11_270 oX11_reverses vX11_reverses ⟨Nat.le_of_ble_eq_true rfl, Nat.le_of_ble_eq_true rfl⟩ rfl rfl (Nat.le_of_ble_eq_true rfl) (m_reverses _ _ _ g2 (by omega) hR2) (by intro r g hp; exact hp.1) (fun g3 hg3 => ?_)
      obtain ⟨-, hR3, hF3⟩ := hg3
      refine u_aloadn (k := 13) rfl rfl ?_
      refine u_iloadn (k := 14) rfl rfl ?_
      refine uv_virt1 (M' := mX11_stores) (k := 15) rfl lRX11_162 oX11_stores vX11_stores ⟨Nat.le_of_ble_eq_true rfl, Nat.le_of_ble_eq_true rfl⟩ rfl rfl (Nat.le_of_ble_eq_true rfl) (m_put (r_rev (σ.now.2.2 q)) hW.rem ((hM1.scr hW.rem (Fs_of hF2 (by simp [tms]) (by simp [kms]))).scr hW.rem (Fs_of hF3 (by simp [tms]) (by simp [kms]))) hk (by omega) (by omega) hR3 ((VT_rvf hWr.2.2.1).b h8) rfl rfl (fun _ _ => rfl)) (by intro r g hp; exact hp.1) (fun g4 hg4 => ?_)
      obtain ⟨-, hM4, hF4, hRM4⟩ := hg4
      refine u_aloadn (k := 16) rfl rfl ?_
      refine u_iloadn (k := 17) rfl rfl ?_
      refine i_virt1 (M' := mX11_crossings) (k := 18) rfl lRX11_92 oX11_crossings vX11_crossings ⟨Nat.le_of_ble_eq_true rfl, Nat.le_of_ble_eq_true rfl⟩ rfl rfl (Nat.le_of_ble_eq_true rfl) (m_crossings q _ g4 (by omega) hRM4) ?_
      refine a_ireturn (k := 19) rfl rfl ?_
      exact ⟨rfl, hM4, ((FK.mo hF1).tr ((Fr.mo hF2 (by simp) (by simp)).tr (Fr.mo hF3 (by simp) (by simp)))).tr (Fq.mo hF4 (by simp) (by simp))⟩
    · exact absurd c_5 (by decide)
theorem n_mirror {B : Nat} {σ : AS} {h : HH} (hW : WA B σ) (hM : MR σ h) (k : Int) : Sp mX11_mirror [vr 40 0, vi k] h (MP (o_mirror σ k) h) := by
  rcases kcase k σ.now.1 with hk | ⟨q, rfl, hk⟩
  · rw [show o_mirror σ k = _ from on_no hk]
    refine Sp.of rfl kX11_mirror (Nat.le_of_ble_eq_true rfl) ?_
    refine u_aloadn (k := 0) rfl rfl ?_
    refine u_iloadn (k := 1) rfl rfl ?_
    refine i_virt1 (M' := mX11_isOne) (k := 2) rfl lRX11_206 oX11_isOne vX11_isOne ⟨Nat.le_of_ble_eq_true rfl, Nat.le_of_ble_eq_true rfl⟩ rfl rfl (Nat.le_of_ble_eq_true rfl) (hM.one hW k) ?_
    rw [one_no hk]
    refine a_if_ne (k := 3) rfl (fun c_5 => ?_) (fun c_5 => ?_)
    · exact absurd rfl c_5
    · refine a_ldc (k := 4) rfl nRX11_210 ⟨by decide, by decide⟩ ?_
      refine a_ireturn (k := 5) rfl rfl ?_
      exact ⟨rfl, hM, FMo.rf⟩
  · have h5 := hW.now.1
    have hWr := hW.now.2.2 q hk
    have h8 := hWr.1
    have hs := (p8 h8).2
    have hs2 := hWr.2.1
    have hWs : WR (r_sw (σ.now.2.2 q) (2 ^ (σ.now.2.2 q).1 - 1)) := WR_sw hWr
    have hsw : ∀ i, i < 2 * (σ.now.2.2 q).1 → swf (σ.now.2.2 q).2.2 255 i = swf (σ.now.2.2 q).2.2 (2 ^ (σ.now.2.2 q).1 - 1) i := fun i hi => by
      have hx : (σ.now.2.2 q).2.2 i / 2 < (σ.now.2.2 q).1 := by have := hWr.2.2.1.1 i hi; omega
      unfold swf
      rw [show (255 : Nat) = 2 ^ 8 - 1 by rfl, Nat.testBit_two_pow_sub_one, Nat.testBit_two_pow_sub_one, decide_eq_true (by omega), decide_eq_true hx]
    rw [show o_mirror σ (q : Int) = _ from on_yes hk]
    refine Sp.of rfl kX11_mirror (Nat.le_of_ble_eq_true rfl) ?_
    refine u_aloadn (k := 0) rfl rfl ?_
    refine u_iloadn (k := 1) rfl rfl ?_
    refine i_virt1 (M' := mX11_isOne) (k := 2) rfl lRX11_206 oX11_isOne vX11_isOne ⟨Nat.le_of_ble_eq_true rfl, Nat.le_of_ble_eq_true rfl⟩ rfl rfl (Nat.le_of_ble_eq_true rfl) (hM.one hW q) ?_
    rw [one_yes hk]
    refine a_if_ne (k := 3) rfl (fun c_5 => ?_) (fun c_5 => ?_)
    · refine u_aloadn (k := 6) rfl rfl ?_
      refine uv_virt0 (M' := mX11_known) (k := 7) rfl lRX11_280 oX11_known vX11_known ⟨Nat.le_of_ble_eq_true rfl, Nat.le_of_ble_eq_true rfl⟩ rfl rfl (Nat.le_of_ble_eq_true rfl) (m_known hW hM) (by intro r g hp; exact hp.1) (fun g1 hg1 => ?_)
      obtain ⟨-, hM1, hF1⟩ := hg1
      refine u_aloadn (k := 8) rfl rfl ?_
      refine u_iloadn (k := 9) rfl rfl ?_
      refine uv_virt1 (M' := mX11_loads) (k := 10) rfl lRX11_211 oX11_loads vX11_loads ⟨Nat.le_of_ble_eq_true rfl, Nat.le_of_ble_eq_true rfl⟩ rfl rfl (Nat.le_of_ble_eq_true rfl) (m_loads q _ g1 (by omega) h8 (hM1.slot hk)) (by intro r g hp; exact hp.1) (fun g2 hg2 => ?_)
      obtain ⟨-, hR2, hF2⟩ := hg2
      refine u_aloadn (k := 11) rfl rfl ?_
      refine a_sipush (k := 12) rfl ?_
      refine uv_virt1 (M' := mX11_turns) (k := 13) rfl lRX11_239 oX11_turns vX11_turns ⟨Nat.le_of_ble_eq_true rfl, Nat.le_of_ble_eq_true rfl⟩ rfl rfl (Nat.le_of_ble_eq_true rfl) (m_turns _ _ 255 _ g2 (by omega) (by omega) hR2 (hWr.2.2.1.b h8)) (by intro r g hp; exact hp.1) (fun g3 hg3 => ?_)
      obtain ⟨-, hR3, hF3⟩ := hg3
      refine u_aloadn (k := 14) rfl rfl ?_
      refine u_iloadn (k := 15) rfl rfl ?_
      refine uv_virt1 (M' := mX11_stores) (k := 16) rfl lRX11_162 oX11_stores vX11_stores ⟨Nat.le_of_ble_eq_true rfl, Nat.le_of_ble_eq_true rfl⟩ rfl rfl (Nat.le_of_ble_eq_true rfl) (m_put (r_sw (σ.now.2.2 q) (2 ^ (σ.now.2.2 q).1 - 1)) hW.rem ((hM1.scr hW.rem (Fs_of hF2 (by simp [tms]) (by simp [kms]))).scr hW.rem (Fs_of hF3 (by simp [tms]) (by simp [kms]))) hk (by omega) (by omega) (hR3.cong hsw) (hWs.2.2.1.b h8) rfl (rsl_WR hWs) (fun i hi => hWs.2.2.2 i hi)) (by intro r g hp; exact hp.1) (fun g4 hg4 => ?_)
      obtain ⟨-, hM4, hF4, hRM4⟩ := hg4
      refine u_aloadn (k := 17) rfl rfl ?_
      refine u_iloadn (k := 18) rfl rfl ?_
      refine i_virt1 (M' := mX11_crossings) (k := 19) rfl lRX11_92 oX11_crossings vX11_crossings ⟨Nat.le_of_ble_eq_true rfl, Nat.le_of_ble_eq_true rfl⟩ rfl rfl (Nat.le_of_ble_eq_true rfl) (m_crossings q _ g4 (by omega) hRM4) ?_
      refine a_ireturn (k := 20) rfl rfl ?_
      exact ⟨rfl, hM4, ((FK.mo hF1).tr ((Fr.mo hF2 (by simp) (by simp)).tr (Fr.mo hF3 (by simp) (by simp)))).tr (Fq.mo hF4 (by simp) (by simp))⟩
    · exact absurd c_5 (by decide)
theorem m_rolls {B : Nat} {τ : AS} {g : HH} (hW : WA B τ) (hM : MR τ g) {k : Nat} (hk : k < τ.now.1) : Sp mX11_rolls [vr 40 0, vi k] g (fun z g' => z = none ∧ MR (τ.setR k (r_roll (τ.now.2.2 k))) g' ∧ FMo g g' ∧ RM (2 + 18 * k) (r_roll (τ.now.2.2 k)) g') := by
  have h5 := hW.now.1
  have hWr := hW.now.2.2 k hk
  have h8 := hWr.1
  have hs := (p8 h8).2
  have hs2 := hWr.2.1
  refine Sp.of rfl kX11_rolls (Nat.le_of_ble_eq_true rfl) ?_
  have Lp : ∀ (d q : Nat) (g2 : HH) (v : Int), (q + d = 2 * (τ.now.2.2 k).1 ∨ (d = 0 ∧ (τ.now.2.2 k).1 = 0)) → 1 ≤ q → (0 < (τ.now.2.2 k).1 → v = ((τ.now.2.2 k).2.2 0 : Int)) → g2 40 0 20 = ((2 * (τ.now.2.2 k).1 : Nat) : Int) → g2 40 0 24 = ((τ.now.2.2 k).2.1 : Int) → (∀ i, i < 2 * (τ.now.2.2 k).1 → g2 50 0 i = if i + 1 < q then ((τ.now.2.2 k).2.2 (i + 1) : Int) else ((τ.now.2.2 k).2.2 i : Int)) → Fr [(50, 0)] [(40, 0, 20), (40, 0, 24)] g g2 → AW mX11_rolls (fun z g' => z = none ∧ MR (τ.setR k (r_roll (τ.now.2.2 k))) g' ∧ FMo g g' ∧ RM (2 + 18 * k) (r_roll (τ.now.2.2 k)) g') 14 [(3, vi q), (2, vi v), (0, vr 40 0), (1, vi k)] [] g2 := by
    intro d
    induction d with
    | zero =>
      intro q g2 v hq hq1 hv h20 h24 hr hF
      have T65 : ∀ g3 : HH, RW (2 * (τ.now.2.2 k).1) (rlf (τ.now.2.2 k).2.2 (2 * (τ.now.2.2 k).1)) (τ.now.2.2 k).2.1 g3 → Fr [(50, 0)] [(40, 0, 20), (40, 0, 24)] g g3 → AW mX11_rolls (fun z g' => z = none ∧ MR (τ.setR k (r_roll (τ.now.2.2 k))) g' ∧ FMo g g' ∧ RM (2 + 18 * k) (r_roll (τ.now.2.2 k)) g') 65 [(3, vi q), (2, vi v), (0, vr 40 0), (1, vi k)] [] g3 := by
        intro g3 hR3 hF3
        refine u_aloadn (k := 39) rfl rfl ?_
        refine u_iloadn (k := 40) rfl rfl ?_
        refine uv_virt1 (M' := mX11_stores) (k := 41) rfl lRX11_162 oX11_stores vX11_stores ⟨Nat.le_of_ble_eq_true rfl, Nat.le_of_ble_eq_true rfl⟩ rfl rfl (Nat.le_of_ble_eq_true rfl) (m_put (r_roll (τ.now.2.2 k)) hW (hM.scr hW (Fs_of hF3 (by simp [tms]) (by simp [kms]))) hk (by omega) (by omega) hR3 ((VT_rlf hWr.2.2.1).b h8) rfl rfl (fun _ _ => rfl)) (by intro r g hp; exact hp.1) (fun g4 hg4 => ?_)
        obtain ⟨-, hM4, hF4, hRM4⟩ := hg4
        refine a_return (k := 42) rfl rfl ?_
        exact ⟨rfl, hM4, (Fr.mo hF3 (by simp) (by simp)).tr (Fq.mo hF4 (by simp) (by simp)), hRM4⟩
      by_cases hz : 0 < (τ.now.2.2 k).1
      · refine u_iloadn (k := 10) rfl rfl ?_
        refine u_aloadn (k := 11) rfl rfl ?_
        refine a_geti (k := 12) rfl fRX11_156 rfl rfl ?_
        rw [h20]
        refine a_icmp_ge (k := 13) rfl (fun c_19 => ?_) (fun c_19 => ?_)
        · refine u_aloadn (k := 26) rfl rfl ?_
          refine a_getr (k := 27) rfl fRX11_42 rfl rfl rfl ?_
          refine u_aloadn (k := 28) rfl rfl ?_
          refine a_geti (k := 29) rfl fRX11_156 rfl rfl ?_
          rw [h20]
          refine a_if_le (k := 30) rfl (fun c_50 => ?_) (fun c_50 => ?_)
          · omega
          · refine u_aloadn (k := 31) rfl rfl ?_
            refine a_geti (k := 32) rfl fRX11_156 rfl rfl ?_
            rw [h20]
            refine a_iconst (k := 33) rfl ?_
            refine u_isub (k := 34) rfl (by omega) ?_
            refine a_goto (k := 35) rfl ?_
            refine u_iloadn (k := 37) rfl rfl ?_
            refine u_iastx (2 * (τ.now.2.2 k).1 - 1) (k := 38) rfl rfl rfl (by omega) (by omega) ?_
            refine T65 _ ⟨by simp only [put_apply, Nat.reduceEqDiff, reduceIte, false_and, and_false, true_and, and_true, and_self, if_false, if_true, not_false_eq_true, not_true_eq_false, ne_eq]; exact h20, by simp only [put_apply, Nat.reduceEqDiff, reduceIte, false_and, and_false, true_and, and_true, and_self, if_false, if_true, not_false_eq_true, not_true_eq_false, ne_eq]; exact h24, fun i hi => ?_⟩ (hF.p1 (by simp))
            by_cases he : i = 2 * (τ.now.2.2 k).1 - 1
            · subst he
              rw [put_eq, hv hz]
              unfold rlf
              rw [if_neg (by omega)]
            · rw [put_ne (by simp [he]), hr i hi, if_pos (by omega)]
              unfold rlf
              rw [if_pos (by omega)]
        · omega
      · refine u_iloadn (k := 10) rfl rfl ?_
        refine u_aloadn (k := 11) rfl rfl ?_
        refine a_geti (k := 12) rfl fRX11_156 rfl rfl ?_
        rw [h20]
        refine a_icmp_ge (k := 13) rfl (fun c_19 => ?_) (fun c_19 => ?_)
        · refine u_aloadn (k := 26) rfl rfl ?_
          refine a_getr (k := 27) rfl fRX11_42 rfl rfl rfl ?_
          refine u_aloadn (k := 28) rfl rfl ?_
          refine a_geti (k := 29) rfl fRX11_156 rfl rfl ?_
          rw [h20]
          refine a_if_le (k := 30) rfl (fun c_50 => ?_) (fun c_50 => ?_)
          · refine a_iconst (k := 36) rfl ?_
            refine u_iloadn (k := 37) rfl rfl ?_
            refine u_iastx 0 (k := 38) rfl rfl rfl (by omega) (by omega) ?_
            exact T65 _ ⟨by simp only [put_apply, Nat.reduceEqDiff, reduceIte, false_and, and_false, true_and, and_true, and_self, if_false, if_true, not_false_eq_true, not_true_eq_false, ne_eq]; exact h20, by simp only [put_apply, Nat.reduceEqDiff, reduceIte, false_and, and_false, true_and, and_true, and_self, if_false, if_true, not_false_eq_true, not_true_eq_false, ne_eq]; exact h24, fun i hi => by omega⟩ (hF.p1 (by simp))
          · omega
        · omega
    | succ d ih =>
      intro q g2 v hq hq1 hv h20 h24 hr hF
      have hval : g2 50 0 q = ((τ.now.2.2 k).2.2 q : Int) := by rw [hr q (by omega), if_neg (by omega)]
      refine u_iloadn (k := 10) rfl rfl ?_
      refine u_aloadn (k := 11) rfl rfl ?_
      refine a_geti (k := 12) rfl fRX11_156 rfl rfl ?_
      rw [h20]
      refine a_icmp_ge (k := 13) rfl (fun c_19 => ?_) (fun c_19 => ?_)
      · omega
      · refine u_aloadn (k := 14) rfl rfl ?_
        refine a_getr (k := 15) rfl fRX11_42 rfl rfl rfl ?_
        refine u_iloadn (k := 16) rfl rfl ?_
        refine a_iconst (k := 17) rfl ?_
        refine u_isub (k := 18) rfl (by omega) ?_
        refine u_aloadn (k := 19) rfl rfl ?_
        refine a_getr (k := 20) rfl fRX11_42 rfl rfl rfl ?_
        refine u_iloadn (k := 21) rfl rfl ?_
        refine u_iald (k := 22) rfl rfl rfl (by omega) ?_
        rw [hval]
        refine u_iastx (q - 1) (k := 23) rfl rfl rfl (by omega) (by omega) ?_
        refine u_iinc (k := 24) (lv' := [(3, _), (2, _), (0, _), (1, _)]) rfl rfl (Nat.le_of_ble_eq_true rfl) (by omega) rfl ?_
        refine a_goto (k := 25) rfl ?_
        refine ih (q + 1) _ v (by omega) (by omega) hv (by simp only [put_apply, Nat.reduceEqDiff, reduceIte, false_and, and_false, true_and, and_true, and_self, if_false, if_true, not_false_eq_true, not_true_eq_false, ne_eq]; exact h20) (by simp only [put_apply, Nat.reduceEqDiff, reduceIte, false_and, and_false, true_and, and_true, and_self, if_false, if_true, not_false_eq_true, not_true_eq_false, ne_eq]; exact h24) (fun i hi => ?_) (hF.p1 (by simp))
        by_cases he : i = q - 1
        · subst he
          rw [put_eq, if_pos (by omega), show q - 1 + 1 = q by omega]
        · rw [put_ne (by simp [he]), hr i hi]
          by_cases hlt : i + 1 < q
          · rw [if_pos hlt, if_pos (by omega)]
          · rw [if_neg hlt, if_neg (by omega)]
  refine u_aloadn (k := 0) rfl rfl ?_
  refine u_iloadn (k := 1) rfl rfl ?_
  refine uv_virt1 (M' := mX11_loads) (k := 2) rfl lRX11_211 oX11_loads vX11_loads ⟨Nat.le_of_ble_eq_true rfl, Nat.le_of_ble_eq_true rfl⟩ rfl rfl (Nat.le_of_ble_eq_true rfl) (m_loads k _ g (by omega) h8 (hM.slot hk)) (by intro r g hp; exact hp.1) (fun g2 hg2 => ?_)
  obtain ⟨-, hR2, hF2⟩ := hg2
  refine u_aloadn (k := 3) rfl rfl ?_
  refine a_getr (k := 4) rfl fRX11_42 rfl rfl rfl ?_
  refine a_iconst (k := 5) rfl ?_
  refine u_ialdx 0 (k := 6) rfl rfl rfl (by omega) (by omega) ?_
  refine a_istoren (k := 7) (lv' := [(2, _), (0, _), (1, _)]) rfl (Nat.le_of_ble_eq_true rfl) rfl ?_
  refine a_iconst (k := 8) rfl ?_
  refine a_istoren (k := 9) (lv' := [(3, _), (2, _), (0, _), (1, _)]) rfl (Nat.le_of_ble_eq_true rfl) rfl ?_
  exact Lp (2 * (τ.now.2.2 k).1 - 1) 1 g2 _ (by omega) (by omega) (fun hz => hR2.2.2 0 (by omega)) hR2.1 hR2.2.1 (fun i hi => by rw [if_neg (by omega)]; exact hR2.2.2 i hi) hF2
theorem MP_tr {a : Int × AS} {h g g' : HH} {r : Option AV} (h1 : FMo h g) (h2 : MP a g r g') : MP a h r g' := ⟨h2.1, h2.2.1, h1.tr h2.2.2⟩
theorem n_roll {B : Nat} {σ : AS} {h : HH} (hW : WA B σ) (hM : MR σ h) (k : Int) : Sp mX11_roll [vr 40 0, vi k] h (MP (o_roll σ k) h) := by
  rcases kcase k σ.now.1 with hk | ⟨q, rfl, hk⟩
  · rw [show o_roll σ k = _ from on_no hk]
    refine Sp.of rfl kX11_roll (Nat.le_of_ble_eq_true rfl) ?_
    refine u_aloadn (k := 0) rfl rfl ?_
    refine u_iloadn (k := 1) rfl rfl ?_
    refine i_virt1 (M' := mX11_isOne) (k := 2) rfl lRX11_206 oX11_isOne vX11_isOne ⟨Nat.le_of_ble_eq_true rfl, Nat.le_of_ble_eq_true rfl⟩ rfl rfl (Nat.le_of_ble_eq_true rfl) (hM.one hW k) ?_
    rw [one_no hk]
    refine a_if_ne (k := 3) rfl (fun c_5 => ?_) (fun c_5 => ?_)
    · exact absurd rfl c_5
    · refine a_ldc (k := 4) rfl nRX11_210 ⟨by decide, by decide⟩ ?_
      refine a_ireturn (k := 5) rfl rfl ?_
      exact ⟨rfl, hM, FMo.rf⟩
  · have hWr := hW.now.2.2 q hk
    rw [show o_roll σ (q : Int) = _ from on_yes hk]
    have ho : o_pass (σ.rem.setR q (r_roll (σ.now.2.2 q))) q 0 = (if 0 < (σ.now.2.2 q).1 then ((r_roll (σ.now.2.2 q)).2.2 0 : Int) else -1, σ.rem.setR q (r_roll (σ.now.2.2 q))) := by
      refine (on_yes (σ := σ.rem.setR q (r_roll (σ.now.2.2 q))) hk).trans ?_
      have e : (σ.rem.setR q (r_roll (σ.now.2.2 q))).now.2.2 q = r_roll (σ.now.2.2 q) := un_eq _ _ _
      rw [e]
      refine congrArg (fun z => (z, σ.rem.setR q (r_roll (σ.now.2.2 q)))) ?_
      by_cases hz : 0 < (σ.now.2.2 q).1
      · rw [if_pos hz]
        exact if_pos ⟨Int.le_refl _, show (0 : Int) < 2 * ((σ.now.2.2 q).1 : Int) by omega⟩
      · rw [if_neg hz]
        refine if_neg (fun z => ?_)
        have z2 : (0 : Int) < 2 * ((σ.now.2.2 q).1 : Int) := z.2
        omega
    refine Sp.of rfl kX11_roll (Nat.le_of_ble_eq_true rfl) ?_
    refine u_aloadn (k := 0) rfl rfl ?_
    refine u_iloadn (k := 1) rfl rfl ?_
    refine i_virt1 (M' := mX11_isOne) (k := 2) rfl lRX11_206 oX11_isOne vX11_isOne ⟨Nat.le_of_ble_eq_true rfl, Nat.le_of_ble_eq_true rfl⟩ rfl rfl (Nat.le_of_ble_eq_true rfl) (hM.one hW q) ?_
    rw [one_yes hk]
    refine a_if_ne (k := 3) rfl (fun c_5 => ?_) (fun c_5 => ?_)
    · refine u_aloadn (k := 6) rfl rfl ?_
      refine uv_virt0 (M' := mX11_known) (k := 7) rfl lRX11_280 oX11_known vX11_known ⟨Nat.le_of_ble_eq_true rfl, Nat.le_of_ble_eq_true rfl⟩ rfl rfl (Nat.le_of_ble_eq_true rfl) (m_known hW hM) (by intro r g hp; exact hp.1) (fun g1 hg1 => ?_)
      obtain ⟨-, hM1, hF1⟩ := hg1
      refine u_aloadn (k := 8) rfl rfl ?_
      refine u_iloadn (k := 9) rfl rfl ?_
      refine uv_virt1 (M' := mX11_rolls) (k := 10) rfl lRX11_290 oX11_rolls vX11_rolls ⟨Nat.le_of_ble_eq_true rfl, Nat.le_of_ble_eq_true rfl⟩ rfl rfl (Nat.le_of_ble_eq_true rfl) (m_rolls hW.rem hM1 hk) (by intro r g hp; exact hp.1) (fun g2 hg2 => ?_)
      obtain ⟨-, hM2, hF2, -⟩ := hg2
      refine u_aloadn (k := 11) rfl rfl ?_
      refine u_iloadn (k := 12) rfl rfl ?_
      refine a_iconst (k := 13) rfl ?_
      refine ui_virt2 (M' := mX11_pass) (k := 14) rfl lRX11_293 oX11_pass vX11_pass ⟨Nat.le_of_ble_eq_true rfl, Nat.le_of_ble_eq_true rfl⟩ rfl rfl (Nat.le_of_ble_eq_true rfl) (n_pass (hW.rem.setR (WR_roll hWr)) hM2 q 0) (by intro r g hp; exact ⟨_, hp.1⟩) (fun z g3 hg3 => ?_)
      refine a_ireturn (k := 15) rfl rfl ?_
      rw [← ho]
      exact MP_tr ((FK.mo hF1).tr hF2) hg3
    · exact absurd c_5 (by decide)
