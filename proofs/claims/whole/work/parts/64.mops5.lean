theorem n_moves {B : Nat} {σ : AS} {h : HH} (hW : WA B σ) (hM : MR σ h) (k i : Int) : Sp mX11_moves [vr 40 0, vi k, vi i] h (MP (o_moves σ k i) h) := by
  rcases kcase k σ.now.1 with hk | ⟨q, rfl, hk⟩
  · rw [show o_moves σ k i = _ from on_no hk]
    refine Sp.of rfl kX11_moves (Nat.le_of_ble_eq_true rfl) ?_
    refine u_aloadn (k := 0) rfl rfl ?_
    refine u_iloadn (k := 1) rfl rfl ?_
    refine i_virt1 (M' := mX11_isOne) (k := 2) rfl lRX11_206 oX11_isOne vX11_isOne ⟨Nat.le_of_ble_eq_true rfl, Nat.le_of_ble_eq_true rfl⟩ rfl rfl (Nat.le_of_ble_eq_true rfl) (hM.one hW k) ?_
    rw [one_no hk]
    refine a_if_ne (k := 3) rfl (fun c_5 => ?_) (fun c_5 => ?_)
    · exact absurd rfl c_5
    · refine a_ldc (k := 4) rfl nRX11_210 ⟨by decide, by decide⟩ ?_
      refine a_ireturn (k := 5) rfl rfl ?_
      exact ⟨rfl, hM, FMo.rf⟩
  · have h5 := hW.now.1
    have hWr := hW.now.2.2 q hk
    have h8 := hWr.1
    have hs := (p8 h8).2
    have hs2 := hWr.2.1
    rw [show o_moves σ (q : Int) i = _ from on_yes hk]
    refine Sp.of rfl kX11_moves (Nat.le_of_ble_eq_true rfl) ?_
    refine u_aloadn (k := 0) rfl rfl ?_
    refine u_iloadn (k := 1) rfl rfl ?_
    refine i_virt1 (M' := mX11_isOne) (k := 2) rfl lRX11_206 oX11_isOne vX11_isOne ⟨Nat.le_of_ble_eq_true rfl, Nat.le_of_ble_eq_true rfl⟩ rfl rfl (Nat.le_of_ble_eq_true rfl) (hM.one hW q) ?_
    rw [one_yes hk]
    refine a_if_ne (k := 3) rfl (fun c_5 => ?_) (fun c_5 => ?_)
    · refine u_aloadn (k := 6) rfl rfl ?_
      refine u_iloadn (k := 7) rfl rfl ?_
      refine uv_virt1 (M' := mX11_loads) (k := 8) rfl lRX11_211 oX11_loads vX11_loads ⟨Nat.le_of_ble_eq_true rfl, Nat.le_of_ble_eq_true rfl⟩ rfl rfl (Nat.le_of_ble_eq_true rfl) (m_loads q _ h (by omega) h8 (hM.slot hk)) (by intro r g hp; exact hp.1) (fun g2 hg2 => ?_)
      obtain ⟨-, hR2, hF2⟩ := hg2
      refine u_aloadn (k := 9) rfl rfl ?_
      refine u_iloadn (k := 10) rfl rfl ?_
      refine ui_virt1 (M' := mX11_moveOf) (k := 11) rfl lRX11_214 oX11_moveOf vX11_moveOf ⟨Nat.le_of_ble_eq_true rfl, Nat.le_of_ble_eq_true rfl⟩ rfl rfl (Nat.le_of_ble_eq_true rfl) (m_moveOf _ _ i _ g2 h8 hWr.2.2.1 (by omega) hR2) (by intro r g hp; exact ⟨_, hp.1⟩) (fun z g3 hg3 => ?_)
      obtain ⟨hz, hF3⟩ := hg3; cases hz
      refine a_ireturn (k := 12) rfl rfl ?_
      exact ⟨rfl, (hM.scr hW (Fs_of hF2 (by simp [tms]) (by simp [kms]))).scr hW (Fs_of hF3 (by simp [tms]) (by simp [kms])), (Fr.mo hF2 (by simp) (by simp)).tr (Fr.mo hF3 (by simp) (by simp))⟩
    · exact absurd c_5 (by decide)
theorem n_toShake {B : Nat} {σ : AS} {h : HH} (hW : WA B σ) (hM : MR σ h) (k i : Int) : Sp mX11_toShake [vr 40 0, vi k, vi i] h (MP (o_toShake σ k i) h) := by
  rcases kcase k σ.now.1 with hk | ⟨q, rfl, hk⟩
  · rw [show o_toShake σ k i = _ from on_no hk]
    refine Sp.of rfl kX11_toShake (Nat.le_of_ble_eq_true rfl) ?_
    refine u_aloadn (k := 0) rfl rfl ?_
    refine u_iloadn (k := 1) rfl rfl ?_
    refine i_virt1 (M' := mX11_isOne) (k := 2) rfl lRX11_206 oX11_isOne vX11_isOne ⟨Nat.le_of_ble_eq_true rfl, Nat.le_of_ble_eq_true rfl⟩ rfl rfl (Nat.le_of_ble_eq_true rfl) (hM.one hW k) ?_
    rw [one_no hk]
    refine a_if_ne (k := 3) rfl (fun c_5 => ?_) (fun c_5 => ?_)
    · exact absurd rfl c_5
    · refine a_ldc (k := 4) rfl nRX11_210 ⟨by decide, by decide⟩ ?_
      refine a_ireturn (k := 5) rfl rfl ?_
      exact ⟨rfl, hM, FMo.rf⟩
  · have h5 := hW.now.1
    have hWr := hW.now.2.2 q hk
    have h8 := hWr.1
    have hs := (p8 h8).2
    have hs2 := hWr.2.1
    rw [show o_toShake σ (q : Int) i = _ from on_yes hk]
    by_cases hi : 0 ≤ i ∧ i ≤ 3
    · rw [if_pos hi]
      refine Sp.of rfl kX11_toShake (Nat.le_of_ble_eq_true rfl) ?_
      refine u_aloadn (k := 0) rfl rfl ?_
      refine u_iloadn (k := 1) rfl rfl ?_
      refine i_virt1 (M' := mX11_isOne) (k := 2) rfl lRX11_206 oX11_isOne vX11_isOne ⟨Nat.le_of_ble_eq_true rfl, Nat.le_of_ble_eq_true rfl⟩ rfl rfl (Nat.le_of_ble_eq_true rfl) (hM.one hW q) ?_
      rw [one_yes hk]
      refine a_if_ne (k := 3) rfl (fun c_5 => ?_) (fun c_5 => ?_)
      · refine u_iloadn (k := 6) rfl rfl ?_
        refine a_i2l (k := 7) rfl ?_
        refine a_lconst (k := 8) rfl ?_
        refine a_ldc2 (k := 9) rfl nRX11_217 ⟨by decide, by decide⟩ ?_
        refine i_stat3 (M' := mX11_in) (k := 10) rfl lRX11_81 oX11_in vX11_in ⟨Nat.le_of_ble_eq_true rfl, Nat.le_of_ble_eq_true rfl⟩ rfl (Nat.le_of_ble_eq_true rfl) (m_in i 0 3 h) ?_
        rw [inb_t hi]
        refine a_if_ne (k := 11) rfl (fun c_20 => ?_) (fun c_20 => ?_)
        · refine u_aloadn (k := 14) rfl rfl ?_
          refine u_iloadn (k := 15) rfl rfl ?_
          refine uv_virt1 (M' := mX11_loads) (k := 16) rfl lRX11_211 oX11_loads vX11_loads ⟨Nat.le_of_ble_eq_true rfl, Nat.le_of_ble_eq_true rfl⟩ rfl rfl (Nat.le_of_ble_eq_true rfl) (m_loads q _ h (by omega) h8 (hM.slot hk)) (by intro r g hp; exact hp.1) (fun g2 hg2 => ?_)
          obtain ⟨-, hR2, hF2⟩ := hg2
          refine u_aloadn (k := 17) rfl rfl ?_
          refine u_aloadn (k := 18) rfl rfl ?_
          refine a_geti (k := 19) rfl fRX11_159 rfl rfl ?_
          refine u_iloadn (k := 20) rfl rfl ?_
          rw [hR2.2.1]
          refine ui_virt2 (M' := mX11_shaken) (k := 21) rfl lRX11_219 oX11_shaken vX11_shaken ⟨Nat.le_of_ble_eq_true rfl, Nat.le_of_ble_eq_true rfl⟩ rfl rfl (Nat.le_of_ble_eq_true rfl) (m_shaken _ _ _ i _ g2 h8 hWr.2.2.1 hR2 (by omega)) (by intro r g hp; exact ⟨_, hp.1⟩) (fun z g3 hg3 => ?_)
          obtain ⟨hz, hF3⟩ := hg3; cases hz
          refine a_ireturn (k := 22) rfl rfl ?_
          exact ⟨rfl, (hM.scr hW (Fs_of hF2 (by simp [tms]) (by simp [kms]))).scr hW (Fs_of hF3 (by simp [tms, tsk]) (by simp [kms, ksk])), (Fr.mo hF2 (by simp) (by simp)).tr (Fr.mo hF3 (by simp [tsk]) (by simp [ksk]))⟩
        · exact absurd c_20 (by decide)
      · exact absurd c_5 (by decide)
    · rw [if_neg hi]
      refine Sp.of rfl kX11_toShake (Nat.le_of_ble_eq_true rfl) ?_
      refine u_aloadn (k := 0) rfl rfl ?_
      refine u_iloadn (k := 1) rfl rfl ?_
      refine i_virt1 (M' := mX11_isOne) (k := 2) rfl lRX11_206 oX11_isOne vX11_isOne ⟨Nat.le_of_ble_eq_true rfl, Nat.le_of_ble_eq_true rfl⟩ rfl rfl (Nat.le_of_ble_eq_true rfl) (hM.one hW q) ?_
      rw [one_yes hk]
      refine a_if_ne (k := 3) rfl (fun c_5 => ?_) (fun c_5 => ?_)
      · refine u_iloadn (k := 6) rfl rfl ?_
        refine a_i2l (k := 7) rfl ?_
        refine a_lconst (k := 8) rfl ?_
        refine a_ldc2 (k := 9) rfl nRX11_217 ⟨by decide, by decide⟩ ?_
        refine i_stat3 (M' := mX11_in) (k := 10) rfl lRX11_81 oX11_in vX11_in ⟨Nat.le_of_ble_eq_true rfl, Nat.le_of_ble_eq_true rfl⟩ rfl (Nat.le_of_ble_eq_true rfl) (m_in i 0 3 h) ?_
        rw [inb_f hi]
        refine a_if_ne (k := 11) rfl (fun c_20 => ?_) (fun c_20 => ?_)
        · exact absurd rfl c_20
        · refine a_ldc (k := 12) rfl nRX11_97 ⟨by decide, by decide⟩ ?_
          refine a_ireturn (k := 13) rfl rfl ?_
          exact ⟨rfl, hM, FMo.rf⟩
      · exact absurd c_5 (by decide)
theorem mem_mm {p : Nat → Nat → Bool} {a b : Nat} (ha : a < 8) (hb : b < 8) (hab : a ≤ b) : 10 * a + b ∈ mm p 64 ↔ p a b = true := by
  unfold mm
  rw [List.mem_map]
  constructor
  · rintro ⟨m, hm, he⟩
    rw [List.mem_filter, List.mem_range, Bool.and_eq_true] at hm
    have h1 : m / 8 = a := by omega
    have h2 : m % 8 = b := by omega
    rw [← h1, ← h2]
    exact hm.2.2
  · intro hp
    refine ⟨8 * a + b, ?_, by omega⟩
    rw [List.mem_filter, List.mem_range, Bool.and_eq_true, show (8 * a + b) / 8 = a by omega, show (8 * a + b) % 8 = b by omega, decide_eq_true_iff]
    exact ⟨by omega, hab, hp⟩
theorem bes_sym (n p q : Nat) : bes n p q = bes n q p := by
  unfold bes ofd
  by_cases h : p < q
  · rw [if_pos h, if_neg (by omega)]
  · by_cases h2 : q < p
    · rw [if_neg h, if_pos h2]
    · rw [if_neg h, if_neg h2, show p = q by omega]
theorem imv_sym (n : Nat) (o u : Nat → Nat) (S H a b : Nat) : imv n o u S H a b = imv n o u S H b a := by
  unfold imv
  by_cases h : a = b
  · rw [h]
  · rw [if_neg h, if_neg (fun z => h z.symm), bes_sym n (o a), bes_sym n (u a)]
    cases S.testBit a <;> cases S.testBit b <;> cases H.testBit a <;> cases H.testBit b <;> rfl
theorem rmv_255 {c H a b : Nat} {G : Nat → Nat} (hV : VT c G) (h8 : c ≤ 8) (ha : a < c) (hb : b < c) : imv (tr_ G 255 0 (2 * c)).length (oG G 255 c) (uG G 255 c) 255 H a b = rmv G c (2 ^ c - 1) H a b := by
  have pk : ∀ v, v < 2 * c → pos G v (2 * c) ≤ 2 * c := fun v hv => Nat.le_of_lt (pos_ok (VT_sur hV hv)).1
  have ho : ∀ x, x < c → oG G 255 c x = oG G (2 ^ c - 1) c x := fun x hx => by unfold oG; rw [tr_255 hV h8 (pk _ (by omega))]
  have hu : ∀ x, x < c → uG G 255 c x = uG G (2 ^ c - 1) c x := fun x hx => by unfold uG; rw [tr_255 hV h8 (pk _ (by omega))]
  have ht : ∀ x, x < c → (255 : Nat).testBit x = (2 ^ c - 1).testBit x := fun x hx => by rw [tb_all hx, show (255 : Nat) = 2 ^ 8 - 1 from rfl, tb_all (by omega)]
  unfold rmv imv
  rw [tr_255 hV h8 (Nat.le_refl _), ho a ha, ho b hb, hu a ha, hu b hb, ht a ha, ht b hb]
theorem shk_mem {c s a b : Nat} {G : Nat → Nat} (hV : VT c G) (h8 : c ≤ 8) (ha : a < c) (hb : b < c) : imv (tr_ G 255 0 (2 * c)).length (oG G 255 c) (uG G 255 c) 255 s a b = true ↔ 10 * min a b + max a b ∈ mls G c (2 ^ c - 1) 0 s := by
  have hp : 0 < 2 ^ c := Nat.pow_pos (by omega)
  rw [rmv_255 hV h8 ha hb, mls_mm hV (by omega), mem_mm (by omega) (by omega) (by omega)]
  rcases Nat.le_total a b with h | h
  · rw [show min a b = a by omega, show max a b = b by omega]
  · rw [show min a b = b by omega, show max a b = a by omega]
    unfold rmv
    rw [imv_sym]
theorem n_shake {B : Nat} {σ : AS} {h : HH} (hW : WA B σ) (hM : MR σ h) (k c d : Int) : Sp mX11_shake [vr 40 0, vi k, vi c, vi d] h (MP (o_shake σ k c d) h) := by
  rcases kcase k σ.now.1 with hk | ⟨q, rfl, hk⟩
  · rw [show o_shake σ k c d = _ from on_no hk]
    refine Sp.of rfl kX11_shake (Nat.le_of_ble_eq_true rfl) ?_
    refine u_aloadn (k := 0) rfl rfl ?_
    refine u_iloadn (k := 1) rfl rfl ?_
    refine i_virt1 (M' := mX11_isOne) (k := 2) rfl lRX11_206 oX11_isOne vX11_isOne ⟨Nat.le_of_ble_eq_true rfl, Nat.le_of_ble_eq_true rfl⟩ rfl rfl (Nat.le_of_ble_eq_true rfl) (hM.one hW k) ?_
    rw [one_no hk]
    refine a_if_eq (k := 3) rfl (fun c_5 => ?_) (fun c_5 => ?_)
    · refine a_ldc (k := 14) rfl nRX11_210 ⟨by decide, by decide⟩ ?_
      refine a_ireturn (k := 15) rfl rfl ?_
      exact ⟨rfl, hM, FMo.rf⟩
    · exact absurd rfl c_5
  · have h5 := hW.now.1
    have hWr := hW.now.2.2 q hk
    have h8 := hWr.1
    have hs := (p8 h8).2
    have hs2 := hWr.2.1
    have hV := hWr.2.2.1
    rw [show o_shake σ (q : Int) c d = _ from on_yes hk]
    by_cases hc : 0 ≤ c ∧ c < ((σ.now.2.2 q).1 : Int)
    · by_cases hd : 0 ≤ d ∧ d < ((σ.now.2.2 q).1 : Int)
      · obtain ⟨a, rfl⟩ : ∃ a : Nat, c = (a : Int) := ⟨c.toNat, by omega⟩
        obtain ⟨b, rfl⟩ : ∃ b : Nat, d = (b : Int) := ⟨d.toNat, by omega⟩
        have ha : a < (σ.now.2.2 q).1 := by omega
        have hb : b < (σ.now.2.2 q).1 := by omega
        have pa_ : (2 ^ a : Nat) < 2 ^ 31 := Nat.pow_lt_pow_right (by omega) (by omega)
        have pb_ : (2 ^ b : Nat) < 2 ^ 31 := Nat.pow_lt_pow_right (by omega) (by omega)
        rw [if_pos ⟨hc, hd⟩, Int.toNat_natCast, Int.toNat_natCast]
        have hmem := shk_mem (s := (σ.now.2.2 q).2.1) hV h8 ha hb
        have hWt : WR (r_take (σ.now.2.2 q) (2 ^ a ||| 2 ^ b)) := WR_take hWr
        have hlen := kp_len (σ.now.2.2 q).2.2 (2 ^ a ||| 2 ^ b) (2 * (σ.now.2.2 q).1)
        have hmny := RT_mny (RT_kp (S := 2 ^ a ||| 2 ^ b) (VT_RT hV))
        have hmv : ∀ g : HH, LH (σ.now.2.2 q).2.2 255 (2 * (σ.now.2.2 q).1) g → SpI mX11_isMove [vr 40 0, vi 255, vi (σ.now.2.2 q).2.1, vi a, vi b] g (b01 (imv (tr_ (σ.now.2.2 q).2.2 255 0 (2 * (σ.now.2.2 q).1)).length (oG (σ.now.2.2 q).2.2 255 (σ.now.2.2 q).1) (uG (σ.now.2.2 q).2.2 255 (σ.now.2.2 q).1) 255 (σ.now.2.2 q).2.1 a b)) g := fun g hL => by
          have hl := tr_len (σ.now.2.2 q).2.2 255 0 (2 * (σ.now.2.2 q).1)
          exact m_isMove _ 255 _ a b _ _ g hL.1 (by omega) (by omega) (by omega) (by omega) (by omega) (fun z => hL.ou hV h8 ha z) (fun z => hL.ou hV h8 hb z)
        by_cases hm : 10 * min a b + max a b ∈ r_mls (σ.now.2.2 q)
        · rw [if_pos hm]
          have him := hmem.mpr hm
          refine Sp.of rfl kX11_shake (Nat.le_of_ble_eq_true rfl) ?_
          refine u_aloadn (k := 0) rfl rfl ?_
          refine u_iloadn (k := 1) rfl rfl ?_
          refine i_virt1 (M' := mX11_isOne) (k := 2) rfl lRX11_206 oX11_isOne vX11_isOne ⟨Nat.le_of_ble_eq_true rfl, Nat.le_of_ble_eq_true rfl⟩ rfl rfl (Nat.le_of_ble_eq_true rfl) (hM.one hW q) ?_
          rw [one_yes hk]
          refine a_if_eq (k := 3) rfl (fun c_5 => ?_) (fun c_5 => ?_)
          · exact absurd c_5 (by decide)
          · refine u_aloadn (k := 4) rfl rfl ?_
            refine u_iloadn (k := 5) rfl rfl ?_
            refine u_iloadn (k := 6) rfl rfl ?_
            refine i_virt2 (M' := mX11_isCrossing) (k := 7) rfl lRX11_264 oX11_isCrossing vX11_isCrossing ⟨Nat.le_of_ble_eq_true rfl, Nat.le_of_ble_eq_true rfl⟩ rfl rfl (Nat.le_of_ble_eq_true rfl) (m_isCrossing q a _ h (by omega) h8 (hM.slot hk)) ?_
            rw [decide_eq_true hc]
            refine a_if_eq (k := 8) rfl (fun c_14 => ?_) (fun c_14 => ?_)
            · exact absurd c_14 (by decide)
            · refine u_aloadn (k := 9) rfl rfl ?_
              refine u_iloadn (k := 10) rfl rfl ?_
              refine u_iloadn (k := 11) rfl rfl ?_
              refine i_virt2 (M' := mX11_isCrossing) (k := 12) rfl lRX11_264 oX11_isCrossing vX11_isCrossing ⟨Nat.le_of_ble_eq_true rfl, Nat.le_of_ble_eq_true rfl⟩ rfl rfl (Nat.le_of_ble_eq_true rfl) (m_isCrossing q b _ h (by omega) h8 (hM.slot hk)) ?_
              rw [decide_eq_true hd]
              refine a_if_ne (k := 13) rfl (fun c_23 => ?_) (fun c_23 => ?_)
              · refine u_aloadn (k := 16) rfl rfl ?_
                refine u_iloadn (k := 17) rfl rfl ?_
                refine uv_virt1 (M' := mX11_loads) (k := 18) rfl lRX11_211 oX11_loads vX11_loads ⟨Nat.le_of_ble_eq_true rfl, Nat.le_of_ble_eq_true rfl⟩ rfl rfl (Nat.le_of_ble_eq_true rfl) (m_loads q _ h (by omega) h8 (hM.slot hk)) (by intro r g hp; exact hp.1) (fun g2 hg2 => ?_)
                obtain ⟨-, hR2, hF2⟩ := hg2
                refine u_aloadn (k := 19) rfl rfl ?_
                refine a_sipush (k := 20) rfl ?_
                refine uv_virt1 (M' := mX11_leaves) (k := 21) rfl lRX11_185 oX11_leaves vX11_leaves ⟨Nat.le_of_ble_eq_true rfl, Nat.le_of_ble_eq_true rfl⟩ rfl rfl (Nat.le_of_ble_eq_true rfl) (m_leaves _ _ 255 _ g2 (by omega) (by omega) hR2 (hV.s h8) hV.2) (by intro r g hp; exact hp.1) (fun g3 hg3 => ?_)
                obtain ⟨-, hL3, hF3⟩ := hg3
                have h24 : g3 40 0 24 = ((σ.now.2.2 q).2.1 : Int) := by rw [hF3 40 0 24 (by simp) (by simp)]; exact hR2.2.1
                have hM3 : MR σ g3 := (hM.scr hW (Fs_of hF2 (by simp [tms]) (by simp [kms]))).scr hW (Fs_of hF3 (by simp [tms]) (by simp [kms]))
                have hfm3 : FMo h g3 := (Fr.mo hF2 (by simp) (by simp)).tr (Fr.mo hF3 (by simp) (by simp))
                have hR3 : RW (2 * (σ.now.2.2 q).1) (σ.now.2.2 q).2.2 (σ.now.2.2 q).2.1 g3 := hR2.keep (hF3 40 0 20 (by simp) (by simp)) (hF3 40 0 24 (by simp) (by simp)) (fun k => hF3 50 0 k (by simp) (by simp))
                refine u_aloadn (k := 22) rfl rfl ?_
                refine a_sipush (k := 23) rfl ?_
                refine u_aloadn (k := 24) rfl rfl ?_
                refine a_geti (k := 25) rfl fRX11_159 rfl rfl ?_
                refine u_iloadn (k := 26) rfl rfl ?_
                refine u_iloadn (k := 27) rfl rfl ?_
                rw [h24]
                refine i_virt4 (M' := mX11_isMove) (k := 28) rfl lRX11_188 oX11_isMove vX11_isMove ⟨Nat.le_of_ble_eq_true rfl, Nat.le_of_ble_eq_true rfl⟩ rfl rfl (Nat.le_of_ble_eq_true rfl) (hmv g3 hL3) ?_
                rw [him]
                refine a_if_ne (k := 29) rfl (fun c_54 => ?_) (fun c_54 => ?_)
                · refine u_aloadn (k := 32) rfl rfl ?_
                  refine uv_virt0 (M' := mX11_known) (k := 33) rfl lRX11_280 oX11_known vX11_known ⟨Nat.le_of_ble_eq_true rfl, Nat.le_of_ble_eq_true rfl⟩ rfl rfl (Nat.le_of_ble_eq_true rfl) (m_known hW hM3) (by intro r g hp; exact hp.1) (fun g4 hg4 => ?_)
                  obtain ⟨-, hM4, hF4⟩ := hg4
                  have hR4 : RW (2 * (σ.now.2.2 q).1) (σ.now.2.2 q).2.2 (σ.now.2.2 q).2.1 g4 := hR3.keep (hF4 40 0 20 (by omega) (by omega)) (hF4 40 0 24 (by omega) (by omega)) (fun k => hF4 50 0 k (by omega) (by omega))
                  refine u_aloadn (k := 34) rfl rfl ?_
                  refine a_iconst (k := 35) rfl ?_
                  refine u_iloadn (k := 36) rfl rfl ?_
                  refine a_ishl (k := 37) rfl ?_
                  refine a_iconst (k := 38) rfl ?_
                  refine u_iloadn (k := 39) rfl rfl ?_
                  refine a_ishl (k := 40) rfl ?_
                  rw [shl1 (by omega), shl1 (by omega)]
                  refine a_ior (k := 41) rfl ?_
                  rw [ior_nat pa_ pb_]
                  refine uv_virt1 (M' := mX11_drops) (k := 42) rfl lRX11_283 oX11_drops vX11_drops ⟨Nat.le_of_ble_eq_true rfl, Nat.le_of_ble_eq_true rfl⟩ rfl rfl (Nat.le_of_ble_eq_true rfl) (m_drops _ _ (2 ^ a ||| 2 ^ b) _ g4 (by omega) (Nat.or_lt_two_pow pa_ pb_) hR4 (hV.b h8)) (by intro r g hp; exact hp.1) (fun g5 hg5 => ?_)
                  obtain ⟨-, hR5, hF5⟩ := hg5
                  refine u_aloadn (k := 43) rfl rfl ?_
                  refine u_iloadn (k := 44) rfl rfl ?_
                  refine uv_virt1 (M' := mX11_stores) (k := 45) rfl lRX11_162 oX11_stores vX11_stores ⟨Nat.le_of_ble_eq_true rfl, Nat.le_of_ble_eq_true rfl⟩ rfl rfl (Nat.le_of_ble_eq_true rfl) (m_put (r_take (σ.now.2.2 q) (2 ^ a ||| 2 ^ b)) hW.rem (hM4.scr hW.rem (Fs_of hF5 (by simp [tms]) (by simp [kms]))) hk (by omega) (by omega) hR5 (kp_lt (hV.b h8)) (by unfold r_take; dsimp only; omega) (by unfold r_take; dsimp only; congr 1; omega) (fun _ _ => rfl)) (by intro r g hp; exact hp.1) (fun g6 hg6 => ?_)
                  obtain ⟨-, hM6, hF6, hRM6⟩ := hg6
                  refine u_aloadn (k := 46) rfl rfl ?_
                  refine u_iloadn (k := 47) rfl rfl ?_
                  refine i_virt1 (M' := mX11_crossings) (k := 48) rfl lRX11_92 oX11_crossings vX11_crossings ⟨Nat.le_of_ble_eq_true rfl, Nat.le_of_ble_eq_true rfl⟩ rfl rfl (Nat.le_of_ble_eq_true rfl) (m_crossings q _ g6 (by omega) hRM6) ?_
                  refine a_ireturn (k := 49) rfl rfl ?_
                  exact ⟨rfl, hM6, ((hfm3.tr (FK.mo hF4)).tr (Fr.mo hF5 (by simp) (by simp))).tr (Fq.mo hF6 (by simp) (by simp))⟩
                · exact absurd c_54 (by decide)
              · exact absurd c_23 (by decide)
        · rw [if_neg hm]
          have him := Bool.eq_false_iff.mpr (fun z => hm (hmem.mp z))
          refine Sp.of rfl kX11_shake (Nat.le_of_ble_eq_true rfl) ?_
          refine u_aloadn (k := 0) rfl rfl ?_
          refine u_iloadn (k := 1) rfl rfl ?_
          refine i_virt1 (M' := mX11_isOne) (k := 2) rfl lRX11_206 oX11_isOne vX11_isOne ⟨Nat.le_of_ble_eq_true rfl, Nat.le_of_ble_eq_true rfl⟩ rfl rfl (Nat.le_of_ble_eq_true rfl) (hM.one hW q) ?_
          rw [one_yes hk]
          refine a_if_eq (k := 3) rfl (fun c_5 => ?_) (fun c_5 => ?_)
          · exact absurd c_5 (by decide)
          · refine u_aloadn (k := 4) rfl rfl ?_
            refine u_iloadn (k := 5) rfl rfl ?_
            refine u_iloadn (k := 6) rfl rfl ?_
            refine i_virt2 (M' := mX11_isCrossing) (k := 7) rfl lRX11_264 oX11_isCrossing vX11_isCrossing ⟨Nat.le_of_ble_eq_true rfl, Nat.le_of_ble_eq_true rfl⟩ rfl rfl (Nat.le_of_ble_eq_true rfl) (m_isCrossing q a _ h (by omega) h8 (hM.slot hk)) ?_
            rw [decide_eq_true hc]
            refine a_if_eq (k := 8) rfl (fun c_14 => ?_) (fun c_14 => ?_)
            · exact absurd c_14 (by decide)
            · refine u_aloadn (k := 9) rfl rfl ?_
              refine u_iloadn (k := 10) rfl rfl ?_
              refine u_iloadn (k := 11) rfl rfl ?_
              refine i_virt2 (M' := mX11_isCrossing) (k := 12) rfl lRX11_264 oX11_isCrossing vX11_isCrossing ⟨Nat.le_of_ble_eq_true rfl, Nat.le_of_ble_eq_true rfl⟩ rfl rfl (Nat.le_of_ble_eq_true rfl) (m_isCrossing q b _ h (by omega) h8 (hM.slot hk)) ?_
              rw [decide_eq_true hd]
              refine a_if_ne (k := 13) rfl (fun c_23 => ?_) (fun c_23 => ?_)
              · refine u_aloadn (k := 16) rfl rfl ?_
                refine u_iloadn (k := 17) rfl rfl ?_
                refine uv_virt1 (M' := mX11_loads) (k := 18) rfl lRX11_211 oX11_loads vX11_loads ⟨Nat.le_of_ble_eq_true rfl, Nat.le_of_ble_eq_true rfl⟩ rfl rfl (Nat.le_of_ble_eq_true rfl) (m_loads q _ h (by omega) h8 (hM.slot hk)) (by intro r g hp; exact hp.1) (fun g2 hg2 => ?_)
                obtain ⟨-, hR2, hF2⟩ := hg2
                refine u_aloadn (k := 19) rfl rfl ?_
                refine a_sipush (k := 20) rfl ?_
                refine uv_virt1 (M' := mX11_leaves) (k := 21) rfl lRX11_185 oX11_leaves vX11_leaves ⟨Nat.le_of_ble_eq_true rfl, Nat.le_of_ble_eq_true rfl⟩ rfl rfl (Nat.le_of_ble_eq_true rfl) (m_leaves _ _ 255 _ g2 (by omega) (by omega) hR2 (hV.s h8) hV.2) (by intro r g hp; exact hp.1) (fun g3 hg3 => ?_)
                obtain ⟨-, hL3, hF3⟩ := hg3
                have h24 : g3 40 0 24 = ((σ.now.2.2 q).2.1 : Int) := by rw [hF3 40 0 24 (by simp) (by simp)]; exact hR2.2.1
                have hM3 : MR σ g3 := (hM.scr hW (Fs_of hF2 (by simp [tms]) (by simp [kms]))).scr hW (Fs_of hF3 (by simp [tms]) (by simp [kms]))
                have hfm3 : FMo h g3 := (Fr.mo hF2 (by simp) (by simp)).tr (Fr.mo hF3 (by simp) (by simp))
                refine u_aloadn (k := 22) rfl rfl ?_
                refine a_sipush (k := 23) rfl ?_
                refine u_aloadn (k := 24) rfl rfl ?_
                refine a_geti (k := 25) rfl fRX11_159 rfl rfl ?_
                refine u_iloadn (k := 26) rfl rfl ?_
                refine u_iloadn (k := 27) rfl rfl ?_
                rw [h24]
                refine i_virt4 (M' := mX11_isMove) (k := 28) rfl lRX11_188 oX11_isMove vX11_isMove ⟨Nat.le_of_ble_eq_true rfl, Nat.le_of_ble_eq_true rfl⟩ rfl rfl (Nat.le_of_ble_eq_true rfl) (hmv g3 hL3) ?_
                rw [him]
                refine a_if_ne (k := 29) rfl (fun c_54 => ?_) (fun c_54 => ?_)
                · exact absurd rfl c_54
                · refine a_ldcw (k := 30) rfl nRX11_279 ⟨by decide, by decide⟩ ?_
                  refine a_ireturn (k := 31) rfl rfl ?_
                  exact ⟨rfl, hM3, hfm3⟩
              · exact absurd c_23 (by decide)
      · rw [if_neg (fun z => hd z.2)]
        refine Sp.of rfl kX11_shake (Nat.le_of_ble_eq_true rfl) ?_
        refine u_aloadn (k := 0) rfl rfl ?_
        refine u_iloadn (k := 1) rfl rfl ?_
        refine i_virt1 (M' := mX11_isOne) (k := 2) rfl lRX11_206 oX11_isOne vX11_isOne ⟨Nat.le_of_ble_eq_true rfl, Nat.le_of_ble_eq_true rfl⟩ rfl rfl (Nat.le_of_ble_eq_true rfl) (hM.one hW q) ?_
        rw [one_yes hk]
        refine a_if_eq (k := 3) rfl (fun c_5 => ?_) (fun c_5 => ?_)
        · exact absurd c_5 (by decide)
        · refine u_aloadn (k := 4) rfl rfl ?_
          refine u_iloadn (k := 5) rfl rfl ?_
          refine u_iloadn (k := 6) rfl rfl ?_
          refine i_virt2 (M' := mX11_isCrossing) (k := 7) rfl lRX11_264 oX11_isCrossing vX11_isCrossing ⟨Nat.le_of_ble_eq_true rfl, Nat.le_of_ble_eq_true rfl⟩ rfl rfl (Nat.le_of_ble_eq_true rfl) (m_isCrossing q c _ h (by omega) h8 (hM.slot hk)) ?_
          rw [decide_eq_true hc]
          refine a_if_eq (k := 8) rfl (fun c_14 => ?_) (fun c_14 => ?_)
          · exact absurd c_14 (by decide)
          · refine u_aloadn (k := 9) rfl rfl ?_
            refine u_iloadn (k := 10) rfl rfl ?_
            refine u_iloadn (k := 11) rfl rfl ?_
            refine i_virt2 (M' := mX11_isCrossing) (k := 12) rfl lRX11_264 oX11_isCrossing vX11_isCrossing ⟨Nat.le_of_ble_eq_true rfl, Nat.le_of_ble_eq_true rfl⟩ rfl rfl (Nat.le_of_ble_eq_true rfl) (m_isCrossing q d _ h (by omega) h8 (hM.slot hk)) ?_
            rw [decide_eq_false hd]
            refine a_if_ne (k := 13) rfl (fun c_23 => ?_) (fun c_23 => ?_)
            · exact absurd rfl c_23
            · refine a_ldc (k := 14) rfl nRX11_210 ⟨by decide, by decide⟩ ?_
              refine a_ireturn (k := 15) rfl rfl ?_
              exact ⟨rfl, hM, FMo.rf⟩
    · rw [if_neg (fun z => hc z.1)]
      refine Sp.of rfl kX11_shake (Nat.le_of_ble_eq_true rfl) ?_
      refine u_aloadn (k := 0) rfl rfl ?_
      refine u_iloadn (k := 1) rfl rfl ?_
      refine i_virt1 (M' := mX11_isOne) (k := 2) rfl lRX11_206 oX11_isOne vX11_isOne ⟨Nat.le_of_ble_eq_true rfl, Nat.le_of_ble_eq_true rfl⟩ rfl rfl (Nat.le_of_ble_eq_true rfl) (hM.one hW q) ?_
      rw [one_yes hk]
      refine a_if_eq (k := 3) rfl (fun c_5 => ?_) (fun c_5 => ?_)
      · exact absurd c_5 (by decide)
      · refine u_aloadn (k := 4) rfl rfl ?_
        refine u_iloadn (k := 5) rfl rfl ?_
        refine u_iloadn (k := 6) rfl rfl ?_
        refine i_virt2 (M' := mX11_isCrossing) (k := 7) rfl lRX11_264 oX11_isCrossing vX11_isCrossing ⟨Nat.le_of_ble_eq_true rfl, Nat.le_of_ble_eq_true rfl⟩ rfl rfl (Nat.le_of_ble_eq_true rfl) (m_isCrossing q c _ h (by omega) h8 (hM.slot hk)) ?_
        rw [decide_eq_false hc]
        refine a_if_eq (k := 8) rfl (fun c_14 => ?_) (fun c_14 => ?_)
        · refine a_ldc (k := 14) rfl nRX11_210 ⟨by decide, by decide⟩ ?_
          refine a_ireturn (k := 15) rfl rfl ?_
          exact ⟨rfl, hM, FMo.rf⟩
        · exact absurd rfl c_14
